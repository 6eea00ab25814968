/-! ===== Grid_init ===== -/
def c_Grid_init_20 : List eg_I := .inl (20, 1, .return_, 0, 0) :: []
def c_Grid_init_17 : List eg_I := .inl (17, 3, .putfield 15, 6, 1) :: c_Grid_init_20
def c_Grid_init_15 : List eg_I := .inl (15, 2, .newarray .int, 0, 0) :: c_Grid_init_17
def c_Grid_init_13 : List eg_I := .inl (13, 2, .iconst (9), 0, 0) :: c_Grid_init_15
def c_Grid_init_12 : List eg_I := .inl (12, 1, .aload 0, 0, 0) :: c_Grid_init_13
def c_Grid_init_9 : List eg_I := .inl (9, 3, .putfield 9, 6, 0) :: c_Grid_init_12
def c_Grid_init_7 : List eg_I := .inl (7, 2, .newarray .int, 0, 0) :: c_Grid_init_9
def c_Grid_init_5 : List eg_I := .inl (5, 2, .iconst (9), 0, 0) :: c_Grid_init_7
def c_Grid_init_4 : List eg_I := .inl (4, 1, .aload 0, 0, 0) :: c_Grid_init_5
def c_Grid_init_1 : List eg_I := .inl (1, 3, .athrow, 3, 0) :: c_Grid_init_4
def c_Grid_init_0 : List eg_I := .inl (0, 1, .aload 0, 0, 0) :: c_Grid_init_1
section
variable {rm : Room} {K : Nat → Nat → Nat → eg_Lo → List Value → List eg_E → Prop} {Q : Option Value → List eg_E → Prop} {kc ks : Nat} {loc : eg_Lo} {st : List Value} {h : List eg_E}
theorem s_Grid_init_0 {x : Nat} {l : eg_Lo} : wps rm K Q c_Grid_init_0 kc ks (some (.ref x) :: l) (st) h = wps rm K Q c_Grid_init_1 kc ks (some (.ref x) :: l) (.ref x :: st) h := rfl
theorem s_Grid_init_1 {x : Nat} : wps rm K Q c_Grid_init_1 kc ks loc (.ref (x + 1) :: st) h = (st.length ≤ 4 ∧ wps rm K Q c_Grid_init_4 kc ks loc (st) h) := rfl
theorem s_Grid_init_4 {x : Nat} {l : eg_Lo} : wps rm K Q c_Grid_init_4 kc ks (some (.ref x) :: l) (st) h = wps rm K Q c_Grid_init_5 kc ks (some (.ref x) :: l) (.ref x :: st) h := rfl
theorem s_Grid_init_5  : wps rm K Q c_Grid_init_5 kc ks loc (st) h = wps rm K Q c_Grid_init_7 kc ks loc (.int (9) :: st) h := rfl
theorem s_Grid_init_7 {x : Int32} : wps rm K Q c_Grid_init_7 kc ks loc (.int x :: st) h = (¬ x < 0 ∧ x.toNatClampNeg ≤ 1000 ∧ kc + 1 ≤ rm.cells ∧ ks + x.toNatClampNeg ≤ rm.slots ∧ wps rm K Q c_Grid_init_9 (kc + 1) (ks + x.toNatClampNeg) loc (.ref (h.length + 1) :: st) (h ++ [.inl (0, eg_zero 0 x.toNatClampNeg)])) := rfl
theorem s_Grid_init_9 {x : Nat} {v : Value} : wps rm K Q c_Grid_init_9 kc ks loc (v :: .ref (x + 1) :: st) h = eg_pf h x 6 0 v (fun h9 => wps rm K Q c_Grid_init_12 kc ks loc (st) h9) := rfl
theorem s_Grid_init_12 {x : Nat} {l : eg_Lo} : wps rm K Q c_Grid_init_12 kc ks (some (.ref x) :: l) (st) h = wps rm K Q c_Grid_init_13 kc ks (some (.ref x) :: l) (.ref x :: st) h := rfl
theorem s_Grid_init_13  : wps rm K Q c_Grid_init_13 kc ks loc (st) h = wps rm K Q c_Grid_init_15 kc ks loc (.int (9) :: st) h := rfl
theorem s_Grid_init_15 {x : Int32} : wps rm K Q c_Grid_init_15 kc ks loc (.int x :: st) h = (¬ x < 0 ∧ x.toNatClampNeg ≤ 1000 ∧ kc + 1 ≤ rm.cells ∧ ks + x.toNatClampNeg ≤ rm.slots ∧ wps rm K Q c_Grid_init_17 (kc + 1) (ks + x.toNatClampNeg) loc (.ref (h.length + 1) :: st) (h ++ [.inl (0, eg_zero 0 x.toNatClampNeg)])) := rfl
theorem s_Grid_init_17 {x : Nat} {v : Value} : wps rm K Q c_Grid_init_17 kc ks loc (v :: .ref (x + 1) :: st) h = eg_pf h x 6 1 v (fun h9 => wps rm K Q c_Grid_init_20 kc ks loc (st) h9) := rfl
theorem s_Grid_init_20  : wps rm K Q c_Grid_init_20 kc ks loc ([]) h = (kc = rm.cells ∧ Q none h) := rfl
def T_Grid_init : List (Nat × List eg_I) := []
end
theorem q_Grid_init : (T_Grid_init.all fun q => eg_seq m_Grid_init q.1 q.2) = true := by decide +kernel
theorem b_Grid_init {as : List Value} {h : List eg_E} {Q : Option Value → List eg_E → Prop} (hf : (eg_fl as).length ≤ 1) (hw : wps (eg_rm m_Grid_init) (eg_run (eg_rm m_Grid_init) (eg_R m_Grid_init Q (h.length + 2)) Q T_Grid_init 2) Q c_Grid_init_0 0 0 (eg_entry 1 as) [] h) : eg_Runs n_Grid_init as h Q := eg_begin (d := m_Grid_init) rfl (by decide) (by decide +kernel) q_Grid_init hf hw
/-! ===== Grid_tooGreat ===== -/
def c_Grid_tooGreat_130 : List eg_I := .inl (130, 1, .ireturn, 0, 0) :: []
def c_Grid_tooGreat_127 : List eg_I := .inr (127, 0, 19, n_Math_floorDiv, 2, 13, 0, 0) :: c_Grid_tooGreat_130
def c_Grid_tooGreat_125 : List eg_I := .inl (125, 2, .iconst (90000), 18, 0) :: c_Grid_tooGreat_127
def c_Grid_tooGreat_123 : List eg_I := .inl (123, 2, .iload 8, 0, 0) :: c_Grid_tooGreat_125
def c_Grid_tooGreat_121 : List eg_I := .inl (121, 2, .istore 8, 0, 0) :: c_Grid_tooGreat_123
def c_Grid_tooGreat_120 : List eg_I := .inl (120, 1, .iadd, 0, 0) :: c_Grid_tooGreat_121
def c_Grid_tooGreat_119 : List eg_I := .inl (119, 1, .imul, 0, 0) :: c_Grid_tooGreat_120
def c_Grid_tooGreat_117 : List eg_I := .inl (117, 2, .iload 6, 0, 0) :: c_Grid_tooGreat_119
def c_Grid_tooGreat_116 : List eg_I := .inl (116, 1, .imul, 0, 0) :: c_Grid_tooGreat_117
def c_Grid_tooGreat_114 : List eg_I := .inl (114, 2, .iload 5, 0, 0) :: c_Grid_tooGreat_116
def c_Grid_tooGreat_113 : List eg_I := .inl (113, 1, .iaload, 0, 0) :: c_Grid_tooGreat_114
def c_Grid_tooGreat_112 : List eg_I := .inl (112, 1, .iadd, 0, 0) :: c_Grid_tooGreat_113
def c_Grid_tooGreat_111 : List eg_I := .inl (111, 1, .iconst (4), 0, 0) :: c_Grid_tooGreat_112
def c_Grid_tooGreat_109 : List eg_I := .inl (109, 2, .iload 7, 0, 0) :: c_Grid_tooGreat_111
def c_Grid_tooGreat_108 : List eg_I := .inl (108, 1, .aload 0, 0, 0) :: c_Grid_tooGreat_109
def c_Grid_tooGreat_107 : List eg_I := .inl (107, 1, .iadd, 0, 0) :: c_Grid_tooGreat_108
def c_Grid_tooGreat_106 : List eg_I := .inl (106, 1, .imul, 0, 0) :: c_Grid_tooGreat_107
def c_Grid_tooGreat_104 : List eg_I := .inl (104, 2, .iload 6, 0, 0) :: c_Grid_tooGreat_106
def c_Grid_tooGreat_103 : List eg_I := .inl (103, 1, .imul, 0, 0) :: c_Grid_tooGreat_104
def c_Grid_tooGreat_102 : List eg_I := .inl (102, 1, .isub, 0, 0) :: c_Grid_tooGreat_103
def c_Grid_tooGreat_100 : List eg_I := .inl (100, 2, .iload 5, 0, 0) :: c_Grid_tooGreat_102
def c_Grid_tooGreat_97 : List eg_I := .inl (97, 3, .iconst (300), 0, 0) :: c_Grid_tooGreat_100
def c_Grid_tooGreat_96 : List eg_I := .inl (96, 1, .iaload, 0, 0) :: c_Grid_tooGreat_97
def c_Grid_tooGreat_95 : List eg_I := .inl (95, 1, .iadd, 0, 0) :: c_Grid_tooGreat_96
def c_Grid_tooGreat_94 : List eg_I := .inl (94, 1, .iconst (3), 0, 0) :: c_Grid_tooGreat_95
def c_Grid_tooGreat_92 : List eg_I := .inl (92, 2, .iload 7, 0, 0) :: c_Grid_tooGreat_94
def c_Grid_tooGreat_91 : List eg_I := .inl (91, 1, .aload 0, 0, 0) :: c_Grid_tooGreat_92
def c_Grid_tooGreat_90 : List eg_I := .inl (90, 1, .iadd, 0, 0) :: c_Grid_tooGreat_91
def c_Grid_tooGreat_89 : List eg_I := .inl (89, 1, .imul, 0, 0) :: c_Grid_tooGreat_90
def c_Grid_tooGreat_88 : List eg_I := .inl (88, 1, .isub, 0, 0) :: c_Grid_tooGreat_89
def c_Grid_tooGreat_86 : List eg_I := .inl (86, 2, .iload 6, 0, 0) :: c_Grid_tooGreat_88
def c_Grid_tooGreat_83 : List eg_I := .inl (83, 3, .iconst (300), 0, 0) :: c_Grid_tooGreat_86
def c_Grid_tooGreat_82 : List eg_I := .inl (82, 1, .imul, 0, 0) :: c_Grid_tooGreat_83
def c_Grid_tooGreat_80 : List eg_I := .inl (80, 2, .iload 5, 0, 0) :: c_Grid_tooGreat_82
def c_Grid_tooGreat_79 : List eg_I := .inl (79, 1, .iaload, 0, 0) :: c_Grid_tooGreat_80
def c_Grid_tooGreat_78 : List eg_I := .inl (78, 1, .iadd, 0, 0) :: c_Grid_tooGreat_79
def c_Grid_tooGreat_77 : List eg_I := .inl (77, 1, .iconst (1), 0, 0) :: c_Grid_tooGreat_78
def c_Grid_tooGreat_75 : List eg_I := .inl (75, 2, .iload 7, 0, 0) :: c_Grid_tooGreat_77
def c_Grid_tooGreat_74 : List eg_I := .inl (74, 1, .aload 0, 0, 0) :: c_Grid_tooGreat_75
def c_Grid_tooGreat_73 : List eg_I := .inl (73, 1, .imul, 0, 0) :: c_Grid_tooGreat_74
def c_Grid_tooGreat_72 : List eg_I := .inl (72, 1, .isub, 0, 0) :: c_Grid_tooGreat_73
def c_Grid_tooGreat_70 : List eg_I := .inl (70, 2, .iload 6, 0, 0) :: c_Grid_tooGreat_72
def c_Grid_tooGreat_67 : List eg_I := .inl (67, 3, .iconst (300), 0, 0) :: c_Grid_tooGreat_70
def c_Grid_tooGreat_66 : List eg_I := .inl (66, 1, .imul, 0, 0) :: c_Grid_tooGreat_67
def c_Grid_tooGreat_65 : List eg_I := .inl (65, 1, .isub, 0, 0) :: c_Grid_tooGreat_66
def c_Grid_tooGreat_63 : List eg_I := .inl (63, 2, .iload 5, 0, 0) :: c_Grid_tooGreat_65
def c_Grid_tooGreat_60 : List eg_I := .inl (60, 3, .iconst (300), 0, 0) :: c_Grid_tooGreat_63
def c_Grid_tooGreat_59 : List eg_I := .inl (59, 1, .iaload, 0, 0) :: c_Grid_tooGreat_60
def c_Grid_tooGreat_57 : List eg_I := .inl (57, 2, .iload 7, 0, 0) :: c_Grid_tooGreat_59
def c_Grid_tooGreat_56 : List eg_I := .inl (56, 1, .aload 0, 0, 0) :: c_Grid_tooGreat_57
def c_Grid_tooGreat_54 : List eg_I := .inl (54, 2, .istore 7, 0, 0) :: c_Grid_tooGreat_56
def c_Grid_tooGreat_53 : List eg_I := .inl (53, 1, .iadd, 0, 0) :: c_Grid_tooGreat_54
def c_Grid_tooGreat_52 : List eg_I := .inl (52, 1, .iload 3, 0, 0) :: c_Grid_tooGreat_53
def c_Grid_tooGreat_51 : List eg_I := .inl (51, 1, .imul, 0, 0) :: c_Grid_tooGreat_52
def c_Grid_tooGreat_49 : List eg_I := .inl (49, 2, .iload 4, 0, 0) :: c_Grid_tooGreat_51
def c_Grid_tooGreat_48 : List eg_I := .inl (48, 1, .iconst (3), 0, 0) :: c_Grid_tooGreat_49
def c_Grid_tooGreat_46 : List eg_I := .inl (46, 2, .istore 6, 0, 0) :: c_Grid_tooGreat_48
def c_Grid_tooGreat_45 : List eg_I := .inl (45, 1, .isub, 0, 0) :: c_Grid_tooGreat_46
def c_Grid_tooGreat_44 : List eg_I := .inl (44, 1, .imul, 0, 0) :: c_Grid_tooGreat_45
def c_Grid_tooGreat_42 : List eg_I := .inl (42, 2, .iload 4, 0, 0) :: c_Grid_tooGreat_44
def c_Grid_tooGreat_39 : List eg_I := .inl (39, 3, .iconst (300), 0, 0) :: c_Grid_tooGreat_42
def c_Grid_tooGreat_38 : List eg_I := .inl (38, 1, .iadd, 0, 0) :: c_Grid_tooGreat_39
def c_Grid_tooGreat_35 : List eg_I := .inl (35, 3, .iconst (300), 0, 0) :: c_Grid_tooGreat_38
def c_Grid_tooGreat_34 : List eg_I := .inl (34, 1, .iload 2, 0, 0) :: c_Grid_tooGreat_35
def c_Grid_tooGreat_32 : List eg_I := .inl (32, 2, .istore 5, 0, 0) :: c_Grid_tooGreat_34
def c_Grid_tooGreat_31 : List eg_I := .inl (31, 1, .isub, 0, 0) :: c_Grid_tooGreat_32
def c_Grid_tooGreat_30 : List eg_I := .inl (30, 1, .imul, 0, 0) :: c_Grid_tooGreat_31
def c_Grid_tooGreat_29 : List eg_I := .inl (29, 1, .iload 3, 0, 0) :: c_Grid_tooGreat_30
def c_Grid_tooGreat_26 : List eg_I := .inl (26, 3, .iconst (300), 0, 0) :: c_Grid_tooGreat_29
def c_Grid_tooGreat_25 : List eg_I := .inl (25, 1, .iadd, 0, 0) :: c_Grid_tooGreat_26
def c_Grid_tooGreat_22 : List eg_I := .inl (22, 3, .iconst (300), 0, 0) :: c_Grid_tooGreat_25
def c_Grid_tooGreat_21 : List eg_I := .inl (21, 1, .iload 1, 0, 0) :: c_Grid_tooGreat_22
def c_Grid_tooGreat_19 : List eg_I := .inl (19, 2, .istore 4, 0, 0) :: c_Grid_tooGreat_21
def c_Grid_tooGreat_18 : List eg_I := .inl (18, 1, .iconst (1), 0, 0) :: c_Grid_tooGreat_19
def c_Grid_tooGreat_15 : List eg_I := .inl (15, 3, .goto (4), 19, 0) :: []
def c_Grid_tooGreat_14 : List eg_I := .inl (14, 1, .iconst (0), 0, 0) :: c_Grid_tooGreat_15
def c_Grid_tooGreat_11 : List eg_I := .inl (11, 3, .ifCond .ge (7), 18, 0) :: c_Grid_tooGreat_14
def c_Grid_tooGreat_10 : List eg_I := .inl (10, 1, .iload 2, 0, 0) :: c_Grid_tooGreat_11
def c_Grid_tooGreat_9 : List eg_I := .inl (9, 1, .istore 3, 0, 0) :: c_Grid_tooGreat_10
def c_Grid_tooGreat_8 : List eg_I := .inl (8, 1, .iconst (1), 0, 0) :: c_Grid_tooGreat_9
def c_Grid_tooGreat_5 : List eg_I := .inl (5, 3, .goto (4), 9, 0) :: []
def c_Grid_tooGreat_4 : List eg_I := .inl (4, 1, .iconst (0), 0, 0) :: c_Grid_tooGreat_5
def c_Grid_tooGreat_1 : List eg_I := .inl (1, 3, .ifCond .ge (7), 8, 0) :: c_Grid_tooGreat_4
def c_Grid_tooGreat_0 : List eg_I := .inl (0, 1, .iload 1, 0, 0) :: c_Grid_tooGreat_1
section
variable {rm : Room} {K : Nat → Nat → Nat → eg_Lo → List Value → List eg_E → Prop} {Q : Option Value → List eg_E → Prop} {kc ks : Nat} {loc : eg_Lo} {st : List Value} {h : List eg_E}
theorem s_Grid_tooGreat_0 {x : Int32} {l0 : Option Value} {l : eg_Lo} : wps rm K Q c_Grid_tooGreat_0 kc ks (l0 :: some (.int x) :: l) (st) h = wps rm K Q c_Grid_tooGreat_1 kc ks (l0 :: some (.int x) :: l) (.int x :: st) h := rfl
theorem s_Grid_tooGreat_1 {x : Int32} : wps rm K Q c_Grid_tooGreat_1 kc ks loc (.int x :: st) h = ((0 ≤ x → K 8 kc ks loc st h) ∧ (¬ 0 ≤ x → wps rm K Q c_Grid_tooGreat_4 kc ks loc (st) h)) := rfl
theorem s_Grid_tooGreat_4  : wps rm K Q c_Grid_tooGreat_4 kc ks loc (st) h = wps rm K Q c_Grid_tooGreat_5 kc ks loc (.int (0) :: st) h := rfl
theorem s_Grid_tooGreat_5  : wps rm K Q c_Grid_tooGreat_5 kc ks loc (st) h = K 9 kc ks loc st h := rfl
theorem s_Grid_tooGreat_8  : wps rm K Q c_Grid_tooGreat_8 kc ks loc (st) h = wps rm K Q c_Grid_tooGreat_9 kc ks loc (.int (1) :: st) h := rfl
theorem s_Grid_tooGreat_9 {x : Int32} : wps rm K Q c_Grid_tooGreat_9 kc ks loc (.int x :: st) h = wps rm K Q c_Grid_tooGreat_10 kc ks (eg_set1 loc 3 (.int x)) (st) h := rfl
theorem s_Grid_tooGreat_10 {x : Int32} {l0 l1 : Option Value} {l : eg_Lo} : wps rm K Q c_Grid_tooGreat_10 kc ks (l0 :: l1 :: some (.int x) :: l) (st) h = wps rm K Q c_Grid_tooGreat_11 kc ks (l0 :: l1 :: some (.int x) :: l) (.int x :: st) h := rfl
theorem s_Grid_tooGreat_11 {x : Int32} : wps rm K Q c_Grid_tooGreat_11 kc ks loc (.int x :: st) h = ((0 ≤ x → K 18 kc ks loc st h) ∧ (¬ 0 ≤ x → wps rm K Q c_Grid_tooGreat_14 kc ks loc (st) h)) := rfl
theorem s_Grid_tooGreat_14  : wps rm K Q c_Grid_tooGreat_14 kc ks loc (st) h = wps rm K Q c_Grid_tooGreat_15 kc ks loc (.int (0) :: st) h := rfl
theorem s_Grid_tooGreat_15  : wps rm K Q c_Grid_tooGreat_15 kc ks loc (st) h = K 19 kc ks loc st h := rfl
theorem s_Grid_tooGreat_18  : wps rm K Q c_Grid_tooGreat_18 kc ks loc (st) h = wps rm K Q c_Grid_tooGreat_19 kc ks loc (.int (1) :: st) h := rfl
theorem s_Grid_tooGreat_19 {x : Int32} : wps rm K Q c_Grid_tooGreat_19 kc ks loc (.int x :: st) h = wps rm K Q c_Grid_tooGreat_21 kc ks (eg_set1 loc 4 (.int x)) (st) h := rfl
theorem s_Grid_tooGreat_21 {x : Int32} {l0 : Option Value} {l : eg_Lo} : wps rm K Q c_Grid_tooGreat_21 kc ks (l0 :: some (.int x) :: l) (st) h = wps rm K Q c_Grid_tooGreat_22 kc ks (l0 :: some (.int x) :: l) (.int x :: st) h := rfl
theorem s_Grid_tooGreat_22  : wps rm K Q c_Grid_tooGreat_22 kc ks loc (st) h = wps rm K Q c_Grid_tooGreat_25 kc ks loc (.int (300) :: st) h := rfl
theorem s_Grid_tooGreat_25 {x y : Int32} : wps rm K Q c_Grid_tooGreat_25 kc ks loc (.int y :: .int x :: st) h = wps rm K Q c_Grid_tooGreat_26 kc ks loc (.int (x + y) :: st) h := rfl
theorem s_Grid_tooGreat_26  : wps rm K Q c_Grid_tooGreat_26 kc ks loc (st) h = wps rm K Q c_Grid_tooGreat_29 kc ks loc (.int (300) :: st) h := rfl
theorem s_Grid_tooGreat_29 {x : Int32} {l0 l1 l2 : Option Value} {l : eg_Lo} : wps rm K Q c_Grid_tooGreat_29 kc ks (l0 :: l1 :: l2 :: some (.int x) :: l) (st) h = wps rm K Q c_Grid_tooGreat_30 kc ks (l0 :: l1 :: l2 :: some (.int x) :: l) (.int x :: st) h := rfl
theorem s_Grid_tooGreat_30 {x y : Int32} : wps rm K Q c_Grid_tooGreat_30 kc ks loc (.int y :: .int x :: st) h = wps rm K Q c_Grid_tooGreat_31 kc ks loc (.int (x * y) :: st) h := rfl
theorem s_Grid_tooGreat_31 {x y : Int32} : wps rm K Q c_Grid_tooGreat_31 kc ks loc (.int y :: .int x :: st) h = wps rm K Q c_Grid_tooGreat_32 kc ks loc (.int (x - y) :: st) h := rfl
theorem s_Grid_tooGreat_32 {x : Int32} : wps rm K Q c_Grid_tooGreat_32 kc ks loc (.int x :: st) h = wps rm K Q c_Grid_tooGreat_34 kc ks (eg_set1 loc 5 (.int x)) (st) h := rfl
theorem s_Grid_tooGreat_34 {x : Int32} {l0 l1 : Option Value} {l : eg_Lo} : wps rm K Q c_Grid_tooGreat_34 kc ks (l0 :: l1 :: some (.int x) :: l) (st) h = wps rm K Q c_Grid_tooGreat_35 kc ks (l0 :: l1 :: some (.int x) :: l) (.int x :: st) h := rfl
theorem s_Grid_tooGreat_35  : wps rm K Q c_Grid_tooGreat_35 kc ks loc (st) h = wps rm K Q c_Grid_tooGreat_38 kc ks loc (.int (300) :: st) h := rfl
theorem s_Grid_tooGreat_38 {x y : Int32} : wps rm K Q c_Grid_tooGreat_38 kc ks loc (.int y :: .int x :: st) h = wps rm K Q c_Grid_tooGreat_39 kc ks loc (.int (x + y) :: st) h := rfl
theorem s_Grid_tooGreat_39  : wps rm K Q c_Grid_tooGreat_39 kc ks loc (st) h = wps rm K Q c_Grid_tooGreat_42 kc ks loc (.int (300) :: st) h := rfl
theorem s_Grid_tooGreat_42 {x : Int32} {l0 l1 l2 l3 : Option Value} {l : eg_Lo} : wps rm K Q c_Grid_tooGreat_42 kc ks (l0 :: l1 :: l2 :: l3 :: some (.int x) :: l) (st) h = wps rm K Q c_Grid_tooGreat_44 kc ks (l0 :: l1 :: l2 :: l3 :: some (.int x) :: l) (.int x :: st) h := rfl
theorem s_Grid_tooGreat_44 {x y : Int32} : wps rm K Q c_Grid_tooGreat_44 kc ks loc (.int y :: .int x :: st) h = wps rm K Q c_Grid_tooGreat_45 kc ks loc (.int (x * y) :: st) h := rfl
theorem s_Grid_tooGreat_45 {x y : Int32} : wps rm K Q c_Grid_tooGreat_45 kc ks loc (.int y :: .int x :: st) h = wps rm K Q c_Grid_tooGreat_46 kc ks loc (.int (x - y) :: st) h := rfl
theorem s_Grid_tooGreat_46 {x : Int32} : wps rm K Q c_Grid_tooGreat_46 kc ks loc (.int x :: st) h = wps rm K Q c_Grid_tooGreat_48 kc ks (eg_set1 loc 6 (.int x)) (st) h := rfl
theorem s_Grid_tooGreat_48  : wps rm K Q c_Grid_tooGreat_48 kc ks loc (st) h = wps rm K Q c_Grid_tooGreat_49 kc ks loc (.int (3) :: st) h := rfl
theorem s_Grid_tooGreat_49 {x : Int32} {l0 l1 l2 l3 : Option Value} {l : eg_Lo} : wps rm K Q c_Grid_tooGreat_49 kc ks (l0 :: l1 :: l2 :: l3 :: some (.int x) :: l) (st) h = wps rm K Q c_Grid_tooGreat_51 kc ks (l0 :: l1 :: l2 :: l3 :: some (.int x) :: l) (.int x :: st) h := rfl
theorem s_Grid_tooGreat_51 {x y : Int32} : wps rm K Q c_Grid_tooGreat_51 kc ks loc (.int y :: .int x :: st) h = wps rm K Q c_Grid_tooGreat_52 kc ks loc (.int (x * y) :: st) h := rfl
theorem s_Grid_tooGreat_52 {x : Int32} {l0 l1 l2 : Option Value} {l : eg_Lo} : wps rm K Q c_Grid_tooGreat_52 kc ks (l0 :: l1 :: l2 :: some (.int x) :: l) (st) h = wps rm K Q c_Grid_tooGreat_53 kc ks (l0 :: l1 :: l2 :: some (.int x) :: l) (.int x :: st) h := rfl
theorem s_Grid_tooGreat_53 {x y : Int32} : wps rm K Q c_Grid_tooGreat_53 kc ks loc (.int y :: .int x :: st) h = wps rm K Q c_Grid_tooGreat_54 kc ks loc (.int (x + y) :: st) h := rfl
theorem s_Grid_tooGreat_54 {x : Int32} : wps rm K Q c_Grid_tooGreat_54 kc ks loc (.int x :: st) h = wps rm K Q c_Grid_tooGreat_56 kc ks (eg_set1 loc 7 (.int x)) (st) h := rfl
theorem s_Grid_tooGreat_56 {x : Nat} {l : eg_Lo} : wps rm K Q c_Grid_tooGreat_56 kc ks (some (.ref x) :: l) (st) h = wps rm K Q c_Grid_tooGreat_57 kc ks (some (.ref x) :: l) (.ref x :: st) h := rfl
theorem s_Grid_tooGreat_57 {x : Int32} {l0 l1 l2 l3 l4 l5 l6 : Option Value} {l : eg_Lo} : wps rm K Q c_Grid_tooGreat_57 kc ks (l0 :: l1 :: l2 :: l3 :: l4 :: l5 :: l6 :: some (.int x) :: l) (st) h = wps rm K Q c_Grid_tooGreat_59 kc ks (l0 :: l1 :: l2 :: l3 :: l4 :: l5 :: l6 :: some (.int x) :: l) (.int x :: st) h := rfl
theorem s_Grid_tooGreat_59 {x : Nat} {i : Int32} : wps rm K Q c_Grid_tooGreat_59 kc ks loc (.int i :: .ref (x + 1) :: st) h = eg_ia h x i (fun v => wps rm K Q c_Grid_tooGreat_60 kc ks loc (.int v :: st) h) := rfl
theorem s_Grid_tooGreat_60  : wps rm K Q c_Grid_tooGreat_60 kc ks loc (st) h = wps rm K Q c_Grid_tooGreat_63 kc ks loc (.int (300) :: st) h := rfl
theorem s_Grid_tooGreat_63 {x : Int32} {l0 l1 l2 l3 l4 : Option Value} {l : eg_Lo} : wps rm K Q c_Grid_tooGreat_63 kc ks (l0 :: l1 :: l2 :: l3 :: l4 :: some (.int x) :: l) (st) h = wps rm K Q c_Grid_tooGreat_65 kc ks (l0 :: l1 :: l2 :: l3 :: l4 :: some (.int x) :: l) (.int x :: st) h := rfl
theorem s_Grid_tooGreat_65 {x y : Int32} : wps rm K Q c_Grid_tooGreat_65 kc ks loc (.int y :: .int x :: st) h = wps rm K Q c_Grid_tooGreat_66 kc ks loc (.int (x - y) :: st) h := rfl
theorem s_Grid_tooGreat_66 {x y : Int32} : wps rm K Q c_Grid_tooGreat_66 kc ks loc (.int y :: .int x :: st) h = wps rm K Q c_Grid_tooGreat_67 kc ks loc (.int (x * y) :: st) h := rfl
theorem s_Grid_tooGreat_67  : wps rm K Q c_Grid_tooGreat_67 kc ks loc (st) h = wps rm K Q c_Grid_tooGreat_70 kc ks loc (.int (300) :: st) h := rfl
theorem s_Grid_tooGreat_70 {x : Int32} {l0 l1 l2 l3 l4 l5 : Option Value} {l : eg_Lo} : wps rm K Q c_Grid_tooGreat_70 kc ks (l0 :: l1 :: l2 :: l3 :: l4 :: l5 :: some (.int x) :: l) (st) h = wps rm K Q c_Grid_tooGreat_72 kc ks (l0 :: l1 :: l2 :: l3 :: l4 :: l5 :: some (.int x) :: l) (.int x :: st) h := rfl
theorem s_Grid_tooGreat_72 {x y : Int32} : wps rm K Q c_Grid_tooGreat_72 kc ks loc (.int y :: .int x :: st) h = wps rm K Q c_Grid_tooGreat_73 kc ks loc (.int (x - y) :: st) h := rfl
theorem s_Grid_tooGreat_73 {x y : Int32} : wps rm K Q c_Grid_tooGreat_73 kc ks loc (.int y :: .int x :: st) h = wps rm K Q c_Grid_tooGreat_74 kc ks loc (.int (x * y) :: st) h := rfl
theorem s_Grid_tooGreat_74 {x : Nat} {l : eg_Lo} : wps rm K Q c_Grid_tooGreat_74 kc ks (some (.ref x) :: l) (st) h = wps rm K Q c_Grid_tooGreat_75 kc ks (some (.ref x) :: l) (.ref x :: st) h := rfl
theorem s_Grid_tooGreat_75 {x : Int32} {l0 l1 l2 l3 l4 l5 l6 : Option Value} {l : eg_Lo} : wps rm K Q c_Grid_tooGreat_75 kc ks (l0 :: l1 :: l2 :: l3 :: l4 :: l5 :: l6 :: some (.int x) :: l) (st) h = wps rm K Q c_Grid_tooGreat_77 kc ks (l0 :: l1 :: l2 :: l3 :: l4 :: l5 :: l6 :: some (.int x) :: l) (.int x :: st) h := rfl
theorem s_Grid_tooGreat_77  : wps rm K Q c_Grid_tooGreat_77 kc ks loc (st) h = wps rm K Q c_Grid_tooGreat_78 kc ks loc (.int (1) :: st) h := rfl
theorem s_Grid_tooGreat_78 {x y : Int32} : wps rm K Q c_Grid_tooGreat_78 kc ks loc (.int y :: .int x :: st) h = wps rm K Q c_Grid_tooGreat_79 kc ks loc (.int (x + y) :: st) h := rfl
theorem s_Grid_tooGreat_79 {x : Nat} {i : Int32} : wps rm K Q c_Grid_tooGreat_79 kc ks loc (.int i :: .ref (x + 1) :: st) h = eg_ia h x i (fun v => wps rm K Q c_Grid_tooGreat_80 kc ks loc (.int v :: st) h) := rfl
theorem s_Grid_tooGreat_80 {x : Int32} {l0 l1 l2 l3 l4 : Option Value} {l : eg_Lo} : wps rm K Q c_Grid_tooGreat_80 kc ks (l0 :: l1 :: l2 :: l3 :: l4 :: some (.int x) :: l) (st) h = wps rm K Q c_Grid_tooGreat_82 kc ks (l0 :: l1 :: l2 :: l3 :: l4 :: some (.int x) :: l) (.int x :: st) h := rfl
theorem s_Grid_tooGreat_82 {x y : Int32} : wps rm K Q c_Grid_tooGreat_82 kc ks loc (.int y :: .int x :: st) h = wps rm K Q c_Grid_tooGreat_83 kc ks loc (.int (x * y) :: st) h := rfl
theorem s_Grid_tooGreat_83  : wps rm K Q c_Grid_tooGreat_83 kc ks loc (st) h = wps rm K Q c_Grid_tooGreat_86 kc ks loc (.int (300) :: st) h := rfl
theorem s_Grid_tooGreat_86 {x : Int32} {l0 l1 l2 l3 l4 l5 : Option Value} {l : eg_Lo} : wps rm K Q c_Grid_tooGreat_86 kc ks (l0 :: l1 :: l2 :: l3 :: l4 :: l5 :: some (.int x) :: l) (st) h = wps rm K Q c_Grid_tooGreat_88 kc ks (l0 :: l1 :: l2 :: l3 :: l4 :: l5 :: some (.int x) :: l) (.int x :: st) h := rfl
theorem s_Grid_tooGreat_88 {x y : Int32} : wps rm K Q c_Grid_tooGreat_88 kc ks loc (.int y :: .int x :: st) h = wps rm K Q c_Grid_tooGreat_89 kc ks loc (.int (x - y) :: st) h := rfl
theorem s_Grid_tooGreat_89 {x y : Int32} : wps rm K Q c_Grid_tooGreat_89 kc ks loc (.int y :: .int x :: st) h = wps rm K Q c_Grid_tooGreat_90 kc ks loc (.int (x * y) :: st) h := rfl
theorem s_Grid_tooGreat_90 {x y : Int32} : wps rm K Q c_Grid_tooGreat_90 kc ks loc (.int y :: .int x :: st) h = wps rm K Q c_Grid_tooGreat_91 kc ks loc (.int (x + y) :: st) h := rfl
theorem s_Grid_tooGreat_91 {x : Nat} {l : eg_Lo} : wps rm K Q c_Grid_tooGreat_91 kc ks (some (.ref x) :: l) (st) h = wps rm K Q c_Grid_tooGreat_92 kc ks (some (.ref x) :: l) (.ref x :: st) h := rfl
theorem s_Grid_tooGreat_92 {x : Int32} {l0 l1 l2 l3 l4 l5 l6 : Option Value} {l : eg_Lo} : wps rm K Q c_Grid_tooGreat_92 kc ks (l0 :: l1 :: l2 :: l3 :: l4 :: l5 :: l6 :: some (.int x) :: l) (st) h = wps rm K Q c_Grid_tooGreat_94 kc ks (l0 :: l1 :: l2 :: l3 :: l4 :: l5 :: l6 :: some (.int x) :: l) (.int x :: st) h := rfl
theorem s_Grid_tooGreat_94  : wps rm K Q c_Grid_tooGreat_94 kc ks loc (st) h = wps rm K Q c_Grid_tooGreat_95 kc ks loc (.int (3) :: st) h := rfl
theorem s_Grid_tooGreat_95 {x y : Int32} : wps rm K Q c_Grid_tooGreat_95 kc ks loc (.int y :: .int x :: st) h = wps rm K Q c_Grid_tooGreat_96 kc ks loc (.int (x + y) :: st) h := rfl
theorem s_Grid_tooGreat_96 {x : Nat} {i : Int32} : wps rm K Q c_Grid_tooGreat_96 kc ks loc (.int i :: .ref (x + 1) :: st) h = eg_ia h x i (fun v => wps rm K Q c_Grid_tooGreat_97 kc ks loc (.int v :: st) h) := rfl
theorem s_Grid_tooGreat_97  : wps rm K Q c_Grid_tooGreat_97 kc ks loc (st) h = wps rm K Q c_Grid_tooGreat_100 kc ks loc (.int (300) :: st) h := rfl
theorem s_Grid_tooGreat_100 {x : Int32} {l0 l1 l2 l3 l4 : Option Value} {l : eg_Lo} : wps rm K Q c_Grid_tooGreat_100 kc ks (l0 :: l1 :: l2 :: l3 :: l4 :: some (.int x) :: l) (st) h = wps rm K Q c_Grid_tooGreat_102 kc ks (l0 :: l1 :: l2 :: l3 :: l4 :: some (.int x) :: l) (.int x :: st) h := rfl
theorem s_Grid_tooGreat_102 {x y : Int32} : wps rm K Q c_Grid_tooGreat_102 kc ks loc (.int y :: .int x :: st) h = wps rm K Q c_Grid_tooGreat_103 kc ks loc (.int (x - y) :: st) h := rfl
theorem s_Grid_tooGreat_103 {x y : Int32} : wps rm K Q c_Grid_tooGreat_103 kc ks loc (.int y :: .int x :: st) h = wps rm K Q c_Grid_tooGreat_104 kc ks loc (.int (x * y) :: st) h := rfl
theorem s_Grid_tooGreat_104 {x : Int32} {l0 l1 l2 l3 l4 l5 : Option Value} {l : eg_Lo} : wps rm K Q c_Grid_tooGreat_104 kc ks (l0 :: l1 :: l2 :: l3 :: l4 :: l5 :: some (.int x) :: l) (st) h = wps rm K Q c_Grid_tooGreat_106 kc ks (l0 :: l1 :: l2 :: l3 :: l4 :: l5 :: some (.int x) :: l) (.int x :: st) h := rfl
theorem s_Grid_tooGreat_106 {x y : Int32} : wps rm K Q c_Grid_tooGreat_106 kc ks loc (.int y :: .int x :: st) h = wps rm K Q c_Grid_tooGreat_107 kc ks loc (.int (x * y) :: st) h := rfl
theorem s_Grid_tooGreat_107 {x y : Int32} : wps rm K Q c_Grid_tooGreat_107 kc ks loc (.int y :: .int x :: st) h = wps rm K Q c_Grid_tooGreat_108 kc ks loc (.int (x + y) :: st) h := rfl
theorem s_Grid_tooGreat_108 {x : Nat} {l : eg_Lo} : wps rm K Q c_Grid_tooGreat_108 kc ks (some (.ref x) :: l) (st) h = wps rm K Q c_Grid_tooGreat_109 kc ks (some (.ref x) :: l) (.ref x :: st) h := rfl
theorem s_Grid_tooGreat_109 {x : Int32} {l0 l1 l2 l3 l4 l5 l6 : Option Value} {l : eg_Lo} : wps rm K Q c_Grid_tooGreat_109 kc ks (l0 :: l1 :: l2 :: l3 :: l4 :: l5 :: l6 :: some (.int x) :: l) (st) h = wps rm K Q c_Grid_tooGreat_111 kc ks (l0 :: l1 :: l2 :: l3 :: l4 :: l5 :: l6 :: some (.int x) :: l) (.int x :: st) h := rfl
theorem s_Grid_tooGreat_111  : wps rm K Q c_Grid_tooGreat_111 kc ks loc (st) h = wps rm K Q c_Grid_tooGreat_112 kc ks loc (.int (4) :: st) h := rfl
theorem s_Grid_tooGreat_112 {x y : Int32} : wps rm K Q c_Grid_tooGreat_112 kc ks loc (.int y :: .int x :: st) h = wps rm K Q c_Grid_tooGreat_113 kc ks loc (.int (x + y) :: st) h := rfl
theorem s_Grid_tooGreat_113 {x : Nat} {i : Int32} : wps rm K Q c_Grid_tooGreat_113 kc ks loc (.int i :: .ref (x + 1) :: st) h = eg_ia h x i (fun v => wps rm K Q c_Grid_tooGreat_114 kc ks loc (.int v :: st) h) := rfl
theorem s_Grid_tooGreat_114 {x : Int32} {l0 l1 l2 l3 l4 : Option Value} {l : eg_Lo} : wps rm K Q c_Grid_tooGreat_114 kc ks (l0 :: l1 :: l2 :: l3 :: l4 :: some (.int x) :: l) (st) h = wps rm K Q c_Grid_tooGreat_116 kc ks (l0 :: l1 :: l2 :: l3 :: l4 :: some (.int x) :: l) (.int x :: st) h := rfl
theorem s_Grid_tooGreat_116 {x y : Int32} : wps rm K Q c_Grid_tooGreat_116 kc ks loc (.int y :: .int x :: st) h = wps rm K Q c_Grid_tooGreat_117 kc ks loc (.int (x * y) :: st) h := rfl
theorem s_Grid_tooGreat_117 {x : Int32} {l0 l1 l2 l3 l4 l5 : Option Value} {l : eg_Lo} : wps rm K Q c_Grid_tooGreat_117 kc ks (l0 :: l1 :: l2 :: l3 :: l4 :: l5 :: some (.int x) :: l) (st) h = wps rm K Q c_Grid_tooGreat_119 kc ks (l0 :: l1 :: l2 :: l3 :: l4 :: l5 :: some (.int x) :: l) (.int x :: st) h := rfl
theorem s_Grid_tooGreat_119 {x y : Int32} : wps rm K Q c_Grid_tooGreat_119 kc ks loc (.int y :: .int x :: st) h = wps rm K Q c_Grid_tooGreat_120 kc ks loc (.int (x * y) :: st) h := rfl
theorem s_Grid_tooGreat_120 {x y : Int32} : wps rm K Q c_Grid_tooGreat_120 kc ks loc (.int y :: .int x :: st) h = wps rm K Q c_Grid_tooGreat_121 kc ks loc (.int (x + y) :: st) h := rfl
theorem s_Grid_tooGreat_121 {x : Int32} : wps rm K Q c_Grid_tooGreat_121 kc ks loc (.int x :: st) h = wps rm K Q c_Grid_tooGreat_123 kc ks (eg_set1 loc 8 (.int x)) (st) h := rfl
theorem s_Grid_tooGreat_123 {x : Int32} {l0 l1 l2 l3 l4 l5 l6 l7 : Option Value} {l : eg_Lo} : wps rm K Q c_Grid_tooGreat_123 kc ks (l0 :: l1 :: l2 :: l3 :: l4 :: l5 :: l6 :: l7 :: some (.int x) :: l) (st) h = wps rm K Q c_Grid_tooGreat_125 kc ks (l0 :: l1 :: l2 :: l3 :: l4 :: l5 :: l6 :: l7 :: some (.int x) :: l) (.int x :: st) h := rfl
theorem s_Grid_tooGreat_125  : wps rm K Q c_Grid_tooGreat_125 kc ks loc (st) h = wps rm K Q c_Grid_tooGreat_127 kc ks loc (.int (90000) :: st) h := rfl
theorem s_Grid_tooGreat_127  {a1 : Value} {a2 : Value} : wps rm K Q c_Grid_tooGreat_127 kc ks loc (a2 :: a1 :: st) h = (st.length ≤ 4 ∧ eg_Cs n_Math_floorDiv [a1, a2] h (fun v h9 => wps rm K Q c_Grid_tooGreat_130 kc ks loc (v.toList ++ st) h9)) := eg_c0_2
theorem s_Grid_tooGreat_130 {x : Int32} : wps rm K Q c_Grid_tooGreat_130 kc ks loc ([.int x]) h = (kc = rm.cells ∧ (0 = 1 → x = 0 ∨ x = 1) ∧ Q (some (.int x)) h) := rfl
def T_Grid_tooGreat : List (Nat × List eg_I) := [(8, c_Grid_tooGreat_8), (9, c_Grid_tooGreat_9), (18, c_Grid_tooGreat_18), (19, c_Grid_tooGreat_19)]
theorem j_Grid_tooGreat_8 {R : Nat → Nat → Nat → eg_Lo → List Value → List eg_E → Prop} {f pc0 : Nat} : eg_run rm R Q T_Grid_tooGreat (f + 1) 8 kc ks loc st h = wps rm (eg_run rm R Q T_Grid_tooGreat f) Q c_Grid_tooGreat_8 kc ks loc st h := rfl
theorem j_Grid_tooGreat_9 {R : Nat → Nat → Nat → eg_Lo → List Value → List eg_E → Prop} {f pc0 : Nat} : eg_run rm R Q T_Grid_tooGreat (f + 1) 9 kc ks loc st h = wps rm (eg_run rm R Q T_Grid_tooGreat f) Q c_Grid_tooGreat_9 kc ks loc st h := rfl
theorem j_Grid_tooGreat_18 {R : Nat → Nat → Nat → eg_Lo → List Value → List eg_E → Prop} {f pc0 : Nat} : eg_run rm R Q T_Grid_tooGreat (f + 1) 18 kc ks loc st h = wps rm (eg_run rm R Q T_Grid_tooGreat f) Q c_Grid_tooGreat_18 kc ks loc st h := rfl
theorem j_Grid_tooGreat_19 {R : Nat → Nat → Nat → eg_Lo → List Value → List eg_E → Prop} {f pc0 : Nat} : eg_run rm R Q T_Grid_tooGreat (f + 1) 19 kc ks loc st h = wps rm (eg_run rm R Q T_Grid_tooGreat f) Q c_Grid_tooGreat_19 kc ks loc st h := rfl
end
theorem q_Grid_tooGreat : (T_Grid_tooGreat.all fun q => eg_seq m_Grid_tooGreat q.1 q.2) = true := by decide +kernel
theorem b_Grid_tooGreat {as : List Value} {h : List eg_E} {Q : Option Value → List eg_E → Prop} (hf : (eg_fl as).length ≤ 9) (hw : wps (eg_rm m_Grid_tooGreat) (eg_run (eg_rm m_Grid_tooGreat) (eg_R m_Grid_tooGreat Q (h.length + 0)) Q T_Grid_tooGreat 6) Q c_Grid_tooGreat_0 0 0 (eg_entry 9 as) [] h) : eg_Runs n_Grid_tooGreat as h Q := eg_begin (d := m_Grid_tooGreat) rfl (by decide) (by decide +kernel) q_Grid_tooGreat hf hw
/-! ===== Outl_init ===== -/
def c_Outl_init_31 : List eg_I := .inl (31, 1, .return_, 0, 0) :: []
def c_Outl_init_28 : List eg_I := .inl (28, 3, .putfield 22, 7, 3) :: c_Outl_init_31
def c_Outl_init_26 : List eg_I := .inl (26, 2, .newarray .int, 0, 0) :: c_Outl_init_28
def c_Outl_init_24 : List eg_I := .inl (24, 2, .iconst (10), 0, 0) :: c_Outl_init_26
def c_Outl_init_23 : List eg_I := .inl (23, 1, .aload 0, 0, 0) :: c_Outl_init_24
def c_Outl_init_20 : List eg_I := .inl (20, 3, .putfield 18, 7, 2) :: c_Outl_init_23
def c_Outl_init_18 : List eg_I := .inl (18, 2, .newarray .int, 0, 0) :: c_Outl_init_20
def c_Outl_init_16 : List eg_I := .inl (16, 2, .iconst (10), 0, 0) :: c_Outl_init_18
def c_Outl_init_15 : List eg_I := .inl (15, 1, .aload 0, 0, 0) :: c_Outl_init_16
def c_Outl_init_12 : List eg_I := .inl (12, 3, .putfield 12, 7, 0) :: c_Outl_init_15
def c_Outl_init_9 : List eg_I := .inr (9, 3, 11, n_Frac_init, 0, 4, 0, 0) :: c_Outl_init_12
def c_Outl_init_8 : List eg_I := .inl (8, 1, .dup, 0, 0) :: c_Outl_init_9
def c_Outl_init_5 : List eg_I := .inl (5, 3, .new 9, 4, 2) :: c_Outl_init_8
def c_Outl_init_4 : List eg_I := .inl (4, 1, .aload 0, 0, 0) :: c_Outl_init_5
def c_Outl_init_1 : List eg_I := .inl (1, 3, .athrow, 3, 0) :: c_Outl_init_4
def c_Outl_init_0 : List eg_I := .inl (0, 1, .aload 0, 0, 0) :: c_Outl_init_1
section
variable {rm : Room} {K : Nat → Nat → Nat → eg_Lo → List Value → List eg_E → Prop} {Q : Option Value → List eg_E → Prop} {kc ks : Nat} {loc : eg_Lo} {st : List Value} {h : List eg_E}
theorem s_Outl_init_0 {x : Nat} {l : eg_Lo} : wps rm K Q c_Outl_init_0 kc ks (some (.ref x) :: l) (st) h = wps rm K Q c_Outl_init_1 kc ks (some (.ref x) :: l) (.ref x :: st) h := rfl
theorem s_Outl_init_1 {x : Nat} : wps rm K Q c_Outl_init_1 kc ks loc (.ref (x + 1) :: st) h = (st.length ≤ 4 ∧ wps rm K Q c_Outl_init_4 kc ks loc (st) h) := rfl
theorem s_Outl_init_4 {x : Nat} {l : eg_Lo} : wps rm K Q c_Outl_init_4 kc ks (some (.ref x) :: l) (st) h = wps rm K Q c_Outl_init_5 kc ks (some (.ref x) :: l) (.ref x :: st) h := rfl
theorem s_Outl_init_5  : wps rm K Q c_Outl_init_5 kc ks loc (st) h = (kc + 1 ≤ rm.cells ∧ ks + 2 ≤ rm.slots ∧ wps rm K Q c_Outl_init_8 (kc + 1) (ks + 2) loc (.ref (h.length + 1) :: st) (h ++ [.inr (4, eg_df 4)])) := rfl
theorem s_Outl_init_8 {x : Nat} : wps rm K Q c_Outl_init_8 kc ks loc (.ref x :: st) h = wps rm K Q c_Outl_init_9 kc ks loc (.ref x :: .ref x :: st) h := rfl
theorem s_Outl_init_9  {x : Nat} : wps rm K Q c_Outl_init_9 kc ks loc (.ref (x + 1) :: st) h = (st.length ≤ 4 ∧ kc + 0 ≤ rm.cells ∧ ks + 0 ≤ rm.slots ∧ eg_Cs n_Frac_init [.ref (x + 1)] h (fun v h9 => wps rm K Q c_Outl_init_12 (kc + 0) (ks + 0) loc (v.toList ++ st) h9)) := eg_c3_0
theorem s_Outl_init_12 {x : Nat} {v : Value} : wps rm K Q c_Outl_init_12 kc ks loc (v :: .ref (x + 1) :: st) h = eg_pf h x 7 0 v (fun h9 => wps rm K Q c_Outl_init_15 kc ks loc (st) h9) := rfl
theorem s_Outl_init_15 {x : Nat} {l : eg_Lo} : wps rm K Q c_Outl_init_15 kc ks (some (.ref x) :: l) (st) h = wps rm K Q c_Outl_init_16 kc ks (some (.ref x) :: l) (.ref x :: st) h := rfl
theorem s_Outl_init_16  : wps rm K Q c_Outl_init_16 kc ks loc (st) h = wps rm K Q c_Outl_init_18 kc ks loc (.int (10) :: st) h := rfl
theorem s_Outl_init_18 {x : Int32} : wps rm K Q c_Outl_init_18 kc ks loc (.int x :: st) h = (¬ x < 0 ∧ x.toNatClampNeg ≤ 1000 ∧ kc + 1 ≤ rm.cells ∧ ks + x.toNatClampNeg ≤ rm.slots ∧ wps rm K Q c_Outl_init_20 (kc + 1) (ks + x.toNatClampNeg) loc (.ref (h.length + 1) :: st) (h ++ [.inl (0, eg_zero 0 x.toNatClampNeg)])) := rfl
theorem s_Outl_init_20 {x : Nat} {v : Value} : wps rm K Q c_Outl_init_20 kc ks loc (v :: .ref (x + 1) :: st) h = eg_pf h x 7 2 v (fun h9 => wps rm K Q c_Outl_init_23 kc ks loc (st) h9) := rfl
theorem s_Outl_init_23 {x : Nat} {l : eg_Lo} : wps rm K Q c_Outl_init_23 kc ks (some (.ref x) :: l) (st) h = wps rm K Q c_Outl_init_24 kc ks (some (.ref x) :: l) (.ref x :: st) h := rfl
theorem s_Outl_init_24  : wps rm K Q c_Outl_init_24 kc ks loc (st) h = wps rm K Q c_Outl_init_26 kc ks loc (.int (10) :: st) h := rfl
theorem s_Outl_init_26 {x : Int32} : wps rm K Q c_Outl_init_26 kc ks loc (.int x :: st) h = (¬ x < 0 ∧ x.toNatClampNeg ≤ 1000 ∧ kc + 1 ≤ rm.cells ∧ ks + x.toNatClampNeg ≤ rm.slots ∧ wps rm K Q c_Outl_init_28 (kc + 1) (ks + x.toNatClampNeg) loc (.ref (h.length + 1) :: st) (h ++ [.inl (0, eg_zero 0 x.toNatClampNeg)])) := rfl
theorem s_Outl_init_28 {x : Nat} {v : Value} : wps rm K Q c_Outl_init_28 kc ks loc (v :: .ref (x + 1) :: st) h = eg_pf h x 7 3 v (fun h9 => wps rm K Q c_Outl_init_31 kc ks loc (st) h9) := rfl
theorem s_Outl_init_31  : wps rm K Q c_Outl_init_31 kc ks loc ([]) h = (kc = rm.cells ∧ Q none h) := rfl
def T_Outl_init : List (Nat × List eg_I) := []
end
theorem q_Outl_init : (T_Outl_init.all fun q => eg_seq m_Outl_init q.1 q.2) = true := by decide +kernel
theorem b_Outl_init {as : List Value} {h : List eg_E} {Q : Option Value → List eg_E → Prop} (hf : (eg_fl as).length ≤ 1) (hw : wps (eg_rm m_Outl_init) (eg_run (eg_rm m_Outl_init) (eg_R m_Outl_init Q (h.length + 3)) Q T_Outl_init 2) Q c_Outl_init_0 0 0 (eg_entry 1 as) [] h) : eg_Runs n_Outl_init as h Q := eg_begin (d := m_Outl_init) rfl (by decide) (by decide +kernel) q_Outl_init hf hw
/-! ===== Outl_endsAt ===== -/
def c_Outl_endsAt_42 : List eg_I := .inl (42, 1, .ireturn, 0, 1) :: []
def c_Outl_endsAt_41 : List eg_I := .inl (41, 1, .iconst (0), 0, 0) :: c_Outl_endsAt_42
def c_Outl_endsAt_38 : List eg_I := .inl (38, 3, .goto (4), 42, 0) :: []
def c_Outl_endsAt_37 : List eg_I := .inl (37, 1, .iconst (1), 0, 0) :: c_Outl_endsAt_38
def c_Outl_endsAt_34 : List eg_I := .inl (34, 3, .if_icmp .ne (7), 41, 0) :: c_Outl_endsAt_37
def c_Outl_endsAt_33 : List eg_I := .inl (33, 1, .iload 2, 0, 0) :: c_Outl_endsAt_34
def c_Outl_endsAt_32 : List eg_I := .inl (32, 1, .iaload, 0, 0) :: c_Outl_endsAt_33
def c_Outl_endsAt_31 : List eg_I := .inl (31, 1, .isub, 0, 0) :: c_Outl_endsAt_32
def c_Outl_endsAt_30 : List eg_I := .inl (30, 1, .iconst (1), 0, 0) :: c_Outl_endsAt_31
def c_Outl_endsAt_27 : List eg_I := .inl (27, 3, .getfield 25, 7, 1) :: c_Outl_endsAt_30
def c_Outl_endsAt_26 : List eg_I := .inl (26, 1, .aload 0, 0, 0) :: c_Outl_endsAt_27
def c_Outl_endsAt_23 : List eg_I := .inl (23, 3, .getfield 22, 7, 3) :: c_Outl_endsAt_26
def c_Outl_endsAt_22 : List eg_I := .inl (22, 1, .aload 0, 0, 0) :: c_Outl_endsAt_23
def c_Outl_endsAt_19 : List eg_I := .inl (19, 3, .if_icmp .ne (22), 41, 0) :: c_Outl_endsAt_22
def c_Outl_endsAt_18 : List eg_I := .inl (18, 1, .iload 1, 0, 0) :: c_Outl_endsAt_19
def c_Outl_endsAt_17 : List eg_I := .inl (17, 1, .iaload, 0, 0) :: c_Outl_endsAt_18
def c_Outl_endsAt_16 : List eg_I := .inl (16, 1, .isub, 0, 0) :: c_Outl_endsAt_17
def c_Outl_endsAt_15 : List eg_I := .inl (15, 1, .iconst (1), 0, 0) :: c_Outl_endsAt_16
def c_Outl_endsAt_12 : List eg_I := .inl (12, 3, .getfield 25, 7, 1) :: c_Outl_endsAt_15
def c_Outl_endsAt_11 : List eg_I := .inl (11, 1, .aload 0, 0, 0) :: c_Outl_endsAt_12
def c_Outl_endsAt_8 : List eg_I := .inl (8, 3, .getfield 18, 7, 2) :: c_Outl_endsAt_11
def c_Outl_endsAt_7 : List eg_I := .inl (7, 1, .aload 0, 0, 0) :: c_Outl_endsAt_8
def c_Outl_endsAt_4 : List eg_I := .inl (4, 3, .ifCond .le (37), 41, 0) :: c_Outl_endsAt_7
def c_Outl_endsAt_1 : List eg_I := .inl (1, 3, .getfield 25, 7, 1) :: c_Outl_endsAt_4
def c_Outl_endsAt_0 : List eg_I := .inl (0, 1, .aload 0, 0, 0) :: c_Outl_endsAt_1
section
variable {rm : Room} {K : Nat → Nat → Nat → eg_Lo → List Value → List eg_E → Prop} {Q : Option Value → List eg_E → Prop} {kc ks : Nat} {loc : eg_Lo} {st : List Value} {h : List eg_E}
theorem s_Outl_endsAt_0 {x : Nat} {l : eg_Lo} : wps rm K Q c_Outl_endsAt_0 kc ks (some (.ref x) :: l) (st) h = wps rm K Q c_Outl_endsAt_1 kc ks (some (.ref x) :: l) (.ref x :: st) h := rfl
theorem s_Outl_endsAt_1 {x : Nat} : wps rm K Q c_Outl_endsAt_1 kc ks loc (.ref (x + 1) :: st) h = eg_gf h x 7 1 (fun v => wps rm K Q c_Outl_endsAt_4 kc ks loc (v :: st) h) := rfl
theorem s_Outl_endsAt_4 {x : Int32} : wps rm K Q c_Outl_endsAt_4 kc ks loc (.int x :: st) h = ((x ≤ 0 → K 41 kc ks loc st h) ∧ (¬ x ≤ 0 → wps rm K Q c_Outl_endsAt_7 kc ks loc (st) h)) := rfl
theorem s_Outl_endsAt_7 {x : Nat} {l : eg_Lo} : wps rm K Q c_Outl_endsAt_7 kc ks (some (.ref x) :: l) (st) h = wps rm K Q c_Outl_endsAt_8 kc ks (some (.ref x) :: l) (.ref x :: st) h := rfl
theorem s_Outl_endsAt_8 {x : Nat} : wps rm K Q c_Outl_endsAt_8 kc ks loc (.ref (x + 1) :: st) h = eg_gf h x 7 2 (fun v => wps rm K Q c_Outl_endsAt_11 kc ks loc (v :: st) h) := rfl
theorem s_Outl_endsAt_11 {x : Nat} {l : eg_Lo} : wps rm K Q c_Outl_endsAt_11 kc ks (some (.ref x) :: l) (st) h = wps rm K Q c_Outl_endsAt_12 kc ks (some (.ref x) :: l) (.ref x :: st) h := rfl
theorem s_Outl_endsAt_12 {x : Nat} : wps rm K Q c_Outl_endsAt_12 kc ks loc (.ref (x + 1) :: st) h = eg_gf h x 7 1 (fun v => wps rm K Q c_Outl_endsAt_15 kc ks loc (v :: st) h) := rfl
theorem s_Outl_endsAt_15  : wps rm K Q c_Outl_endsAt_15 kc ks loc (st) h = wps rm K Q c_Outl_endsAt_16 kc ks loc (.int (1) :: st) h := rfl
theorem s_Outl_endsAt_16 {x y : Int32} : wps rm K Q c_Outl_endsAt_16 kc ks loc (.int y :: .int x :: st) h = wps rm K Q c_Outl_endsAt_17 kc ks loc (.int (x - y) :: st) h := rfl
theorem s_Outl_endsAt_17 {x : Nat} {i : Int32} : wps rm K Q c_Outl_endsAt_17 kc ks loc (.int i :: .ref (x + 1) :: st) h = eg_ia h x i (fun v => wps rm K Q c_Outl_endsAt_18 kc ks loc (.int v :: st) h) := rfl
theorem s_Outl_endsAt_18 {x : Int32} {l0 : Option Value} {l : eg_Lo} : wps rm K Q c_Outl_endsAt_18 kc ks (l0 :: some (.int x) :: l) (st) h = wps rm K Q c_Outl_endsAt_19 kc ks (l0 :: some (.int x) :: l) (.int x :: st) h := rfl
theorem s_Outl_endsAt_19 {x y : Int32} : wps rm K Q c_Outl_endsAt_19 kc ks loc (.int y :: .int x :: st) h = ((¬ x = y → K 41 kc ks loc st h) ∧ (x = y → wps rm K Q c_Outl_endsAt_22 kc ks loc (st) h)) := rfl
theorem s_Outl_endsAt_22 {x : Nat} {l : eg_Lo} : wps rm K Q c_Outl_endsAt_22 kc ks (some (.ref x) :: l) (st) h = wps rm K Q c_Outl_endsAt_23 kc ks (some (.ref x) :: l) (.ref x :: st) h := rfl
theorem s_Outl_endsAt_23 {x : Nat} : wps rm K Q c_Outl_endsAt_23 kc ks loc (.ref (x + 1) :: st) h = eg_gf h x 7 3 (fun v => wps rm K Q c_Outl_endsAt_26 kc ks loc (v :: st) h) := rfl
theorem s_Outl_endsAt_26 {x : Nat} {l : eg_Lo} : wps rm K Q c_Outl_endsAt_26 kc ks (some (.ref x) :: l) (st) h = wps rm K Q c_Outl_endsAt_27 kc ks (some (.ref x) :: l) (.ref x :: st) h := rfl
theorem s_Outl_endsAt_27 {x : Nat} : wps rm K Q c_Outl_endsAt_27 kc ks loc (.ref (x + 1) :: st) h = eg_gf h x 7 1 (fun v => wps rm K Q c_Outl_endsAt_30 kc ks loc (v :: st) h) := rfl
theorem s_Outl_endsAt_30  : wps rm K Q c_Outl_endsAt_30 kc ks loc (st) h = wps rm K Q c_Outl_endsAt_31 kc ks loc (.int (1) :: st) h := rfl
theorem s_Outl_endsAt_31 {x y : Int32} : wps rm K Q c_Outl_endsAt_31 kc ks loc (.int y :: .int x :: st) h = wps rm K Q c_Outl_endsAt_32 kc ks loc (.int (x - y) :: st) h := rfl
theorem s_Outl_endsAt_32 {x : Nat} {i : Int32} : wps rm K Q c_Outl_endsAt_32 kc ks loc (.int i :: .ref (x + 1) :: st) h = eg_ia h x i (fun v => wps rm K Q c_Outl_endsAt_33 kc ks loc (.int v :: st) h) := rfl
theorem s_Outl_endsAt_33 {x : Int32} {l0 l1 : Option Value} {l : eg_Lo} : wps rm K Q c_Outl_endsAt_33 kc ks (l0 :: l1 :: some (.int x) :: l) (st) h = wps rm K Q c_Outl_endsAt_34 kc ks (l0 :: l1 :: some (.int x) :: l) (.int x :: st) h := rfl
theorem s_Outl_endsAt_34 {x y : Int32} : wps rm K Q c_Outl_endsAt_34 kc ks loc (.int y :: .int x :: st) h = ((¬ x = y → K 41 kc ks loc st h) ∧ (x = y → wps rm K Q c_Outl_endsAt_37 kc ks loc (st) h)) := rfl
theorem s_Outl_endsAt_37  : wps rm K Q c_Outl_endsAt_37 kc ks loc (st) h = wps rm K Q c_Outl_endsAt_38 kc ks loc (.int (1) :: st) h := rfl
theorem s_Outl_endsAt_38  : wps rm K Q c_Outl_endsAt_38 kc ks loc (st) h = K 42 kc ks loc st h := rfl
theorem s_Outl_endsAt_41  : wps rm K Q c_Outl_endsAt_41 kc ks loc (st) h = wps rm K Q c_Outl_endsAt_42 kc ks loc (.int (0) :: st) h := rfl
theorem s_Outl_endsAt_42 {x : Int32} : wps rm K Q c_Outl_endsAt_42 kc ks loc ([.int x]) h = (kc = rm.cells ∧ ((1 : Nat) = 1 → x = 0 ∨ x = 1) ∧ Q (some (.int x)) h) := rfl
def T_Outl_endsAt : List (Nat × List eg_I) := [(41, c_Outl_endsAt_41), (42, c_Outl_endsAt_42)]
theorem j_Outl_endsAt_41 {R : Nat → Nat → Nat → eg_Lo → List Value → List eg_E → Prop} {f pc0 : Nat} : eg_run rm R Q T_Outl_endsAt (f + 1) 41 kc ks loc st h = wps rm (eg_run rm R Q T_Outl_endsAt f) Q c_Outl_endsAt_41 kc ks loc st h := rfl
theorem j_Outl_endsAt_42 {R : Nat → Nat → Nat → eg_Lo → List Value → List eg_E → Prop} {f pc0 : Nat} : eg_run rm R Q T_Outl_endsAt (f + 1) 42 kc ks loc st h = wps rm (eg_run rm R Q T_Outl_endsAt f) Q c_Outl_endsAt_42 kc ks loc st h := rfl
end
theorem q_Outl_endsAt : (T_Outl_endsAt.all fun q => eg_seq m_Outl_endsAt q.1 q.2) = true := by decide +kernel
theorem b_Outl_endsAt {as : List Value} {h : List eg_E} {Q : Option Value → List eg_E → Prop} (hf : (eg_fl as).length ≤ 3) (hw : wps (eg_rm m_Outl_endsAt) (eg_run (eg_rm m_Outl_endsAt) (eg_R m_Outl_endsAt Q (h.length + 0)) Q T_Outl_endsAt 4) Q c_Outl_endsAt_0 0 0 (eg_entry 3 as) [] h) : eg_Runs n_Outl_endsAt as h Q := eg_begin (d := m_Outl_endsAt) rfl (by decide) (by decide +kernel) q_Outl_endsAt hf hw
/-! ===== Outl_add ===== -/
def c_Outl_add_43 : List eg_I := .inl (43, 1, .ireturn, 0, 0) :: []
def c_Outl_add_40 : List eg_I := .inl (40, 3, .getfield 25, 7, 1) :: c_Outl_add_43
def c_Outl_add_39 : List eg_I := .inl (39, 1, .aload 0, 0, 0) :: c_Outl_add_40
def c_Outl_add_36 : List eg_I := .inl (36, 3, .putfield 25, 7, 1) :: c_Outl_add_39
def c_Outl_add_35 : List eg_I := .inl (35, 1, .iadd, 0, 0) :: c_Outl_add_36
def c_Outl_add_34 : List eg_I := .inl (34, 1, .iconst (1), 0, 0) :: c_Outl_add_35
def c_Outl_add_31 : List eg_I := .inl (31, 3, .getfield 25, 7, 1) :: c_Outl_add_34
def c_Outl_add_30 : List eg_I := .inl (30, 1, .dup, 0, 0) :: c_Outl_add_31
def c_Outl_add_29 : List eg_I := .inl (29, 1, .aload 0, 0, 0) :: c_Outl_add_30
def c_Outl_add_28 : List eg_I := .inl (28, 1, .iastore, 0, 0) :: c_Outl_add_29
def c_Outl_add_27 : List eg_I := .inl (27, 1, .iload 2, 0, 0) :: c_Outl_add_28
def c_Outl_add_24 : List eg_I := .inl (24, 3, .getfield 25, 7, 1) :: c_Outl_add_27
def c_Outl_add_23 : List eg_I := .inl (23, 1, .aload 0, 0, 0) :: c_Outl_add_24
def c_Outl_add_20 : List eg_I := .inl (20, 3, .getfield 22, 7, 3) :: c_Outl_add_23
def c_Outl_add_19 : List eg_I := .inl (19, 1, .aload 0, 0, 0) :: c_Outl_add_20
def c_Outl_add_18 : List eg_I := .inl (18, 1, .iastore, 0, 0) :: c_Outl_add_19
def c_Outl_add_17 : List eg_I := .inl (17, 1, .iload 1, 0, 0) :: c_Outl_add_18
def c_Outl_add_14 : List eg_I := .inl (14, 3, .getfield 25, 7, 1) :: c_Outl_add_17
def c_Outl_add_13 : List eg_I := .inl (13, 1, .aload 0, 0, 0) :: c_Outl_add_14
def c_Outl_add_10 : List eg_I := .inl (10, 3, .getfield 18, 7, 2) :: c_Outl_add_13
def c_Outl_add_9 : List eg_I := .inl (9, 1, .aload 0, 0, 0) :: c_Outl_add_10
def c_Outl_add_6 : List eg_I := .inl (6, 3, .if_icmp .ge (33), 39, 0) :: c_Outl_add_9
def c_Outl_add_4 : List eg_I := .inl (4, 2, .iconst (10), 0, 0) :: c_Outl_add_6
def c_Outl_add_1 : List eg_I := .inl (1, 3, .getfield 25, 7, 1) :: c_Outl_add_4
def c_Outl_add_0 : List eg_I := .inl (0, 1, .aload 0, 0, 0) :: c_Outl_add_1
section
variable {rm : Room} {K : Nat → Nat → Nat → eg_Lo → List Value → List eg_E → Prop} {Q : Option Value → List eg_E → Prop} {kc ks : Nat} {loc : eg_Lo} {st : List Value} {h : List eg_E}
theorem s_Outl_add_0 {x : Nat} {l : eg_Lo} : wps rm K Q c_Outl_add_0 kc ks (some (.ref x) :: l) (st) h = wps rm K Q c_Outl_add_1 kc ks (some (.ref x) :: l) (.ref x :: st) h := rfl
theorem s_Outl_add_1 {x : Nat} : wps rm K Q c_Outl_add_1 kc ks loc (.ref (x + 1) :: st) h = eg_gf h x 7 1 (fun v => wps rm K Q c_Outl_add_4 kc ks loc (v :: st) h) := rfl
theorem s_Outl_add_4  : wps rm K Q c_Outl_add_4 kc ks loc (st) h = wps rm K Q c_Outl_add_6 kc ks loc (.int (10) :: st) h := rfl
theorem s_Outl_add_6 {x y : Int32} : wps rm K Q c_Outl_add_6 kc ks loc (.int y :: .int x :: st) h = ((y ≤ x → K 39 kc ks loc st h) ∧ (¬ y ≤ x → wps rm K Q c_Outl_add_9 kc ks loc (st) h)) := rfl
theorem s_Outl_add_9 {x : Nat} {l : eg_Lo} : wps rm K Q c_Outl_add_9 kc ks (some (.ref x) :: l) (st) h = wps rm K Q c_Outl_add_10 kc ks (some (.ref x) :: l) (.ref x :: st) h := rfl
theorem s_Outl_add_10 {x : Nat} : wps rm K Q c_Outl_add_10 kc ks loc (.ref (x + 1) :: st) h = eg_gf h x 7 2 (fun v => wps rm K Q c_Outl_add_13 kc ks loc (v :: st) h) := rfl
theorem s_Outl_add_13 {x : Nat} {l : eg_Lo} : wps rm K Q c_Outl_add_13 kc ks (some (.ref x) :: l) (st) h = wps rm K Q c_Outl_add_14 kc ks (some (.ref x) :: l) (.ref x :: st) h := rfl
theorem s_Outl_add_14 {x : Nat} : wps rm K Q c_Outl_add_14 kc ks loc (.ref (x + 1) :: st) h = eg_gf h x 7 1 (fun v => wps rm K Q c_Outl_add_17 kc ks loc (v :: st) h) := rfl
theorem s_Outl_add_17 {x : Int32} {l0 : Option Value} {l : eg_Lo} : wps rm K Q c_Outl_add_17 kc ks (l0 :: some (.int x) :: l) (st) h = wps rm K Q c_Outl_add_18 kc ks (l0 :: some (.int x) :: l) (.int x :: st) h := rfl
theorem s_Outl_add_18 {x : Nat} {i : Int32} {v : Int32} : wps rm K Q c_Outl_add_18 kc ks loc (.int v :: .int i :: .ref (x + 1) :: st) h = eg_is h x i v (fun h9 => wps rm K Q c_Outl_add_19 kc ks loc (st) h9) := rfl
theorem s_Outl_add_19 {x : Nat} {l : eg_Lo} : wps rm K Q c_Outl_add_19 kc ks (some (.ref x) :: l) (st) h = wps rm K Q c_Outl_add_20 kc ks (some (.ref x) :: l) (.ref x :: st) h := rfl
theorem s_Outl_add_20 {x : Nat} : wps rm K Q c_Outl_add_20 kc ks loc (.ref (x + 1) :: st) h = eg_gf h x 7 3 (fun v => wps rm K Q c_Outl_add_23 kc ks loc (v :: st) h) := rfl
theorem s_Outl_add_23 {x : Nat} {l : eg_Lo} : wps rm K Q c_Outl_add_23 kc ks (some (.ref x) :: l) (st) h = wps rm K Q c_Outl_add_24 kc ks (some (.ref x) :: l) (.ref x :: st) h := rfl
theorem s_Outl_add_24 {x : Nat} : wps rm K Q c_Outl_add_24 kc ks loc (.ref (x + 1) :: st) h = eg_gf h x 7 1 (fun v => wps rm K Q c_Outl_add_27 kc ks loc (v :: st) h) := rfl
theorem s_Outl_add_27 {x : Int32} {l0 l1 : Option Value} {l : eg_Lo} : wps rm K Q c_Outl_add_27 kc ks (l0 :: l1 :: some (.int x) :: l) (st) h = wps rm K Q c_Outl_add_28 kc ks (l0 :: l1 :: some (.int x) :: l) (.int x :: st) h := rfl
theorem s_Outl_add_28 {x : Nat} {i : Int32} {v : Int32} : wps rm K Q c_Outl_add_28 kc ks loc (.int v :: .int i :: .ref (x + 1) :: st) h = eg_is h x i v (fun h9 => wps rm K Q c_Outl_add_29 kc ks loc (st) h9) := rfl
theorem s_Outl_add_29 {x : Nat} {l : eg_Lo} : wps rm K Q c_Outl_add_29 kc ks (some (.ref x) :: l) (st) h = wps rm K Q c_Outl_add_30 kc ks (some (.ref x) :: l) (.ref x :: st) h := rfl
theorem s_Outl_add_30 {x : Nat} : wps rm K Q c_Outl_add_30 kc ks loc (.ref x :: st) h = wps rm K Q c_Outl_add_31 kc ks loc (.ref x :: .ref x :: st) h := rfl
theorem s_Outl_add_31 {x : Nat} : wps rm K Q c_Outl_add_31 kc ks loc (.ref (x + 1) :: st) h = eg_gf h x 7 1 (fun v => wps rm K Q c_Outl_add_34 kc ks loc (v :: st) h) := rfl
theorem s_Outl_add_34  : wps rm K Q c_Outl_add_34 kc ks loc (st) h = wps rm K Q c_Outl_add_35 kc ks loc (.int (1) :: st) h := rfl
theorem s_Outl_add_35 {x y : Int32} : wps rm K Q c_Outl_add_35 kc ks loc (.int y :: .int x :: st) h = wps rm K Q c_Outl_add_36 kc ks loc (.int (x + y) :: st) h := rfl
theorem s_Outl_add_36 {x : Nat} {v : Value} : wps rm K Q c_Outl_add_36 kc ks loc (v :: .ref (x + 1) :: st) h = eg_pf h x 7 1 v (fun h9 => wps rm K Q c_Outl_add_39 kc ks loc (st) h9) := rfl
theorem s_Outl_add_39 {x : Nat} {l : eg_Lo} : wps rm K Q c_Outl_add_39 kc ks (some (.ref x) :: l) (st) h = wps rm K Q c_Outl_add_40 kc ks (some (.ref x) :: l) (.ref x :: st) h := rfl
theorem s_Outl_add_40 {x : Nat} : wps rm K Q c_Outl_add_40 kc ks loc (.ref (x + 1) :: st) h = eg_gf h x 7 1 (fun v => wps rm K Q c_Outl_add_43 kc ks loc (v :: st) h) := rfl
theorem s_Outl_add_43 {x : Int32} : wps rm K Q c_Outl_add_43 kc ks loc ([.int x]) h = (kc = rm.cells ∧ (0 = 1 → x = 0 ∨ x = 1) ∧ Q (some (.int x)) h) := rfl
def T_Outl_add : List (Nat × List eg_I) := [(39, c_Outl_add_39)]
theorem j_Outl_add_39 {R : Nat → Nat → Nat → eg_Lo → List Value → List eg_E → Prop} {f pc0 : Nat} : eg_run rm R Q T_Outl_add (f + 1) 39 kc ks loc st h = wps rm (eg_run rm R Q T_Outl_add f) Q c_Outl_add_39 kc ks loc st h := rfl
end
theorem q_Outl_add : (T_Outl_add.all fun q => eg_seq m_Outl_add q.1 q.2) = true := by decide +kernel
theorem b_Outl_add {as : List Value} {h : List eg_E} {Q : Option Value → List eg_E → Prop} (hf : (eg_fl as).length ≤ 3) (hw : wps (eg_rm m_Outl_add) (eg_run (eg_rm m_Outl_add) (eg_R m_Outl_add Q (h.length + 0)) Q T_Outl_add 3) Q c_Outl_add_0 0 0 (eg_entry 3 as) [] h) : eg_Runs n_Outl_add as h Q := eg_begin (d := m_Outl_add) rfl (by decide) (by decide +kernel) q_Outl_add hf hw
/-! ===== Outl_findNearest ===== -/
def c_Outl_findNearest_92 : List eg_I := .inl (92, 1, .ireturn, 0, 0) :: []
def c_Outl_findNearest_91 : List eg_I := .inl (91, 1, .iload 3, 0, 0) :: c_Outl_findNearest_92
def c_Outl_findNearest_88 : List eg_I := .inr (88, 1, 44, n_Frac_become, 2, 4, 0, 0) :: c_Outl_findNearest_91
def c_Outl_findNearest_86 : List eg_I := .inl (86, 2, .lload 6, 0, 0) :: c_Outl_findNearest_88
def c_Outl_findNearest_84 : List eg_I := .inl (84, 2, .lload 4, 0, 0) :: c_Outl_findNearest_86
def c_Outl_findNearest_81 : List eg_I := .inl (81, 3, .getfield 12, 7, 0) :: c_Outl_findNearest_84
def c_Outl_findNearest_80 : List eg_I := .inl (80, 1, .aload 0, 0, 0) :: c_Outl_findNearest_81
def c_Outl_findNearest_77 : List eg_I := .inl (77, 3, .goto (-53), 24, 0) :: []
def c_Outl_findNearest_74 : List eg_I := .inl (74, 3, .iinc 8 (1), 0, 0) :: c_Outl_findNearest_77
def c_Outl_findNearest_72 : List eg_I := .inl (72, 2, .lstore 6, 0, 0) :: c_Outl_findNearest_74
def c_Outl_findNearest_69 : List eg_I := .inl (69, 3, .getfield 37, 7, 5) :: c_Outl_findNearest_72
def c_Outl_findNearest_68 : List eg_I := .inl (68, 1, .aload 0, 0, 0) :: c_Outl_findNearest_69
def c_Outl_findNearest_66 : List eg_I := .inl (66, 2, .lstore 4, 0, 0) :: c_Outl_findNearest_68
def c_Outl_findNearest_63 : List eg_I := .inl (63, 3, .getfield 33, 7, 4) :: c_Outl_findNearest_66
def c_Outl_findNearest_62 : List eg_I := .inl (62, 1, .aload 0, 0, 0) :: c_Outl_findNearest_63
def c_Outl_findNearest_61 : List eg_I := .inl (61, 1, .istore 3, 0, 0) :: c_Outl_findNearest_62
def c_Outl_findNearest_59 : List eg_I := .inl (59, 2, .iload 8, 0, 0) :: c_Outl_findNearest_61
def c_Outl_findNearest_56 : List eg_I := .inl (56, 3, .ifCond .eq (18), 74, 0) :: c_Outl_findNearest_59
def c_Outl_findNearest_53 : List eg_I := .inr (53, 0, 40, n_Frac_isLess, 4, 4, 0, 0) :: c_Outl_findNearest_56
def c_Outl_findNearest_51 : List eg_I := .inl (51, 2, .lload 6, 0, 0) :: c_Outl_findNearest_53
def c_Outl_findNearest_49 : List eg_I := .inl (49, 2, .lload 4, 0, 0) :: c_Outl_findNearest_51
def c_Outl_findNearest_46 : List eg_I := .inl (46, 3, .getfield 37, 7, 5) :: c_Outl_findNearest_49
def c_Outl_findNearest_45 : List eg_I := .inl (45, 1, .aload 0, 0, 0) :: c_Outl_findNearest_46
def c_Outl_findNearest_42 : List eg_I := .inl (42, 3, .getfield 33, 7, 4) :: c_Outl_findNearest_45
def c_Outl_findNearest_41 : List eg_I := .inl (41, 1, .aload 0, 0, 0) :: c_Outl_findNearest_42
def c_Outl_findNearest_38 : List eg_I := .inr (38, 1, 29, n_Outl_measure, 3, 7, 0, 0) :: c_Outl_findNearest_41
def c_Outl_findNearest_37 : List eg_I := .inl (37, 1, .iload 2, 0, 0) :: c_Outl_findNearest_38
def c_Outl_findNearest_36 : List eg_I := .inl (36, 1, .iload 1, 0, 0) :: c_Outl_findNearest_37
def c_Outl_findNearest_34 : List eg_I := .inl (34, 2, .iload 8, 0, 0) :: c_Outl_findNearest_36
def c_Outl_findNearest_33 : List eg_I := .inl (33, 1, .aload 0, 0, 0) :: c_Outl_findNearest_34
def c_Outl_findNearest_30 : List eg_I := .inl (30, 3, .if_icmp .ge (50), 80, 0) :: c_Outl_findNearest_33
def c_Outl_findNearest_27 : List eg_I := .inl (27, 3, .getfield 25, 7, 1) :: c_Outl_findNearest_30
def c_Outl_findNearest_26 : List eg_I := .inl (26, 1, .aload 0, 0, 0) :: c_Outl_findNearest_27
def c_Outl_findNearest_24 : List eg_I := .inl (24, 2, .iload 8, 0, 0) :: c_Outl_findNearest_26
def c_Outl_findNearest_22 : List eg_I := .inl (22, 2, .istore 8, 0, 0) :: [.inl (24, 0, .nop, 0, 0)]
def c_Outl_findNearest_21 : List eg_I := .inl (21, 1, .iconst (1), 0, 0) :: c_Outl_findNearest_22
def c_Outl_findNearest_19 : List eg_I := .inl (19, 2, .lstore 6, 0, 0) :: c_Outl_findNearest_21
def c_Outl_findNearest_16 : List eg_I := .inl (16, 3, .getfield 37, 7, 5) :: c_Outl_findNearest_19
def c_Outl_findNearest_15 : List eg_I := .inl (15, 1, .aload 0, 0, 0) :: c_Outl_findNearest_16
def c_Outl_findNearest_13 : List eg_I := .inl (13, 2, .lstore 4, 0, 0) :: c_Outl_findNearest_15
def c_Outl_findNearest_10 : List eg_I := .inl (10, 3, .getfield 33, 7, 4) :: c_Outl_findNearest_13
def c_Outl_findNearest_9 : List eg_I := .inl (9, 1, .aload 0, 0, 0) :: c_Outl_findNearest_10
def c_Outl_findNearest_6 : List eg_I := .inr (6, 1, 29, n_Outl_measure, 3, 7, 0, 0) :: c_Outl_findNearest_9
def c_Outl_findNearest_5 : List eg_I := .inl (5, 1, .iload 2, 0, 0) :: c_Outl_findNearest_6
def c_Outl_findNearest_4 : List eg_I := .inl (4, 1, .iload 1, 0, 0) :: c_Outl_findNearest_5
def c_Outl_findNearest_3 : List eg_I := .inl (3, 1, .iconst (0), 0, 0) :: c_Outl_findNearest_4
def c_Outl_findNearest_2 : List eg_I := .inl (2, 1, .aload 0, 0, 0) :: c_Outl_findNearest_3
def c_Outl_findNearest_1 : List eg_I := .inl (1, 1, .istore 3, 0, 0) :: c_Outl_findNearest_2
def c_Outl_findNearest_0 : List eg_I := .inl (0, 1, .iconst (0), 0, 0) :: c_Outl_findNearest_1
section
variable {rm : Room} {K : Nat → Nat → Nat → eg_Lo → List Value → List eg_E → Prop} {Q : Option Value → List eg_E → Prop} {kc ks : Nat} {loc : eg_Lo} {st : List Value} {h : List eg_E}
theorem s_Outl_findNearest_0  : wps rm K Q c_Outl_findNearest_0 kc ks loc (st) h = wps rm K Q c_Outl_findNearest_1 kc ks loc (.int (0) :: st) h := rfl
theorem s_Outl_findNearest_1 {x : Int32} : wps rm K Q c_Outl_findNearest_1 kc ks loc (.int x :: st) h = wps rm K Q c_Outl_findNearest_2 kc ks (eg_set1 loc 3 (.int x)) (st) h := rfl
theorem s_Outl_findNearest_2 {x : Nat} {l : eg_Lo} : wps rm K Q c_Outl_findNearest_2 kc ks (some (.ref x) :: l) (st) h = wps rm K Q c_Outl_findNearest_3 kc ks (some (.ref x) :: l) (.ref x :: st) h := rfl
theorem s_Outl_findNearest_3  : wps rm K Q c_Outl_findNearest_3 kc ks loc (st) h = wps rm K Q c_Outl_findNearest_4 kc ks loc (.int (0) :: st) h := rfl
theorem s_Outl_findNearest_4 {x : Int32} {l0 : Option Value} {l : eg_Lo} : wps rm K Q c_Outl_findNearest_4 kc ks (l0 :: some (.int x) :: l) (st) h = wps rm K Q c_Outl_findNearest_5 kc ks (l0 :: some (.int x) :: l) (.int x :: st) h := rfl
theorem s_Outl_findNearest_5 {x : Int32} {l0 l1 : Option Value} {l : eg_Lo} : wps rm K Q c_Outl_findNearest_5 kc ks (l0 :: l1 :: some (.int x) :: l) (st) h = wps rm K Q c_Outl_findNearest_6 kc ks (l0 :: l1 :: some (.int x) :: l) (.int x :: st) h := rfl
theorem s_Outl_findNearest_6  {a1 : Value} {a2 : Value} {a3 : Value} {x : Nat} : wps rm K Q c_Outl_findNearest_6 kc ks loc (a3 :: a2 :: a1 :: .ref (x + 1) :: st) h = (eg_cls h x 7 ∧ st.length ≤ 4 ∧ eg_Cs n_Outl_measure (.ref (x + 1) :: [a1, a2, a3]) h (fun v h9 => wps rm K Q c_Outl_findNearest_9 kc ks loc (v.toList ++ st) h9)) := eg_c1_3
theorem s_Outl_findNearest_9 {x : Nat} {l : eg_Lo} : wps rm K Q c_Outl_findNearest_9 kc ks (some (.ref x) :: l) (st) h = wps rm K Q c_Outl_findNearest_10 kc ks (some (.ref x) :: l) (.ref x :: st) h := rfl
theorem s_Outl_findNearest_10 {x : Nat} : wps rm K Q c_Outl_findNearest_10 kc ks loc (.ref (x + 1) :: st) h = eg_gf h x 7 4 (fun v => wps rm K Q c_Outl_findNearest_13 kc ks loc (v :: st) h) := rfl
theorem s_Outl_findNearest_13 {x : Int64} : wps rm K Q c_Outl_findNearest_13 kc ks loc (.long x :: st) h = wps rm K Q c_Outl_findNearest_15 kc ks (eg_set2 loc 4 (.long x)) (st) h := rfl
theorem s_Outl_findNearest_15 {x : Nat} {l : eg_Lo} : wps rm K Q c_Outl_findNearest_15 kc ks (some (.ref x) :: l) (st) h = wps rm K Q c_Outl_findNearest_16 kc ks (some (.ref x) :: l) (.ref x :: st) h := rfl
theorem s_Outl_findNearest_16 {x : Nat} : wps rm K Q c_Outl_findNearest_16 kc ks loc (.ref (x + 1) :: st) h = eg_gf h x 7 5 (fun v => wps rm K Q c_Outl_findNearest_19 kc ks loc (v :: st) h) := rfl
theorem s_Outl_findNearest_19 {x : Int64} : wps rm K Q c_Outl_findNearest_19 kc ks loc (.long x :: st) h = wps rm K Q c_Outl_findNearest_21 kc ks (eg_set2 loc 6 (.long x)) (st) h := rfl
theorem s_Outl_findNearest_21  : wps rm K Q c_Outl_findNearest_21 kc ks loc (st) h = wps rm K Q c_Outl_findNearest_22 kc ks loc (.int (1) :: st) h := rfl
theorem s_Outl_findNearest_22 {x : Int32} : wps rm K Q c_Outl_findNearest_22 kc ks loc (.int x :: st) h = K 24 kc ks (eg_set1 loc 8 (.int x)) (st) h := rfl
theorem s_Outl_findNearest_24 {x : Int32} {l0 l1 l2 l3 l4 l5 l6 l7 : Option Value} {l : eg_Lo} : wps rm K Q c_Outl_findNearest_24 kc ks (l0 :: l1 :: l2 :: l3 :: l4 :: l5 :: l6 :: l7 :: some (.int x) :: l) (st) h = wps rm K Q c_Outl_findNearest_26 kc ks (l0 :: l1 :: l2 :: l3 :: l4 :: l5 :: l6 :: l7 :: some (.int x) :: l) (.int x :: st) h := rfl
theorem s_Outl_findNearest_26 {x : Nat} {l : eg_Lo} : wps rm K Q c_Outl_findNearest_26 kc ks (some (.ref x) :: l) (st) h = wps rm K Q c_Outl_findNearest_27 kc ks (some (.ref x) :: l) (.ref x :: st) h := rfl
theorem s_Outl_findNearest_27 {x : Nat} : wps rm K Q c_Outl_findNearest_27 kc ks loc (.ref (x + 1) :: st) h = eg_gf h x 7 1 (fun v => wps rm K Q c_Outl_findNearest_30 kc ks loc (v :: st) h) := rfl
theorem s_Outl_findNearest_30 {x y : Int32} : wps rm K Q c_Outl_findNearest_30 kc ks loc (.int y :: .int x :: st) h = ((y ≤ x → K 80 kc ks loc st h) ∧ (¬ y ≤ x → wps rm K Q c_Outl_findNearest_33 kc ks loc (st) h)) := rfl
theorem s_Outl_findNearest_33 {x : Nat} {l : eg_Lo} : wps rm K Q c_Outl_findNearest_33 kc ks (some (.ref x) :: l) (st) h = wps rm K Q c_Outl_findNearest_34 kc ks (some (.ref x) :: l) (.ref x :: st) h := rfl
theorem s_Outl_findNearest_34 {x : Int32} {l0 l1 l2 l3 l4 l5 l6 l7 : Option Value} {l : eg_Lo} : wps rm K Q c_Outl_findNearest_34 kc ks (l0 :: l1 :: l2 :: l3 :: l4 :: l5 :: l6 :: l7 :: some (.int x) :: l) (st) h = wps rm K Q c_Outl_findNearest_36 kc ks (l0 :: l1 :: l2 :: l3 :: l4 :: l5 :: l6 :: l7 :: some (.int x) :: l) (.int x :: st) h := rfl
theorem s_Outl_findNearest_36 {x : Int32} {l0 : Option Value} {l : eg_Lo} : wps rm K Q c_Outl_findNearest_36 kc ks (l0 :: some (.int x) :: l) (st) h = wps rm K Q c_Outl_findNearest_37 kc ks (l0 :: some (.int x) :: l) (.int x :: st) h := rfl
theorem s_Outl_findNearest_37 {x : Int32} {l0 l1 : Option Value} {l : eg_Lo} : wps rm K Q c_Outl_findNearest_37 kc ks (l0 :: l1 :: some (.int x) :: l) (st) h = wps rm K Q c_Outl_findNearest_38 kc ks (l0 :: l1 :: some (.int x) :: l) (.int x :: st) h := rfl
theorem s_Outl_findNearest_38  {a1 : Value} {a2 : Value} {a3 : Value} {x : Nat} : wps rm K Q c_Outl_findNearest_38 kc ks loc (a3 :: a2 :: a1 :: .ref (x + 1) :: st) h = (eg_cls h x 7 ∧ st.length ≤ 4 ∧ eg_Cs n_Outl_measure (.ref (x + 1) :: [a1, a2, a3]) h (fun v h9 => wps rm K Q c_Outl_findNearest_41 kc ks loc (v.toList ++ st) h9)) := eg_c1_3
theorem s_Outl_findNearest_41 {x : Nat} {l : eg_Lo} : wps rm K Q c_Outl_findNearest_41 kc ks (some (.ref x) :: l) (st) h = wps rm K Q c_Outl_findNearest_42 kc ks (some (.ref x) :: l) (.ref x :: st) h := rfl
theorem s_Outl_findNearest_42 {x : Nat} : wps rm K Q c_Outl_findNearest_42 kc ks loc (.ref (x + 1) :: st) h = eg_gf h x 7 4 (fun v => wps rm K Q c_Outl_findNearest_45 kc ks loc (v :: st) h) := rfl
theorem s_Outl_findNearest_45 {x : Nat} {l : eg_Lo} : wps rm K Q c_Outl_findNearest_45 kc ks (some (.ref x) :: l) (st) h = wps rm K Q c_Outl_findNearest_46 kc ks (some (.ref x) :: l) (.ref x :: st) h := rfl
theorem s_Outl_findNearest_46 {x : Nat} : wps rm K Q c_Outl_findNearest_46 kc ks loc (.ref (x + 1) :: st) h = eg_gf h x 7 5 (fun v => wps rm K Q c_Outl_findNearest_49 kc ks loc (v :: st) h) := rfl
theorem s_Outl_findNearest_49 {x : Int64} {l0 l1 l2 l3 : Option Value} {l : eg_Lo} : wps rm K Q c_Outl_findNearest_49 kc ks (l0 :: l1 :: l2 :: l3 :: some (.long x) :: l) (st) h = wps rm K Q c_Outl_findNearest_51 kc ks (l0 :: l1 :: l2 :: l3 :: some (.long x) :: l) (.long x :: st) h := rfl
theorem s_Outl_findNearest_51 {x : Int64} {l0 l1 l2 l3 l4 l5 : Option Value} {l : eg_Lo} : wps rm K Q c_Outl_findNearest_51 kc ks (l0 :: l1 :: l2 :: l3 :: l4 :: l5 :: some (.long x) :: l) (st) h = wps rm K Q c_Outl_findNearest_53 kc ks (l0 :: l1 :: l2 :: l3 :: l4 :: l5 :: some (.long x) :: l) (.long x :: st) h := rfl
theorem s_Outl_findNearest_53  {a1 : Value} {a2 : Value} {a3 : Value} {a4 : Value} : wps rm K Q c_Outl_findNearest_53 kc ks loc (a4 :: a3 :: a2 :: a1 :: st) h = (st.length ≤ 4 ∧ eg_Cs n_Frac_isLess [a1, a2, a3, a4] h (fun v h9 => wps rm K Q c_Outl_findNearest_56 kc ks loc (v.toList ++ st) h9)) := eg_c0_4
theorem s_Outl_findNearest_56 {x : Int32} : wps rm K Q c_Outl_findNearest_56 kc ks loc (.int x :: st) h = ((x = 0 → K 74 kc ks loc st h) ∧ (¬ x = 0 → wps rm K Q c_Outl_findNearest_59 kc ks loc (st) h)) := rfl
theorem s_Outl_findNearest_59 {x : Int32} {l0 l1 l2 l3 l4 l5 l6 l7 : Option Value} {l : eg_Lo} : wps rm K Q c_Outl_findNearest_59 kc ks (l0 :: l1 :: l2 :: l3 :: l4 :: l5 :: l6 :: l7 :: some (.int x) :: l) (st) h = wps rm K Q c_Outl_findNearest_61 kc ks (l0 :: l1 :: l2 :: l3 :: l4 :: l5 :: l6 :: l7 :: some (.int x) :: l) (.int x :: st) h := rfl
theorem s_Outl_findNearest_61 {x : Int32} : wps rm K Q c_Outl_findNearest_61 kc ks loc (.int x :: st) h = wps rm K Q c_Outl_findNearest_62 kc ks (eg_set1 loc 3 (.int x)) (st) h := rfl
theorem s_Outl_findNearest_62 {x : Nat} {l : eg_Lo} : wps rm K Q c_Outl_findNearest_62 kc ks (some (.ref x) :: l) (st) h = wps rm K Q c_Outl_findNearest_63 kc ks (some (.ref x) :: l) (.ref x :: st) h := rfl
theorem s_Outl_findNearest_63 {x : Nat} : wps rm K Q c_Outl_findNearest_63 kc ks loc (.ref (x + 1) :: st) h = eg_gf h x 7 4 (fun v => wps rm K Q c_Outl_findNearest_66 kc ks loc (v :: st) h) := rfl
theorem s_Outl_findNearest_66 {x : Int64} : wps rm K Q c_Outl_findNearest_66 kc ks loc (.long x :: st) h = wps rm K Q c_Outl_findNearest_68 kc ks (eg_set2 loc 4 (.long x)) (st) h := rfl
theorem s_Outl_findNearest_68 {x : Nat} {l : eg_Lo} : wps rm K Q c_Outl_findNearest_68 kc ks (some (.ref x) :: l) (st) h = wps rm K Q c_Outl_findNearest_69 kc ks (some (.ref x) :: l) (.ref x :: st) h := rfl
theorem s_Outl_findNearest_69 {x : Nat} : wps rm K Q c_Outl_findNearest_69 kc ks loc (.ref (x + 1) :: st) h = eg_gf h x 7 5 (fun v => wps rm K Q c_Outl_findNearest_72 kc ks loc (v :: st) h) := rfl
theorem s_Outl_findNearest_72 {x : Int64} : wps rm K Q c_Outl_findNearest_72 kc ks loc (.long x :: st) h = wps rm K Q c_Outl_findNearest_74 kc ks (eg_set2 loc 6 (.long x)) (st) h := rfl
theorem s_Outl_findNearest_74 {x : Int32} {l0 l1 l2 l3 l4 l5 l6 l7 : Option Value} {l9 : eg_Lo} : wps rm K Q c_Outl_findNearest_74 kc ks (l0 :: l1 :: l2 :: l3 :: l4 :: l5 :: l6 :: l7 :: some (.int x) :: l9) (st) h = wps rm K Q c_Outl_findNearest_77 kc ks (eg_set1 (l0 :: l1 :: l2 :: l3 :: l4 :: l5 :: l6 :: l7 :: some (.int x) :: l9) 8 (.int (x + (1)))) (st) h := rfl
theorem s_Outl_findNearest_77  : wps rm K Q c_Outl_findNearest_77 kc ks loc (st) h = K 24 kc ks loc st h := rfl
theorem s_Outl_findNearest_80 {x : Nat} {l : eg_Lo} : wps rm K Q c_Outl_findNearest_80 kc ks (some (.ref x) :: l) (st) h = wps rm K Q c_Outl_findNearest_81 kc ks (some (.ref x) :: l) (.ref x :: st) h := rfl
theorem s_Outl_findNearest_81 {x : Nat} : wps rm K Q c_Outl_findNearest_81 kc ks loc (.ref (x + 1) :: st) h = eg_gf h x 7 0 (fun v => wps rm K Q c_Outl_findNearest_84 kc ks loc (v :: st) h) := rfl
theorem s_Outl_findNearest_84 {x : Int64} {l0 l1 l2 l3 : Option Value} {l : eg_Lo} : wps rm K Q c_Outl_findNearest_84 kc ks (l0 :: l1 :: l2 :: l3 :: some (.long x) :: l) (st) h = wps rm K Q c_Outl_findNearest_86 kc ks (l0 :: l1 :: l2 :: l3 :: some (.long x) :: l) (.long x :: st) h := rfl
theorem s_Outl_findNearest_86 {x : Int64} {l0 l1 l2 l3 l4 l5 : Option Value} {l : eg_Lo} : wps rm K Q c_Outl_findNearest_86 kc ks (l0 :: l1 :: l2 :: l3 :: l4 :: l5 :: some (.long x) :: l) (st) h = wps rm K Q c_Outl_findNearest_88 kc ks (l0 :: l1 :: l2 :: l3 :: l4 :: l5 :: some (.long x) :: l) (.long x :: st) h := rfl
theorem s_Outl_findNearest_88  {a1 : Value} {a2 : Value} {x : Nat} : wps rm K Q c_Outl_findNearest_88 kc ks loc (a2 :: a1 :: .ref (x + 1) :: st) h = (eg_cls h x 4 ∧ st.length ≤ 4 ∧ eg_Cs n_Frac_become (.ref (x + 1) :: [a1, a2]) h (fun v h9 => wps rm K Q c_Outl_findNearest_91 kc ks loc (v.toList ++ st) h9)) := eg_c1_2
theorem s_Outl_findNearest_91 {x : Int32} {l0 l1 l2 : Option Value} {l : eg_Lo} : wps rm K Q c_Outl_findNearest_91 kc ks (l0 :: l1 :: l2 :: some (.int x) :: l) (st) h = wps rm K Q c_Outl_findNearest_92 kc ks (l0 :: l1 :: l2 :: some (.int x) :: l) (.int x :: st) h := rfl
theorem s_Outl_findNearest_92 {x : Int32} : wps rm K Q c_Outl_findNearest_92 kc ks loc ([.int x]) h = (kc = rm.cells ∧ (0 = 1 → x = 0 ∨ x = 1) ∧ Q (some (.int x)) h) := rfl
def T_Outl_findNearest : List (Nat × List eg_I) := [(74, c_Outl_findNearest_74), (80, c_Outl_findNearest_80)]
theorem j_Outl_findNearest_74 {R : Nat → Nat → Nat → eg_Lo → List Value → List eg_E → Prop} {f pc0 : Nat} : eg_run rm R Q T_Outl_findNearest (f + 1) 74 kc ks loc st h = wps rm (eg_run rm R Q T_Outl_findNearest f) Q c_Outl_findNearest_74 kc ks loc st h := rfl
theorem j_Outl_findNearest_80 {R : Nat → Nat → Nat → eg_Lo → List Value → List eg_E → Prop} {f pc0 : Nat} : eg_run rm R Q T_Outl_findNearest (f + 1) 80 kc ks loc st h = wps rm (eg_run rm R Q T_Outl_findNearest f) Q c_Outl_findNearest_80 kc ks loc st h := rfl
theorem j_Outl_findNearest_24 {R : Nat → Nat → Nat → eg_Lo → List Value → List eg_E → Prop} {f pc0 : Nat} : eg_run rm R Q T_Outl_findNearest (f + 1) 24 kc ks loc st h = R 24 kc ks loc st h := rfl
end
theorem q_Outl_findNearest : (T_Outl_findNearest.all fun q => eg_seq m_Outl_findNearest q.1 q.2) = true := by decide +kernel
theorem b_Outl_findNearest {as : List Value} {h : List eg_E} {Q : Option Value → List eg_E → Prop} (hf : (eg_fl as).length ≤ 9) (hw : wps (eg_rm m_Outl_findNearest) (eg_run (eg_rm m_Outl_findNearest) (eg_R m_Outl_findNearest Q (h.length + 0)) Q T_Outl_findNearest 4) Q c_Outl_findNearest_0 0 0 (eg_entry 9 as) [] h) : eg_Runs n_Outl_findNearest as h Q := eg_begin (d := m_Outl_findNearest) rfl (by decide) (by decide +kernel) q_Outl_findNearest hf hw
theorem p_Outl_findNearest_24 {Q : Option Value → List eg_E → Prop} {n0 kc ks : Nat} {loc : eg_Lo} {st : List Value} {h : List eg_E} (hw : wps (eg_rm m_Outl_findNearest) (eg_run (eg_rm m_Outl_findNearest) (eg_R m_Outl_findNearest Q n0) Q T_Outl_findNearest 4) Q c_Outl_findNearest_24 kc ks loc st h) : eg_R m_Outl_findNearest Q n0 24 kc ks loc st h := eg_go (by decide +kernel) q_Outl_findNearest hw
/-! ===== Outl_measure ===== -/
def c_Outl_measure_197 : List eg_I := .inl (197, 1, .return_, 0, 0) :: []
def c_Outl_measure_194 : List eg_I := .inl (194, 3, .putfield 37, 7, 5) :: c_Outl_measure_197
def c_Outl_measure_192 : List eg_I := .inl (192, 2, .lload 13, 0, 0) :: c_Outl_measure_194
def c_Outl_measure_191 : List eg_I := .inl (191, 1, .aload 0, 0, 0) :: c_Outl_measure_192
def c_Outl_measure_188 : List eg_I := .inl (188, 3, .putfield 33, 7, 4) :: c_Outl_measure_191
def c_Outl_measure_187 : List eg_I := .inl (187, 1, .lmul, 0, 0) :: c_Outl_measure_188
def c_Outl_measure_185 : List eg_I := .inl (185, 2, .lload 17, 0, 0) :: c_Outl_measure_187
def c_Outl_measure_183 : List eg_I := .inl (183, 2, .lload 17, 0, 0) :: c_Outl_measure_185
def c_Outl_measure_182 : List eg_I := .inl (182, 1, .aload 0, 0, 0) :: c_Outl_measure_183
def c_Outl_measure_180 : List eg_I := .inl (180, 2, .lstore 17, 0, 0) :: c_Outl_measure_182
def c_Outl_measure_179 : List eg_I := .inl (179, 1, .lsub, 0, 0) :: c_Outl_measure_180
def c_Outl_measure_178 : List eg_I := .inl (178, 1, .lmul, 0, 0) :: c_Outl_measure_179
def c_Outl_measure_176 : List eg_I := .inl (176, 2, .lload 9, 0, 0) :: c_Outl_measure_178
def c_Outl_measure_174 : List eg_I := .inl (174, 2, .lload 7, 0, 0) :: c_Outl_measure_176
def c_Outl_measure_173 : List eg_I := .inl (173, 1, .lmul, 0, 0) :: c_Outl_measure_174
def c_Outl_measure_171 : List eg_I := .inl (171, 2, .lload 11, 0, 0) :: c_Outl_measure_173
def c_Outl_measure_169 : List eg_I := .inl (169, 2, .lload 5, 0, 0) :: c_Outl_measure_171
def c_Outl_measure_166 : List eg_I := .inl (166, 3, .goto (31), 197, 0) :: []
def c_Outl_measure_163 : List eg_I := .inl (163, 3, .putfield 33, 7, 4) :: c_Outl_measure_166
def c_Outl_measure_162 : List eg_I := .inl (162, 1, .ladd, 0, 0) :: c_Outl_measure_163
def c_Outl_measure_161 : List eg_I := .inl (161, 1, .lmul, 0, 0) :: c_Outl_measure_162
def c_Outl_measure_160 : List eg_I := .inl (160, 1, .lsub, 0, 0) :: c_Outl_measure_161
def c_Outl_measure_158 : List eg_I := .inl (158, 2, .lload 7, 0, 0) :: c_Outl_measure_160
def c_Outl_measure_156 : List eg_I := .inl (156, 2, .lload 11, 0, 0) :: c_Outl_measure_158
def c_Outl_measure_155 : List eg_I := .inl (155, 1, .lsub, 0, 0) :: c_Outl_measure_156
def c_Outl_measure_153 : List eg_I := .inl (153, 2, .lload 7, 0, 0) :: c_Outl_measure_155
def c_Outl_measure_151 : List eg_I := .inl (151, 2, .lload 11, 0, 0) :: c_Outl_measure_153
def c_Outl_measure_150 : List eg_I := .inl (150, 1, .lmul, 0, 0) :: c_Outl_measure_151
def c_Outl_measure_149 : List eg_I := .inl (149, 1, .lsub, 0, 0) :: c_Outl_measure_150
def c_Outl_measure_147 : List eg_I := .inl (147, 2, .lload 5, 0, 0) :: c_Outl_measure_149
def c_Outl_measure_145 : List eg_I := .inl (145, 2, .lload 9, 0, 0) :: c_Outl_measure_147
def c_Outl_measure_144 : List eg_I := .inl (144, 1, .lsub, 0, 0) :: c_Outl_measure_145
def c_Outl_measure_142 : List eg_I := .inl (142, 2, .lload 5, 0, 0) :: c_Outl_measure_144
def c_Outl_measure_140 : List eg_I := .inl (140, 2, .lload 9, 0, 0) :: c_Outl_measure_142
def c_Outl_measure_139 : List eg_I := .inl (139, 1, .aload 0, 0, 0) :: c_Outl_measure_140
def c_Outl_measure_136 : List eg_I := .inl (136, 3, .ifCond .lt (33), 169, 0) :: c_Outl_measure_139
def c_Outl_measure_135 : List eg_I := .inl (135, 1, .lcmp, 0, 0) :: c_Outl_measure_136
def c_Outl_measure_133 : List eg_I := .inl (133, 2, .lload 13, 0, 0) :: c_Outl_measure_135
def c_Outl_measure_131 : List eg_I := .inl (131, 2, .lload 15, 0, 0) :: c_Outl_measure_133
def c_Outl_measure_128 : List eg_I := .inl (128, 3, .goto (69), 197, 0) :: []
def c_Outl_measure_125 : List eg_I := .inl (125, 3, .putfield 33, 7, 4) :: c_Outl_measure_128
def c_Outl_measure_124 : List eg_I := .inl (124, 1, .ladd, 0, 0) :: c_Outl_measure_125
def c_Outl_measure_123 : List eg_I := .inl (123, 1, .lmul, 0, 0) :: c_Outl_measure_124
def c_Outl_measure_121 : List eg_I := .inl (121, 2, .lload 11, 0, 0) :: c_Outl_measure_123
def c_Outl_measure_119 : List eg_I := .inl (119, 2, .lload 11, 0, 0) :: c_Outl_measure_121
def c_Outl_measure_118 : List eg_I := .inl (118, 1, .lmul, 0, 0) :: c_Outl_measure_119
def c_Outl_measure_116 : List eg_I := .inl (116, 2, .lload 9, 0, 0) :: c_Outl_measure_118
def c_Outl_measure_114 : List eg_I := .inl (114, 2, .lload 9, 0, 0) :: c_Outl_measure_116
def c_Outl_measure_113 : List eg_I := .inl (113, 1, .aload 0, 0, 0) :: c_Outl_measure_114
def c_Outl_measure_110 : List eg_I := .inl (110, 3, .ifCond .gt (21), 131, 0) :: c_Outl_measure_113
def c_Outl_measure_109 : List eg_I := .inl (109, 1, .lcmp, 0, 0) :: c_Outl_measure_110
def c_Outl_measure_108 : List eg_I := .inl (108, 1, .sipush (0), 0, 0) :: c_Outl_measure_109
def c_Outl_measure_106 : List eg_I := .inl (106, 2, .lload 15, 0, 0) :: c_Outl_measure_108
def c_Outl_measure_103 : List eg_I := .inl (103, 3, .putfield 37, 7, 5) :: c_Outl_measure_106
def c_Outl_measure_102 : List eg_I := .inl (102, 1, .sipush (1), 0, 0) :: c_Outl_measure_103
def c_Outl_measure_101 : List eg_I := .inl (101, 1, .aload 0, 0, 0) :: c_Outl_measure_102
def c_Outl_measure_99 : List eg_I := .inl (99, 2, .lstore 15, 0, 0) :: c_Outl_measure_101
def c_Outl_measure_98 : List eg_I := .inl (98, 1, .ladd, 0, 0) :: c_Outl_measure_99
def c_Outl_measure_97 : List eg_I := .inl (97, 1, .lmul, 0, 0) :: c_Outl_measure_98
def c_Outl_measure_95 : List eg_I := .inl (95, 2, .lload 11, 0, 0) :: c_Outl_measure_97
def c_Outl_measure_93 : List eg_I := .inl (93, 2, .lload 7, 0, 0) :: c_Outl_measure_95
def c_Outl_measure_92 : List eg_I := .inl (92, 1, .lmul, 0, 0) :: c_Outl_measure_93
def c_Outl_measure_90 : List eg_I := .inl (90, 2, .lload 9, 0, 0) :: c_Outl_measure_92
def c_Outl_measure_88 : List eg_I := .inl (88, 2, .lload 5, 0, 0) :: c_Outl_measure_90
def c_Outl_measure_86 : List eg_I := .inl (86, 2, .lstore 13, 0, 0) :: c_Outl_measure_88
def c_Outl_measure_85 : List eg_I := .inl (85, 1, .ladd, 0, 0) :: c_Outl_measure_86
def c_Outl_measure_84 : List eg_I := .inl (84, 1, .lmul, 0, 0) :: c_Outl_measure_85
def c_Outl_measure_82 : List eg_I := .inl (82, 2, .lload 7, 0, 0) :: c_Outl_measure_84
def c_Outl_measure_80 : List eg_I := .inl (80, 2, .lload 7, 0, 0) :: c_Outl_measure_82
def c_Outl_measure_79 : List eg_I := .inl (79, 1, .lmul, 0, 0) :: c_Outl_measure_80
def c_Outl_measure_77 : List eg_I := .inl (77, 2, .lload 5, 0, 0) :: c_Outl_measure_79
def c_Outl_measure_75 : List eg_I := .inl (75, 2, .lload 5, 0, 0) :: c_Outl_measure_77
def c_Outl_measure_73 : List eg_I := .inl (73, 2, .lstore 11, 0, 0) :: c_Outl_measure_75
def c_Outl_measure_72 : List eg_I := .inl (72, 1, .i2l, 0, 0) :: c_Outl_measure_73
def c_Outl_measure_71 : List eg_I := .inl (71, 1, .isub, 0, 0) :: c_Outl_measure_72
def c_Outl_measure_70 : List eg_I := .inl (70, 1, .iaload, 0, 0) :: c_Outl_measure_71
def c_Outl_measure_69 : List eg_I := .inl (69, 1, .iload 1, 0, 0) :: c_Outl_measure_70
def c_Outl_measure_66 : List eg_I := .inl (66, 3, .getfield 22, 7, 3) :: c_Outl_measure_69
def c_Outl_measure_65 : List eg_I := .inl (65, 1, .aload 0, 0, 0) :: c_Outl_measure_66
def c_Outl_measure_64 : List eg_I := .inl (64, 1, .iload 3, 0, 0) :: c_Outl_measure_65
def c_Outl_measure_62 : List eg_I := .inl (62, 2, .lstore 9, 0, 0) :: c_Outl_measure_64
def c_Outl_measure_61 : List eg_I := .inl (61, 1, .i2l, 0, 0) :: c_Outl_measure_62
def c_Outl_measure_60 : List eg_I := .inl (60, 1, .isub, 0, 0) :: c_Outl_measure_61
def c_Outl_measure_59 : List eg_I := .inl (59, 1, .iaload, 0, 0) :: c_Outl_measure_60
def c_Outl_measure_58 : List eg_I := .inl (58, 1, .iload 1, 0, 0) :: c_Outl_measure_59
def c_Outl_measure_55 : List eg_I := .inl (55, 3, .getfield 18, 7, 2) :: c_Outl_measure_58
def c_Outl_measure_54 : List eg_I := .inl (54, 1, .aload 0, 0, 0) :: c_Outl_measure_55
def c_Outl_measure_53 : List eg_I := .inl (53, 1, .iload 2, 0, 0) :: c_Outl_measure_54
def c_Outl_measure_51 : List eg_I := .inl (51, 2, .lstore 7, 0, 0) :: c_Outl_measure_53
def c_Outl_measure_50 : List eg_I := .inl (50, 1, .i2l, 0, 0) :: c_Outl_measure_51
def c_Outl_measure_49 : List eg_I := .inl (49, 1, .isub, 0, 0) :: c_Outl_measure_50
def c_Outl_measure_48 : List eg_I := .inl (48, 1, .iaload, 0, 0) :: c_Outl_measure_49
def c_Outl_measure_47 : List eg_I := .inl (47, 1, .iload 1, 0, 0) :: c_Outl_measure_48
def c_Outl_measure_44 : List eg_I := .inl (44, 3, .getfield 22, 7, 3) :: c_Outl_measure_47
def c_Outl_measure_43 : List eg_I := .inl (43, 1, .aload 0, 0, 0) :: c_Outl_measure_44
def c_Outl_measure_42 : List eg_I := .inl (42, 1, .iaload, 0, 0) :: c_Outl_measure_43
def c_Outl_measure_40 : List eg_I := .inl (40, 2, .iload 4, 0, 0) :: c_Outl_measure_42
def c_Outl_measure_37 : List eg_I := .inl (37, 3, .getfield 22, 7, 3) :: c_Outl_measure_40
def c_Outl_measure_36 : List eg_I := .inl (36, 1, .aload 0, 0, 0) :: c_Outl_measure_37
def c_Outl_measure_34 : List eg_I := .inl (34, 2, .lstore 5, 0, 0) :: c_Outl_measure_36
def c_Outl_measure_33 : List eg_I := .inl (33, 1, .i2l, 0, 0) :: c_Outl_measure_34
def c_Outl_measure_32 : List eg_I := .inl (32, 1, .isub, 0, 0) :: c_Outl_measure_33
def c_Outl_measure_31 : List eg_I := .inl (31, 1, .iaload, 0, 0) :: c_Outl_measure_32
def c_Outl_measure_30 : List eg_I := .inl (30, 1, .iload 1, 0, 0) :: c_Outl_measure_31
def c_Outl_measure_27 : List eg_I := .inl (27, 3, .getfield 18, 7, 2) :: c_Outl_measure_30
def c_Outl_measure_26 : List eg_I := .inl (26, 1, .aload 0, 0, 0) :: c_Outl_measure_27
def c_Outl_measure_25 : List eg_I := .inl (25, 1, .iaload, 0, 0) :: c_Outl_measure_26
def c_Outl_measure_23 : List eg_I := .inl (23, 2, .iload 4, 0, 0) :: c_Outl_measure_25
def c_Outl_measure_20 : List eg_I := .inl (20, 3, .getfield 18, 7, 2) :: c_Outl_measure_23
def c_Outl_measure_19 : List eg_I := .inl (19, 1, .aload 0, 0, 0) :: c_Outl_measure_20
def c_Outl_measure_17 : List eg_I := .inl (17, 2, .istore 4, 0, 0) :: c_Outl_measure_19
def c_Outl_measure_16 : List eg_I := .inl (16, 1, .iconst (0), 0, 0) :: c_Outl_measure_17
def c_Outl_measure_13 : List eg_I := .inl (13, 3, .goto (4), 17, 0) :: []
def c_Outl_measure_12 : List eg_I := .inl (12, 1, .iadd, 0, 0) :: c_Outl_measure_13
def c_Outl_measure_11 : List eg_I := .inl (11, 1, .iconst (1), 0, 0) :: c_Outl_measure_12
def c_Outl_measure_10 : List eg_I := .inl (10, 1, .iload 1, 0, 0) :: c_Outl_measure_11
def c_Outl_measure_7 : List eg_I := .inl (7, 3, .if_icmp .ge (9), 16, 0) :: c_Outl_measure_10
def c_Outl_measure_4 : List eg_I := .inl (4, 3, .getfield 25, 7, 1) :: c_Outl_measure_7
def c_Outl_measure_3 : List eg_I := .inl (3, 1, .aload 0, 0, 0) :: c_Outl_measure_4
def c_Outl_measure_2 : List eg_I := .inl (2, 1, .iadd, 0, 0) :: c_Outl_measure_3
def c_Outl_measure_1 : List eg_I := .inl (1, 1, .iconst (1), 0, 0) :: c_Outl_measure_2
def c_Outl_measure_0 : List eg_I := .inl (0, 1, .iload 1, 0, 0) :: c_Outl_measure_1
section
variable {rm : Room} {K : Nat → Nat → Nat → eg_Lo → List Value → List eg_E → Prop} {Q : Option Value → List eg_E → Prop} {kc ks : Nat} {loc : eg_Lo} {st : List Value} {h : List eg_E}
theorem s_Outl_measure_0 {x : Int32} {l0 : Option Value} {l : eg_Lo} : wps rm K Q c_Outl_measure_0 kc ks (l0 :: some (.int x) :: l) (st) h = wps rm K Q c_Outl_measure_1 kc ks (l0 :: some (.int x) :: l) (.int x :: st) h := rfl
theorem s_Outl_measure_1  : wps rm K Q c_Outl_measure_1 kc ks loc (st) h = wps rm K Q c_Outl_measure_2 kc ks loc (.int (1) :: st) h := rfl
theorem s_Outl_measure_2 {x y : Int32} : wps rm K Q c_Outl_measure_2 kc ks loc (.int y :: .int x :: st) h = wps rm K Q c_Outl_measure_3 kc ks loc (.int (x + y) :: st) h := rfl
theorem s_Outl_measure_3 {x : Nat} {l : eg_Lo} : wps rm K Q c_Outl_measure_3 kc ks (some (.ref x) :: l) (st) h = wps rm K Q c_Outl_measure_4 kc ks (some (.ref x) :: l) (.ref x :: st) h := rfl
theorem s_Outl_measure_4 {x : Nat} : wps rm K Q c_Outl_measure_4 kc ks loc (.ref (x + 1) :: st) h = eg_gf h x 7 1 (fun v => wps rm K Q c_Outl_measure_7 kc ks loc (v :: st) h) := rfl
theorem s_Outl_measure_7 {x y : Int32} : wps rm K Q c_Outl_measure_7 kc ks loc (.int y :: .int x :: st) h = ((y ≤ x → K 16 kc ks loc st h) ∧ (¬ y ≤ x → wps rm K Q c_Outl_measure_10 kc ks loc (st) h)) := rfl
theorem s_Outl_measure_10 {x : Int32} {l0 : Option Value} {l : eg_Lo} : wps rm K Q c_Outl_measure_10 kc ks (l0 :: some (.int x) :: l) (st) h = wps rm K Q c_Outl_measure_11 kc ks (l0 :: some (.int x) :: l) (.int x :: st) h := rfl
theorem s_Outl_measure_11  : wps rm K Q c_Outl_measure_11 kc ks loc (st) h = wps rm K Q c_Outl_measure_12 kc ks loc (.int (1) :: st) h := rfl
theorem s_Outl_measure_12 {x y : Int32} : wps rm K Q c_Outl_measure_12 kc ks loc (.int y :: .int x :: st) h = wps rm K Q c_Outl_measure_13 kc ks loc (.int (x + y) :: st) h := rfl
theorem s_Outl_measure_13  : wps rm K Q c_Outl_measure_13 kc ks loc (st) h = K 17 kc ks loc st h := rfl
theorem s_Outl_measure_16  : wps rm K Q c_Outl_measure_16 kc ks loc (st) h = wps rm K Q c_Outl_measure_17 kc ks loc (.int (0) :: st) h := rfl
theorem s_Outl_measure_17 {x : Int32} : wps rm K Q c_Outl_measure_17 kc ks loc (.int x :: st) h = wps rm K Q c_Outl_measure_19 kc ks (eg_set1 loc 4 (.int x)) (st) h := rfl
theorem s_Outl_measure_19 {x : Nat} {l : eg_Lo} : wps rm K Q c_Outl_measure_19 kc ks (some (.ref x) :: l) (st) h = wps rm K Q c_Outl_measure_20 kc ks (some (.ref x) :: l) (.ref x :: st) h := rfl
theorem s_Outl_measure_20 {x : Nat} : wps rm K Q c_Outl_measure_20 kc ks loc (.ref (x + 1) :: st) h = eg_gf h x 7 2 (fun v => wps rm K Q c_Outl_measure_23 kc ks loc (v :: st) h) := rfl
theorem s_Outl_measure_23 {x : Int32} {l0 l1 l2 l3 : Option Value} {l : eg_Lo} : wps rm K Q c_Outl_measure_23 kc ks (l0 :: l1 :: l2 :: l3 :: some (.int x) :: l) (st) h = wps rm K Q c_Outl_measure_25 kc ks (l0 :: l1 :: l2 :: l3 :: some (.int x) :: l) (.int x :: st) h := rfl
theorem s_Outl_measure_25 {x : Nat} {i : Int32} : wps rm K Q c_Outl_measure_25 kc ks loc (.int i :: .ref (x + 1) :: st) h = eg_ia h x i (fun v => wps rm K Q c_Outl_measure_26 kc ks loc (.int v :: st) h) := rfl
theorem s_Outl_measure_26 {x : Nat} {l : eg_Lo} : wps rm K Q c_Outl_measure_26 kc ks (some (.ref x) :: l) (st) h = wps rm K Q c_Outl_measure_27 kc ks (some (.ref x) :: l) (.ref x :: st) h := rfl
theorem s_Outl_measure_27 {x : Nat} : wps rm K Q c_Outl_measure_27 kc ks loc (.ref (x + 1) :: st) h = eg_gf h x 7 2 (fun v => wps rm K Q c_Outl_measure_30 kc ks loc (v :: st) h) := rfl
theorem s_Outl_measure_30 {x : Int32} {l0 : Option Value} {l : eg_Lo} : wps rm K Q c_Outl_measure_30 kc ks (l0 :: some (.int x) :: l) (st) h = wps rm K Q c_Outl_measure_31 kc ks (l0 :: some (.int x) :: l) (.int x :: st) h := rfl
theorem s_Outl_measure_31 {x : Nat} {i : Int32} : wps rm K Q c_Outl_measure_31 kc ks loc (.int i :: .ref (x + 1) :: st) h = eg_ia h x i (fun v => wps rm K Q c_Outl_measure_32 kc ks loc (.int v :: st) h) := rfl
theorem s_Outl_measure_32 {x y : Int32} : wps rm K Q c_Outl_measure_32 kc ks loc (.int y :: .int x :: st) h = wps rm K Q c_Outl_measure_33 kc ks loc (.int (x - y) :: st) h := rfl
theorem s_Outl_measure_33 {x : Int32} : wps rm K Q c_Outl_measure_33 kc ks loc (.int x :: st) h = wps rm K Q c_Outl_measure_34 kc ks loc (.long (x.toInt64) :: st) h := rfl
theorem s_Outl_measure_34 {x : Int64} : wps rm K Q c_Outl_measure_34 kc ks loc (.long x :: st) h = wps rm K Q c_Outl_measure_36 kc ks (eg_set2 loc 5 (.long x)) (st) h := rfl
theorem s_Outl_measure_36 {x : Nat} {l : eg_Lo} : wps rm K Q c_Outl_measure_36 kc ks (some (.ref x) :: l) (st) h = wps rm K Q c_Outl_measure_37 kc ks (some (.ref x) :: l) (.ref x :: st) h := rfl
theorem s_Outl_measure_37 {x : Nat} : wps rm K Q c_Outl_measure_37 kc ks loc (.ref (x + 1) :: st) h = eg_gf h x 7 3 (fun v => wps rm K Q c_Outl_measure_40 kc ks loc (v :: st) h) := rfl
theorem s_Outl_measure_40 {x : Int32} {l0 l1 l2 l3 : Option Value} {l : eg_Lo} : wps rm K Q c_Outl_measure_40 kc ks (l0 :: l1 :: l2 :: l3 :: some (.int x) :: l) (st) h = wps rm K Q c_Outl_measure_42 kc ks (l0 :: l1 :: l2 :: l3 :: some (.int x) :: l) (.int x :: st) h := rfl
theorem s_Outl_measure_42 {x : Nat} {i : Int32} : wps rm K Q c_Outl_measure_42 kc ks loc (.int i :: .ref (x + 1) :: st) h = eg_ia h x i (fun v => wps rm K Q c_Outl_measure_43 kc ks loc (.int v :: st) h) := rfl
theorem s_Outl_measure_43 {x : Nat} {l : eg_Lo} : wps rm K Q c_Outl_measure_43 kc ks (some (.ref x) :: l) (st) h = wps rm K Q c_Outl_measure_44 kc ks (some (.ref x) :: l) (.ref x :: st) h := rfl
theorem s_Outl_measure_44 {x : Nat} : wps rm K Q c_Outl_measure_44 kc ks loc (.ref (x + 1) :: st) h = eg_gf h x 7 3 (fun v => wps rm K Q c_Outl_measure_47 kc ks loc (v :: st) h) := rfl
theorem s_Outl_measure_47 {x : Int32} {l0 : Option Value} {l : eg_Lo} : wps rm K Q c_Outl_measure_47 kc ks (l0 :: some (.int x) :: l) (st) h = wps rm K Q c_Outl_measure_48 kc ks (l0 :: some (.int x) :: l) (.int x :: st) h := rfl
theorem s_Outl_measure_48 {x : Nat} {i : Int32} : wps rm K Q c_Outl_measure_48 kc ks loc (.int i :: .ref (x + 1) :: st) h = eg_ia h x i (fun v => wps rm K Q c_Outl_measure_49 kc ks loc (.int v :: st) h) := rfl
theorem s_Outl_measure_49 {x y : Int32} : wps rm K Q c_Outl_measure_49 kc ks loc (.int y :: .int x :: st) h = wps rm K Q c_Outl_measure_50 kc ks loc (.int (x - y) :: st) h := rfl
theorem s_Outl_measure_50 {x : Int32} : wps rm K Q c_Outl_measure_50 kc ks loc (.int x :: st) h = wps rm K Q c_Outl_measure_51 kc ks loc (.long (x.toInt64) :: st) h := rfl
theorem s_Outl_measure_51 {x : Int64} : wps rm K Q c_Outl_measure_51 kc ks loc (.long x :: st) h = wps rm K Q c_Outl_measure_53 kc ks (eg_set2 loc 7 (.long x)) (st) h := rfl
theorem s_Outl_measure_53 {x : Int32} {l0 l1 : Option Value} {l : eg_Lo} : wps rm K Q c_Outl_measure_53 kc ks (l0 :: l1 :: some (.int x) :: l) (st) h = wps rm K Q c_Outl_measure_54 kc ks (l0 :: l1 :: some (.int x) :: l) (.int x :: st) h := rfl
theorem s_Outl_measure_54 {x : Nat} {l : eg_Lo} : wps rm K Q c_Outl_measure_54 kc ks (some (.ref x) :: l) (st) h = wps rm K Q c_Outl_measure_55 kc ks (some (.ref x) :: l) (.ref x :: st) h := rfl
theorem s_Outl_measure_55 {x : Nat} : wps rm K Q c_Outl_measure_55 kc ks loc (.ref (x + 1) :: st) h = eg_gf h x 7 2 (fun v => wps rm K Q c_Outl_measure_58 kc ks loc (v :: st) h) := rfl
theorem s_Outl_measure_58 {x : Int32} {l0 : Option Value} {l : eg_Lo} : wps rm K Q c_Outl_measure_58 kc ks (l0 :: some (.int x) :: l) (st) h = wps rm K Q c_Outl_measure_59 kc ks (l0 :: some (.int x) :: l) (.int x :: st) h := rfl
theorem s_Outl_measure_59 {x : Nat} {i : Int32} : wps rm K Q c_Outl_measure_59 kc ks loc (.int i :: .ref (x + 1) :: st) h = eg_ia h x i (fun v => wps rm K Q c_Outl_measure_60 kc ks loc (.int v :: st) h) := rfl
theorem s_Outl_measure_60 {x y : Int32} : wps rm K Q c_Outl_measure_60 kc ks loc (.int y :: .int x :: st) h = wps rm K Q c_Outl_measure_61 kc ks loc (.int (x - y) :: st) h := rfl
theorem s_Outl_measure_61 {x : Int32} : wps rm K Q c_Outl_measure_61 kc ks loc (.int x :: st) h = wps rm K Q c_Outl_measure_62 kc ks loc (.long (x.toInt64) :: st) h := rfl
theorem s_Outl_measure_62 {x : Int64} : wps rm K Q c_Outl_measure_62 kc ks loc (.long x :: st) h = wps rm K Q c_Outl_measure_64 kc ks (eg_set2 loc 9 (.long x)) (st) h := rfl
theorem s_Outl_measure_64 {x : Int32} {l0 l1 l2 : Option Value} {l : eg_Lo} : wps rm K Q c_Outl_measure_64 kc ks (l0 :: l1 :: l2 :: some (.int x) :: l) (st) h = wps rm K Q c_Outl_measure_65 kc ks (l0 :: l1 :: l2 :: some (.int x) :: l) (.int x :: st) h := rfl
theorem s_Outl_measure_65 {x : Nat} {l : eg_Lo} : wps rm K Q c_Outl_measure_65 kc ks (some (.ref x) :: l) (st) h = wps rm K Q c_Outl_measure_66 kc ks (some (.ref x) :: l) (.ref x :: st) h := rfl
theorem s_Outl_measure_66 {x : Nat} : wps rm K Q c_Outl_measure_66 kc ks loc (.ref (x + 1) :: st) h = eg_gf h x 7 3 (fun v => wps rm K Q c_Outl_measure_69 kc ks loc (v :: st) h) := rfl
theorem s_Outl_measure_69 {x : Int32} {l0 : Option Value} {l : eg_Lo} : wps rm K Q c_Outl_measure_69 kc ks (l0 :: some (.int x) :: l) (st) h = wps rm K Q c_Outl_measure_70 kc ks (l0 :: some (.int x) :: l) (.int x :: st) h := rfl
theorem s_Outl_measure_70 {x : Nat} {i : Int32} : wps rm K Q c_Outl_measure_70 kc ks loc (.int i :: .ref (x + 1) :: st) h = eg_ia h x i (fun v => wps rm K Q c_Outl_measure_71 kc ks loc (.int v :: st) h) := rfl
theorem s_Outl_measure_71 {x y : Int32} : wps rm K Q c_Outl_measure_71 kc ks loc (.int y :: .int x :: st) h = wps rm K Q c_Outl_measure_72 kc ks loc (.int (x - y) :: st) h := rfl
theorem s_Outl_measure_72 {x : Int32} : wps rm K Q c_Outl_measure_72 kc ks loc (.int x :: st) h = wps rm K Q c_Outl_measure_73 kc ks loc (.long (x.toInt64) :: st) h := rfl
theorem s_Outl_measure_73 {x : Int64} : wps rm K Q c_Outl_measure_73 kc ks loc (.long x :: st) h = wps rm K Q c_Outl_measure_75 kc ks (eg_set2 loc 11 (.long x)) (st) h := rfl
theorem s_Outl_measure_75 {x : Int64} {l0 l1 l2 l3 l4 : Option Value} {l : eg_Lo} : wps rm K Q c_Outl_measure_75 kc ks (l0 :: l1 :: l2 :: l3 :: l4 :: some (.long x) :: l) (st) h = wps rm K Q c_Outl_measure_77 kc ks (l0 :: l1 :: l2 :: l3 :: l4 :: some (.long x) :: l) (.long x :: st) h := rfl
theorem s_Outl_measure_77 {x : Int64} {l0 l1 l2 l3 l4 : Option Value} {l : eg_Lo} : wps rm K Q c_Outl_measure_77 kc ks (l0 :: l1 :: l2 :: l3 :: l4 :: some (.long x) :: l) (st) h = wps rm K Q c_Outl_measure_79 kc ks (l0 :: l1 :: l2 :: l3 :: l4 :: some (.long x) :: l) (.long x :: st) h := rfl
theorem s_Outl_measure_79 {x y : Int64} : wps rm K Q c_Outl_measure_79 kc ks loc (.long y :: .long x :: st) h = wps rm K Q c_Outl_measure_80 kc ks loc (.long (x * y) :: st) h := rfl
theorem s_Outl_measure_80 {x : Int64} {l0 l1 l2 l3 l4 l5 l6 : Option Value} {l : eg_Lo} : wps rm K Q c_Outl_measure_80 kc ks (l0 :: l1 :: l2 :: l3 :: l4 :: l5 :: l6 :: some (.long x) :: l) (st) h = wps rm K Q c_Outl_measure_82 kc ks (l0 :: l1 :: l2 :: l3 :: l4 :: l5 :: l6 :: some (.long x) :: l) (.long x :: st) h := rfl
theorem s_Outl_measure_82 {x : Int64} {l0 l1 l2 l3 l4 l5 l6 : Option Value} {l : eg_Lo} : wps rm K Q c_Outl_measure_82 kc ks (l0 :: l1 :: l2 :: l3 :: l4 :: l5 :: l6 :: some (.long x) :: l) (st) h = wps rm K Q c_Outl_measure_84 kc ks (l0 :: l1 :: l2 :: l3 :: l4 :: l5 :: l6 :: some (.long x) :: l) (.long x :: st) h := rfl
theorem s_Outl_measure_84 {x y : Int64} : wps rm K Q c_Outl_measure_84 kc ks loc (.long y :: .long x :: st) h = wps rm K Q c_Outl_measure_85 kc ks loc (.long (x * y) :: st) h := rfl
theorem s_Outl_measure_85 {x y : Int64} : wps rm K Q c_Outl_measure_85 kc ks loc (.long y :: .long x :: st) h = wps rm K Q c_Outl_measure_86 kc ks loc (.long (x + y) :: st) h := rfl
theorem s_Outl_measure_86 {x : Int64} : wps rm K Q c_Outl_measure_86 kc ks loc (.long x :: st) h = wps rm K Q c_Outl_measure_88 kc ks (eg_set2 loc 13 (.long x)) (st) h := rfl
theorem s_Outl_measure_88 {x : Int64} {l0 l1 l2 l3 l4 : Option Value} {l : eg_Lo} : wps rm K Q c_Outl_measure_88 kc ks (l0 :: l1 :: l2 :: l3 :: l4 :: some (.long x) :: l) (st) h = wps rm K Q c_Outl_measure_90 kc ks (l0 :: l1 :: l2 :: l3 :: l4 :: some (.long x) :: l) (.long x :: st) h := rfl
theorem s_Outl_measure_90 {x : Int64} {l0 l1 l2 l3 l4 l5 l6 l7 l8 : Option Value} {l : eg_Lo} : wps rm K Q c_Outl_measure_90 kc ks (l0 :: l1 :: l2 :: l3 :: l4 :: l5 :: l6 :: l7 :: l8 :: some (.long x) :: l) (st) h = wps rm K Q c_Outl_measure_92 kc ks (l0 :: l1 :: l2 :: l3 :: l4 :: l5 :: l6 :: l7 :: l8 :: some (.long x) :: l) (.long x :: st) h := rfl
theorem s_Outl_measure_92 {x y : Int64} : wps rm K Q c_Outl_measure_92 kc ks loc (.long y :: .long x :: st) h = wps rm K Q c_Outl_measure_93 kc ks loc (.long (x * y) :: st) h := rfl
theorem s_Outl_measure_93 {x : Int64} {l0 l1 l2 l3 l4 l5 l6 : Option Value} {l : eg_Lo} : wps rm K Q c_Outl_measure_93 kc ks (l0 :: l1 :: l2 :: l3 :: l4 :: l5 :: l6 :: some (.long x) :: l) (st) h = wps rm K Q c_Outl_measure_95 kc ks (l0 :: l1 :: l2 :: l3 :: l4 :: l5 :: l6 :: some (.long x) :: l) (.long x :: st) h := rfl
theorem s_Outl_measure_95 {x : Int64} {l0 l1 l2 l3 l4 l5 l6 l7 l8 l9 l10 : Option Value} {l : eg_Lo} : wps rm K Q c_Outl_measure_95 kc ks (l0 :: l1 :: l2 :: l3 :: l4 :: l5 :: l6 :: l7 :: l8 :: l9 :: l10 :: some (.long x) :: l) (st) h = wps rm K Q c_Outl_measure_97 kc ks (l0 :: l1 :: l2 :: l3 :: l4 :: l5 :: l6 :: l7 :: l8 :: l9 :: l10 :: some (.long x) :: l) (.long x :: st) h := rfl
theorem s_Outl_measure_97 {x y : Int64} : wps rm K Q c_Outl_measure_97 kc ks loc (.long y :: .long x :: st) h = wps rm K Q c_Outl_measure_98 kc ks loc (.long (x * y) :: st) h := rfl
theorem s_Outl_measure_98 {x y : Int64} : wps rm K Q c_Outl_measure_98 kc ks loc (.long y :: .long x :: st) h = wps rm K Q c_Outl_measure_99 kc ks loc (.long (x + y) :: st) h := rfl
theorem s_Outl_measure_99 {x : Int64} : wps rm K Q c_Outl_measure_99 kc ks loc (.long x :: st) h = wps rm K Q c_Outl_measure_101 kc ks (eg_set2 loc 15 (.long x)) (st) h := rfl
theorem s_Outl_measure_101 {x : Nat} {l : eg_Lo} : wps rm K Q c_Outl_measure_101 kc ks (some (.ref x) :: l) (st) h = wps rm K Q c_Outl_measure_102 kc ks (some (.ref x) :: l) (.ref x :: st) h := rfl
theorem s_Outl_measure_102  : wps rm K Q c_Outl_measure_102 kc ks loc (st) h = wps rm K Q c_Outl_measure_103 kc ks loc (.long (1) :: st) h := rfl
theorem s_Outl_measure_103 {x : Nat} {v : Value} : wps rm K Q c_Outl_measure_103 kc ks loc (v :: .ref (x + 1) :: st) h = eg_pf h x 7 5 v (fun h9 => wps rm K Q c_Outl_measure_106 kc ks loc (st) h9) := rfl
theorem s_Outl_measure_106 {x : Int64} {l0 l1 l2 l3 l4 l5 l6 l7 l8 l9 l10 l11 l12 l13 l14 : Option Value} {l : eg_Lo} : wps rm K Q c_Outl_measure_106 kc ks (l0 :: l1 :: l2 :: l3 :: l4 :: l5 :: l6 :: l7 :: l8 :: l9 :: l10 :: l11 :: l12 :: l13 :: l14 :: some (.long x) :: l) (st) h = wps rm K Q c_Outl_measure_108 kc ks (l0 :: l1 :: l2 :: l3 :: l4 :: l5 :: l6 :: l7 :: l8 :: l9 :: l10 :: l11 :: l12 :: l13 :: l14 :: some (.long x) :: l) (.long x :: st) h := rfl
theorem s_Outl_measure_108  : wps rm K Q c_Outl_measure_108 kc ks loc (st) h = wps rm K Q c_Outl_measure_109 kc ks loc (.long (0) :: st) h := rfl
theorem s_Outl_measure_109 {x y : Int64} : wps rm K Q c_Outl_measure_109 kc ks loc (.long y :: .long x :: st) h = wps rm K Q c_Outl_measure_110 kc ks loc (.int (lg_cmp x y) :: st) h := rfl
theorem s_Outl_measure_110 {x : Int32} : wps rm K Q c_Outl_measure_110 kc ks loc (.int x :: st) h = ((0 < x → K 131 kc ks loc st h) ∧ (¬ 0 < x → wps rm K Q c_Outl_measure_113 kc ks loc (st) h)) := rfl
theorem s_Outl_measure_113 {x : Nat} {l : eg_Lo} : wps rm K Q c_Outl_measure_113 kc ks (some (.ref x) :: l) (st) h = wps rm K Q c_Outl_measure_114 kc ks (some (.ref x) :: l) (.ref x :: st) h := rfl
theorem s_Outl_measure_114 {x : Int64} {l0 l1 l2 l3 l4 l5 l6 l7 l8 : Option Value} {l : eg_Lo} : wps rm K Q c_Outl_measure_114 kc ks (l0 :: l1 :: l2 :: l3 :: l4 :: l5 :: l6 :: l7 :: l8 :: some (.long x) :: l) (st) h = wps rm K Q c_Outl_measure_116 kc ks (l0 :: l1 :: l2 :: l3 :: l4 :: l5 :: l6 :: l7 :: l8 :: some (.long x) :: l) (.long x :: st) h := rfl
theorem s_Outl_measure_116 {x : Int64} {l0 l1 l2 l3 l4 l5 l6 l7 l8 : Option Value} {l : eg_Lo} : wps rm K Q c_Outl_measure_116 kc ks (l0 :: l1 :: l2 :: l3 :: l4 :: l5 :: l6 :: l7 :: l8 :: some (.long x) :: l) (st) h = wps rm K Q c_Outl_measure_118 kc ks (l0 :: l1 :: l2 :: l3 :: l4 :: l5 :: l6 :: l7 :: l8 :: some (.long x) :: l) (.long x :: st) h := rfl
theorem s_Outl_measure_118 {x y : Int64} : wps rm K Q c_Outl_measure_118 kc ks loc (.long y :: .long x :: st) h = wps rm K Q c_Outl_measure_119 kc ks loc (.long (x * y) :: st) h := rfl
theorem s_Outl_measure_119 {x : Int64} {l0 l1 l2 l3 l4 l5 l6 l7 l8 l9 l10 : Option Value} {l : eg_Lo} : wps rm K Q c_Outl_measure_119 kc ks (l0 :: l1 :: l2 :: l3 :: l4 :: l5 :: l6 :: l7 :: l8 :: l9 :: l10 :: some (.long x) :: l) (st) h = wps rm K Q c_Outl_measure_121 kc ks (l0 :: l1 :: l2 :: l3 :: l4 :: l5 :: l6 :: l7 :: l8 :: l9 :: l10 :: some (.long x) :: l) (.long x :: st) h := rfl
theorem s_Outl_measure_121 {x : Int64} {l0 l1 l2 l3 l4 l5 l6 l7 l8 l9 l10 : Option Value} {l : eg_Lo} : wps rm K Q c_Outl_measure_121 kc ks (l0 :: l1 :: l2 :: l3 :: l4 :: l5 :: l6 :: l7 :: l8 :: l9 :: l10 :: some (.long x) :: l) (st) h = wps rm K Q c_Outl_measure_123 kc ks (l0 :: l1 :: l2 :: l3 :: l4 :: l5 :: l6 :: l7 :: l8 :: l9 :: l10 :: some (.long x) :: l) (.long x :: st) h := rfl
theorem s_Outl_measure_123 {x y : Int64} : wps rm K Q c_Outl_measure_123 kc ks loc (.long y :: .long x :: st) h = wps rm K Q c_Outl_measure_124 kc ks loc (.long (x * y) :: st) h := rfl
theorem s_Outl_measure_124 {x y : Int64} : wps rm K Q c_Outl_measure_124 kc ks loc (.long y :: .long x :: st) h = wps rm K Q c_Outl_measure_125 kc ks loc (.long (x + y) :: st) h := rfl
theorem s_Outl_measure_125 {x : Nat} {v : Value} : wps rm K Q c_Outl_measure_125 kc ks loc (v :: .ref (x + 1) :: st) h = eg_pf h x 7 4 v (fun h9 => wps rm K Q c_Outl_measure_128 kc ks loc (st) h9) := rfl
theorem s_Outl_measure_128  : wps rm K Q c_Outl_measure_128 kc ks loc (st) h = K 197 kc ks loc st h := rfl
theorem s_Outl_measure_131 {x : Int64} {l0 l1 l2 l3 l4 l5 l6 l7 l8 l9 l10 l11 l12 l13 l14 : Option Value} {l : eg_Lo} : wps rm K Q c_Outl_measure_131 kc ks (l0 :: l1 :: l2 :: l3 :: l4 :: l5 :: l6 :: l7 :: l8 :: l9 :: l10 :: l11 :: l12 :: l13 :: l14 :: some (.long x) :: l) (st) h = wps rm K Q c_Outl_measure_133 kc ks (l0 :: l1 :: l2 :: l3 :: l4 :: l5 :: l6 :: l7 :: l8 :: l9 :: l10 :: l11 :: l12 :: l13 :: l14 :: some (.long x) :: l) (.long x :: st) h := rfl
theorem s_Outl_measure_133 {x : Int64} {l0 l1 l2 l3 l4 l5 l6 l7 l8 l9 l10 l11 l12 : Option Value} {l : eg_Lo} : wps rm K Q c_Outl_measure_133 kc ks (l0 :: l1 :: l2 :: l3 :: l4 :: l5 :: l6 :: l7 :: l8 :: l9 :: l10 :: l11 :: l12 :: some (.long x) :: l) (st) h = wps rm K Q c_Outl_measure_135 kc ks (l0 :: l1 :: l2 :: l3 :: l4 :: l5 :: l6 :: l7 :: l8 :: l9 :: l10 :: l11 :: l12 :: some (.long x) :: l) (.long x :: st) h := rfl
theorem s_Outl_measure_135 {x y : Int64} : wps rm K Q c_Outl_measure_135 kc ks loc (.long y :: .long x :: st) h = wps rm K Q c_Outl_measure_136 kc ks loc (.int (lg_cmp x y) :: st) h := rfl
theorem s_Outl_measure_136 {x : Int32} : wps rm K Q c_Outl_measure_136 kc ks loc (.int x :: st) h = ((x < 0 → K 169 kc ks loc st h) ∧ (¬ x < 0 → wps rm K Q c_Outl_measure_139 kc ks loc (st) h)) := rfl
theorem s_Outl_measure_139 {x : Nat} {l : eg_Lo} : wps rm K Q c_Outl_measure_139 kc ks (some (.ref x) :: l) (st) h = wps rm K Q c_Outl_measure_140 kc ks (some (.ref x) :: l) (.ref x :: st) h := rfl
theorem s_Outl_measure_140 {x : Int64} {l0 l1 l2 l3 l4 l5 l6 l7 l8 : Option Value} {l : eg_Lo} : wps rm K Q c_Outl_measure_140 kc ks (l0 :: l1 :: l2 :: l3 :: l4 :: l5 :: l6 :: l7 :: l8 :: some (.long x) :: l) (st) h = wps rm K Q c_Outl_measure_142 kc ks (l0 :: l1 :: l2 :: l3 :: l4 :: l5 :: l6 :: l7 :: l8 :: some (.long x) :: l) (.long x :: st) h := rfl
theorem s_Outl_measure_142 {x : Int64} {l0 l1 l2 l3 l4 : Option Value} {l : eg_Lo} : wps rm K Q c_Outl_measure_142 kc ks (l0 :: l1 :: l2 :: l3 :: l4 :: some (.long x) :: l) (st) h = wps rm K Q c_Outl_measure_144 kc ks (l0 :: l1 :: l2 :: l3 :: l4 :: some (.long x) :: l) (.long x :: st) h := rfl
theorem s_Outl_measure_144 {x y : Int64} : wps rm K Q c_Outl_measure_144 kc ks loc (.long y :: .long x :: st) h = wps rm K Q c_Outl_measure_145 kc ks loc (.long (x - y) :: st) h := rfl
theorem s_Outl_measure_145 {x : Int64} {l0 l1 l2 l3 l4 l5 l6 l7 l8 : Option Value} {l : eg_Lo} : wps rm K Q c_Outl_measure_145 kc ks (l0 :: l1 :: l2 :: l3 :: l4 :: l5 :: l6 :: l7 :: l8 :: some (.long x) :: l) (st) h = wps rm K Q c_Outl_measure_147 kc ks (l0 :: l1 :: l2 :: l3 :: l4 :: l5 :: l6 :: l7 :: l8 :: some (.long x) :: l) (.long x :: st) h := rfl
theorem s_Outl_measure_147 {x : Int64} {l0 l1 l2 l3 l4 : Option Value} {l : eg_Lo} : wps rm K Q c_Outl_measure_147 kc ks (l0 :: l1 :: l2 :: l3 :: l4 :: some (.long x) :: l) (st) h = wps rm K Q c_Outl_measure_149 kc ks (l0 :: l1 :: l2 :: l3 :: l4 :: some (.long x) :: l) (.long x :: st) h := rfl
theorem s_Outl_measure_149 {x y : Int64} : wps rm K Q c_Outl_measure_149 kc ks loc (.long y :: .long x :: st) h = wps rm K Q c_Outl_measure_150 kc ks loc (.long (x - y) :: st) h := rfl
theorem s_Outl_measure_150 {x y : Int64} : wps rm K Q c_Outl_measure_150 kc ks loc (.long y :: .long x :: st) h = wps rm K Q c_Outl_measure_151 kc ks loc (.long (x * y) :: st) h := rfl
theorem s_Outl_measure_151 {x : Int64} {l0 l1 l2 l3 l4 l5 l6 l7 l8 l9 l10 : Option Value} {l : eg_Lo} : wps rm K Q c_Outl_measure_151 kc ks (l0 :: l1 :: l2 :: l3 :: l4 :: l5 :: l6 :: l7 :: l8 :: l9 :: l10 :: some (.long x) :: l) (st) h = wps rm K Q c_Outl_measure_153 kc ks (l0 :: l1 :: l2 :: l3 :: l4 :: l5 :: l6 :: l7 :: l8 :: l9 :: l10 :: some (.long x) :: l) (.long x :: st) h := rfl
theorem s_Outl_measure_153 {x : Int64} {l0 l1 l2 l3 l4 l5 l6 : Option Value} {l : eg_Lo} : wps rm K Q c_Outl_measure_153 kc ks (l0 :: l1 :: l2 :: l3 :: l4 :: l5 :: l6 :: some (.long x) :: l) (st) h = wps rm K Q c_Outl_measure_155 kc ks (l0 :: l1 :: l2 :: l3 :: l4 :: l5 :: l6 :: some (.long x) :: l) (.long x :: st) h := rfl
theorem s_Outl_measure_155 {x y : Int64} : wps rm K Q c_Outl_measure_155 kc ks loc (.long y :: .long x :: st) h = wps rm K Q c_Outl_measure_156 kc ks loc (.long (x - y) :: st) h := rfl
theorem s_Outl_measure_156 {x : Int64} {l0 l1 l2 l3 l4 l5 l6 l7 l8 l9 l10 : Option Value} {l : eg_Lo} : wps rm K Q c_Outl_measure_156 kc ks (l0 :: l1 :: l2 :: l3 :: l4 :: l5 :: l6 :: l7 :: l8 :: l9 :: l10 :: some (.long x) :: l) (st) h = wps rm K Q c_Outl_measure_158 kc ks (l0 :: l1 :: l2 :: l3 :: l4 :: l5 :: l6 :: l7 :: l8 :: l9 :: l10 :: some (.long x) :: l) (.long x :: st) h := rfl
theorem s_Outl_measure_158 {x : Int64} {l0 l1 l2 l3 l4 l5 l6 : Option Value} {l : eg_Lo} : wps rm K Q c_Outl_measure_158 kc ks (l0 :: l1 :: l2 :: l3 :: l4 :: l5 :: l6 :: some (.long x) :: l) (st) h = wps rm K Q c_Outl_measure_160 kc ks (l0 :: l1 :: l2 :: l3 :: l4 :: l5 :: l6 :: some (.long x) :: l) (.long x :: st) h := rfl
theorem s_Outl_measure_160 {x y : Int64} : wps rm K Q c_Outl_measure_160 kc ks loc (.long y :: .long x :: st) h = wps rm K Q c_Outl_measure_161 kc ks loc (.long (x - y) :: st) h := rfl
theorem s_Outl_measure_161 {x y : Int64} : wps rm K Q c_Outl_measure_161 kc ks loc (.long y :: .long x :: st) h = wps rm K Q c_Outl_measure_162 kc ks loc (.long (x * y) :: st) h := rfl
theorem s_Outl_measure_162 {x y : Int64} : wps rm K Q c_Outl_measure_162 kc ks loc (.long y :: .long x :: st) h = wps rm K Q c_Outl_measure_163 kc ks loc (.long (x + y) :: st) h := rfl
theorem s_Outl_measure_163 {x : Nat} {v : Value} : wps rm K Q c_Outl_measure_163 kc ks loc (v :: .ref (x + 1) :: st) h = eg_pf h x 7 4 v (fun h9 => wps rm K Q c_Outl_measure_166 kc ks loc (st) h9) := rfl
theorem s_Outl_measure_166  : wps rm K Q c_Outl_measure_166 kc ks loc (st) h = K 197 kc ks loc st h := rfl
theorem s_Outl_measure_169 {x : Int64} {l0 l1 l2 l3 l4 : Option Value} {l : eg_Lo} : wps rm K Q c_Outl_measure_169 kc ks (l0 :: l1 :: l2 :: l3 :: l4 :: some (.long x) :: l) (st) h = wps rm K Q c_Outl_measure_171 kc ks (l0 :: l1 :: l2 :: l3 :: l4 :: some (.long x) :: l) (.long x :: st) h := rfl
theorem s_Outl_measure_171 {x : Int64} {l0 l1 l2 l3 l4 l5 l6 l7 l8 l9 l10 : Option Value} {l : eg_Lo} : wps rm K Q c_Outl_measure_171 kc ks (l0 :: l1 :: l2 :: l3 :: l4 :: l5 :: l6 :: l7 :: l8 :: l9 :: l10 :: some (.long x) :: l) (st) h = wps rm K Q c_Outl_measure_173 kc ks (l0 :: l1 :: l2 :: l3 :: l4 :: l5 :: l6 :: l7 :: l8 :: l9 :: l10 :: some (.long x) :: l) (.long x :: st) h := rfl
theorem s_Outl_measure_173 {x y : Int64} : wps rm K Q c_Outl_measure_173 kc ks loc (.long y :: .long x :: st) h = wps rm K Q c_Outl_measure_174 kc ks loc (.long (x * y) :: st) h := rfl
theorem s_Outl_measure_174 {x : Int64} {l0 l1 l2 l3 l4 l5 l6 : Option Value} {l : eg_Lo} : wps rm K Q c_Outl_measure_174 kc ks (l0 :: l1 :: l2 :: l3 :: l4 :: l5 :: l6 :: some (.long x) :: l) (st) h = wps rm K Q c_Outl_measure_176 kc ks (l0 :: l1 :: l2 :: l3 :: l4 :: l5 :: l6 :: some (.long x) :: l) (.long x :: st) h := rfl
theorem s_Outl_measure_176 {x : Int64} {l0 l1 l2 l3 l4 l5 l6 l7 l8 : Option Value} {l : eg_Lo} : wps rm K Q c_Outl_measure_176 kc ks (l0 :: l1 :: l2 :: l3 :: l4 :: l5 :: l6 :: l7 :: l8 :: some (.long x) :: l) (st) h = wps rm K Q c_Outl_measure_178 kc ks (l0 :: l1 :: l2 :: l3 :: l4 :: l5 :: l6 :: l7 :: l8 :: some (.long x) :: l) (.long x :: st) h := rfl
theorem s_Outl_measure_178 {x y : Int64} : wps rm K Q c_Outl_measure_178 kc ks loc (.long y :: .long x :: st) h = wps rm K Q c_Outl_measure_179 kc ks loc (.long (x * y) :: st) h := rfl
theorem s_Outl_measure_179 {x y : Int64} : wps rm K Q c_Outl_measure_179 kc ks loc (.long y :: .long x :: st) h = wps rm K Q c_Outl_measure_180 kc ks loc (.long (x - y) :: st) h := rfl
theorem s_Outl_measure_180 {x : Int64} : wps rm K Q c_Outl_measure_180 kc ks loc (.long x :: st) h = wps rm K Q c_Outl_measure_182 kc ks (eg_set2 loc 17 (.long x)) (st) h := rfl
theorem s_Outl_measure_182 {x : Nat} {l : eg_Lo} : wps rm K Q c_Outl_measure_182 kc ks (some (.ref x) :: l) (st) h = wps rm K Q c_Outl_measure_183 kc ks (some (.ref x) :: l) (.ref x :: st) h := rfl
theorem s_Outl_measure_183 {x : Int64} {l0 l1 l2 l3 l4 l5 l6 l7 l8 l9 l10 l11 l12 l13 l14 l15 l16 : Option Value} {l : eg_Lo} : wps rm K Q c_Outl_measure_183 kc ks (l0 :: l1 :: l2 :: l3 :: l4 :: l5 :: l6 :: l7 :: l8 :: l9 :: l10 :: l11 :: l12 :: l13 :: l14 :: l15 :: l16 :: some (.long x) :: l) (st) h = wps rm K Q c_Outl_measure_185 kc ks (l0 :: l1 :: l2 :: l3 :: l4 :: l5 :: l6 :: l7 :: l8 :: l9 :: l10 :: l11 :: l12 :: l13 :: l14 :: l15 :: l16 :: some (.long x) :: l) (.long x :: st) h := rfl
theorem s_Outl_measure_185 {x : Int64} {l0 l1 l2 l3 l4 l5 l6 l7 l8 l9 l10 l11 l12 l13 l14 l15 l16 : Option Value} {l : eg_Lo} : wps rm K Q c_Outl_measure_185 kc ks (l0 :: l1 :: l2 :: l3 :: l4 :: l5 :: l6 :: l7 :: l8 :: l9 :: l10 :: l11 :: l12 :: l13 :: l14 :: l15 :: l16 :: some (.long x) :: l) (st) h = wps rm K Q c_Outl_measure_187 kc ks (l0 :: l1 :: l2 :: l3 :: l4 :: l5 :: l6 :: l7 :: l8 :: l9 :: l10 :: l11 :: l12 :: l13 :: l14 :: l15 :: l16 :: some (.long x) :: l) (.long x :: st) h := rfl
theorem s_Outl_measure_187 {x y : Int64} : wps rm K Q c_Outl_measure_187 kc ks loc (.long y :: .long x :: st) h = wps rm K Q c_Outl_measure_188 kc ks loc (.long (x * y) :: st) h := rfl
theorem s_Outl_measure_188 {x : Nat} {v : Value} : wps rm K Q c_Outl_measure_188 kc ks loc (v :: .ref (x + 1) :: st) h = eg_pf h x 7 4 v (fun h9 => wps rm K Q c_Outl_measure_191 kc ks loc (st) h9) := rfl
theorem s_Outl_measure_191 {x : Nat} {l : eg_Lo} : wps rm K Q c_Outl_measure_191 kc ks (some (.ref x) :: l) (st) h = wps rm K Q c_Outl_measure_192 kc ks (some (.ref x) :: l) (.ref x :: st) h := rfl
theorem s_Outl_measure_192 {x : Int64} {l0 l1 l2 l3 l4 l5 l6 l7 l8 l9 l10 l11 l12 : Option Value} {l : eg_Lo} : wps rm K Q c_Outl_measure_192 kc ks (l0 :: l1 :: l2 :: l3 :: l4 :: l5 :: l6 :: l7 :: l8 :: l9 :: l10 :: l11 :: l12 :: some (.long x) :: l) (st) h = wps rm K Q c_Outl_measure_194 kc ks (l0 :: l1 :: l2 :: l3 :: l4 :: l5 :: l6 :: l7 :: l8 :: l9 :: l10 :: l11 :: l12 :: some (.long x) :: l) (.long x :: st) h := rfl
theorem s_Outl_measure_194 {x : Nat} {v : Value} : wps rm K Q c_Outl_measure_194 kc ks loc (v :: .ref (x + 1) :: st) h = eg_pf h x 7 5 v (fun h9 => wps rm K Q c_Outl_measure_197 kc ks loc (st) h9) := rfl
theorem s_Outl_measure_197  : wps rm K Q c_Outl_measure_197 kc ks loc ([]) h = (kc = rm.cells ∧ Q none h) := rfl
def T_Outl_measure : List (Nat × List eg_I) := [(16, c_Outl_measure_16), (17, c_Outl_measure_17), (131, c_Outl_measure_131), (169, c_Outl_measure_169), (197, c_Outl_measure_197)]
theorem j_Outl_measure_16 {R : Nat → Nat → Nat → eg_Lo → List Value → List eg_E → Prop} {f pc0 : Nat} : eg_run rm R Q T_Outl_measure (f + 1) 16 kc ks loc st h = wps rm (eg_run rm R Q T_Outl_measure f) Q c_Outl_measure_16 kc ks loc st h := rfl
theorem j_Outl_measure_17 {R : Nat → Nat → Nat → eg_Lo → List Value → List eg_E → Prop} {f pc0 : Nat} : eg_run rm R Q T_Outl_measure (f + 1) 17 kc ks loc st h = wps rm (eg_run rm R Q T_Outl_measure f) Q c_Outl_measure_17 kc ks loc st h := rfl
theorem j_Outl_measure_131 {R : Nat → Nat → Nat → eg_Lo → List Value → List eg_E → Prop} {f pc0 : Nat} : eg_run rm R Q T_Outl_measure (f + 1) 131 kc ks loc st h = wps rm (eg_run rm R Q T_Outl_measure f) Q c_Outl_measure_131 kc ks loc st h := rfl
theorem j_Outl_measure_169 {R : Nat → Nat → Nat → eg_Lo → List Value → List eg_E → Prop} {f pc0 : Nat} : eg_run rm R Q T_Outl_measure (f + 1) 169 kc ks loc st h = wps rm (eg_run rm R Q T_Outl_measure f) Q c_Outl_measure_169 kc ks loc st h := rfl
theorem j_Outl_measure_197 {R : Nat → Nat → Nat → eg_Lo → List Value → List eg_E → Prop} {f pc0 : Nat} : eg_run rm R Q T_Outl_measure (f + 1) 197 kc ks loc st h = wps rm (eg_run rm R Q T_Outl_measure f) Q c_Outl_measure_197 kc ks loc st h := rfl
end
theorem q_Outl_measure : (T_Outl_measure.all fun q => eg_seq m_Outl_measure q.1 q.2) = true := by decide +kernel
theorem b_Outl_measure {as : List Value} {h : List eg_E} {Q : Option Value → List eg_E → Prop} (hf : (eg_fl as).length ≤ 19) (hw : wps (eg_rm m_Outl_measure) (eg_run (eg_rm m_Outl_measure) (eg_R m_Outl_measure Q (h.length + 0)) Q T_Outl_measure 7) Q c_Outl_measure_0 0 0 (eg_entry 19 as) [] h) : eg_Runs n_Outl_measure as h Q := eg_begin (d := m_Outl_measure) rfl (by decide) (by decide +kernel) q_Outl_measure hf hw
/-! ===== Part_init ===== -/
def c_Part_init_36 : List eg_I := .inl (36, 1, .return_, 0, 0) :: []
def c_Part_init_33 : List eg_I := .inl (33, 3, .putfield 21, 8, 3) :: c_Part_init_36
def c_Part_init_31 : List eg_I := .inl (31, 2, .newarray .boolean, 2, 0) :: c_Part_init_33
def c_Part_init_29 : List eg_I := .inl (29, 2, .iconst (16), 0, 0) :: c_Part_init_31
def c_Part_init_28 : List eg_I := .inl (28, 1, .aload 0, 0, 0) :: c_Part_init_29
def c_Part_init_25 : List eg_I := .inl (25, 3, .putfield 18, 8, 2) :: c_Part_init_28
def c_Part_init_23 : List eg_I := .inl (23, 2, .newarray .int, 0, 0) :: c_Part_init_25
def c_Part_init_21 : List eg_I := .inl (21, 2, .iconst (16), 0, 0) :: c_Part_init_23
def c_Part_init_20 : List eg_I := .inl (20, 1, .aload 0, 0, 0) :: c_Part_init_21
def c_Part_init_17 : List eg_I := .inl (17, 3, .putfield 15, 8, 1) :: c_Part_init_20
def c_Part_init_15 : List eg_I := .inl (15, 2, .newarray .int, 0, 0) :: c_Part_init_17
def c_Part_init_13 : List eg_I := .inl (13, 2, .iconst (16), 0, 0) :: c_Part_init_15
def c_Part_init_12 : List eg_I := .inl (12, 1, .aload 0, 0, 0) :: c_Part_init_13
def c_Part_init_9 : List eg_I := .inl (9, 3, .putfield 9, 8, 0) :: c_Part_init_12
def c_Part_init_7 : List eg_I := .inl (7, 2, .newarray .int, 0, 0) :: c_Part_init_9
def c_Part_init_5 : List eg_I := .inl (5, 2, .iconst (16), 0, 0) :: c_Part_init_7
def c_Part_init_4 : List eg_I := .inl (4, 1, .aload 0, 0, 0) :: c_Part_init_5
def c_Part_init_1 : List eg_I := .inl (1, 3, .athrow, 3, 0) :: c_Part_init_4
def c_Part_init_0 : List eg_I := .inl (0, 1, .aload 0, 0, 0) :: c_Part_init_1
section
variable {rm : Room} {K : Nat → Nat → Nat → eg_Lo → List Value → List eg_E → Prop} {Q : Option Value → List eg_E → Prop} {kc ks : Nat} {loc : eg_Lo} {st : List Value} {h : List eg_E}
theorem s_Part_init_0 {x : Nat} {l : eg_Lo} : wps rm K Q c_Part_init_0 kc ks (some (.ref x) :: l) (st) h = wps rm K Q c_Part_init_1 kc ks (some (.ref x) :: l) (.ref x :: st) h := rfl
theorem s_Part_init_1 {x : Nat} : wps rm K Q c_Part_init_1 kc ks loc (.ref (x + 1) :: st) h = (st.length ≤ 4 ∧ wps rm K Q c_Part_init_4 kc ks loc (st) h) := rfl
theorem s_Part_init_4 {x : Nat} {l : eg_Lo} : wps rm K Q c_Part_init_4 kc ks (some (.ref x) :: l) (st) h = wps rm K Q c_Part_init_5 kc ks (some (.ref x) :: l) (.ref x :: st) h := rfl
theorem s_Part_init_5  : wps rm K Q c_Part_init_5 kc ks loc (st) h = wps rm K Q c_Part_init_7 kc ks loc (.int (16) :: st) h := rfl
theorem s_Part_init_7 {x : Int32} : wps rm K Q c_Part_init_7 kc ks loc (.int x :: st) h = (¬ x < 0 ∧ x.toNatClampNeg ≤ 1000 ∧ kc + 1 ≤ rm.cells ∧ ks + x.toNatClampNeg ≤ rm.slots ∧ wps rm K Q c_Part_init_9 (kc + 1) (ks + x.toNatClampNeg) loc (.ref (h.length + 1) :: st) (h ++ [.inl (0, eg_zero 0 x.toNatClampNeg)])) := rfl
theorem s_Part_init_9 {x : Nat} {v : Value} : wps rm K Q c_Part_init_9 kc ks loc (v :: .ref (x + 1) :: st) h = eg_pf h x 8 0 v (fun h9 => wps rm K Q c_Part_init_12 kc ks loc (st) h9) := rfl
theorem s_Part_init_12 {x : Nat} {l : eg_Lo} : wps rm K Q c_Part_init_12 kc ks (some (.ref x) :: l) (st) h = wps rm K Q c_Part_init_13 kc ks (some (.ref x) :: l) (.ref x :: st) h := rfl
theorem s_Part_init_13  : wps rm K Q c_Part_init_13 kc ks loc (st) h = wps rm K Q c_Part_init_15 kc ks loc (.int (16) :: st) h := rfl
theorem s_Part_init_15 {x : Int32} : wps rm K Q c_Part_init_15 kc ks loc (.int x :: st) h = (¬ x < 0 ∧ x.toNatClampNeg ≤ 1000 ∧ kc + 1 ≤ rm.cells ∧ ks + x.toNatClampNeg ≤ rm.slots ∧ wps rm K Q c_Part_init_17 (kc + 1) (ks + x.toNatClampNeg) loc (.ref (h.length + 1) :: st) (h ++ [.inl (0, eg_zero 0 x.toNatClampNeg)])) := rfl
theorem s_Part_init_17 {x : Nat} {v : Value} : wps rm K Q c_Part_init_17 kc ks loc (v :: .ref (x + 1) :: st) h = eg_pf h x 8 1 v (fun h9 => wps rm K Q c_Part_init_20 kc ks loc (st) h9) := rfl
theorem s_Part_init_20 {x : Nat} {l : eg_Lo} : wps rm K Q c_Part_init_20 kc ks (some (.ref x) :: l) (st) h = wps rm K Q c_Part_init_21 kc ks (some (.ref x) :: l) (.ref x :: st) h := rfl
theorem s_Part_init_21  : wps rm K Q c_Part_init_21 kc ks loc (st) h = wps rm K Q c_Part_init_23 kc ks loc (.int (16) :: st) h := rfl
theorem s_Part_init_23 {x : Int32} : wps rm K Q c_Part_init_23 kc ks loc (.int x :: st) h = (¬ x < 0 ∧ x.toNatClampNeg ≤ 1000 ∧ kc + 1 ≤ rm.cells ∧ ks + x.toNatClampNeg ≤ rm.slots ∧ wps rm K Q c_Part_init_25 (kc + 1) (ks + x.toNatClampNeg) loc (.ref (h.length + 1) :: st) (h ++ [.inl (0, eg_zero 0 x.toNatClampNeg)])) := rfl
theorem s_Part_init_25 {x : Nat} {v : Value} : wps rm K Q c_Part_init_25 kc ks loc (v :: .ref (x + 1) :: st) h = eg_pf h x 8 2 v (fun h9 => wps rm K Q c_Part_init_28 kc ks loc (st) h9) := rfl
theorem s_Part_init_28 {x : Nat} {l : eg_Lo} : wps rm K Q c_Part_init_28 kc ks (some (.ref x) :: l) (st) h = wps rm K Q c_Part_init_29 kc ks (some (.ref x) :: l) (.ref x :: st) h := rfl
theorem s_Part_init_29  : wps rm K Q c_Part_init_29 kc ks loc (st) h = wps rm K Q c_Part_init_31 kc ks loc (.int (16) :: st) h := rfl
theorem s_Part_init_31 {x : Int32} : wps rm K Q c_Part_init_31 kc ks loc (.int x :: st) h = (¬ x < 0 ∧ x.toNatClampNeg ≤ 1000 ∧ kc + 1 ≤ rm.cells ∧ ks + x.toNatClampNeg ≤ rm.slots ∧ wps rm K Q c_Part_init_33 (kc + 1) (ks + x.toNatClampNeg) loc (.ref (h.length + 1) :: st) (h ++ [.inl (2, eg_zero 2 x.toNatClampNeg)])) := rfl
theorem s_Part_init_33 {x : Nat} {v : Value} : wps rm K Q c_Part_init_33 kc ks loc (v :: .ref (x + 1) :: st) h = eg_pf h x 8 3 v (fun h9 => wps rm K Q c_Part_init_36 kc ks loc (st) h9) := rfl
theorem s_Part_init_36  : wps rm K Q c_Part_init_36 kc ks loc ([]) h = (kc = rm.cells ∧ Q none h) := rfl
def T_Part_init : List (Nat × List eg_I) := []
end
theorem q_Part_init : (T_Part_init.all fun q => eg_seq m_Part_init q.1 q.2) = true := by decide +kernel
theorem b_Part_init {as : List Value} {h : List eg_E} {Q : Option Value → List eg_E → Prop} (hf : (eg_fl as).length ≤ 1) (hw : wps (eg_rm m_Part_init) (eg_run (eg_rm m_Part_init) (eg_R m_Part_init Q (h.length + 4)) Q T_Part_init 2) Q c_Part_init_0 0 0 (eg_entry 1 as) [] h) : eg_Runs n_Part_init as h Q := eg_begin (d := m_Part_init) rfl (by decide) (by decide +kernel) q_Part_init hf hw
/-! ===== Part_room ===== -/
def c_Part_room_7 : List eg_I := .inl (7, 1, .ireturn, 0, 0) :: []
def c_Part_room_6 : List eg_I := .inl (6, 1, .isub, 0, 0) :: c_Part_room_7
def c_Part_room_3 : List eg_I := .inl (3, 3, .getfield 25, 8, 4) :: c_Part_room_6
def c_Part_room_2 : List eg_I := .inl (2, 1, .aload 0, 0, 0) :: c_Part_room_3
def c_Part_room_0 : List eg_I := .inl (0, 2, .iconst (16), 0, 0) :: c_Part_room_2
section
variable {rm : Room} {K : Nat → Nat → Nat → eg_Lo → List Value → List eg_E → Prop} {Q : Option Value → List eg_E → Prop} {kc ks : Nat} {loc : eg_Lo} {st : List Value} {h : List eg_E}
theorem s_Part_room_0  : wps rm K Q c_Part_room_0 kc ks loc (st) h = wps rm K Q c_Part_room_2 kc ks loc (.int (16) :: st) h := rfl
theorem s_Part_room_2 {x : Nat} {l : eg_Lo} : wps rm K Q c_Part_room_2 kc ks (some (.ref x) :: l) (st) h = wps rm K Q c_Part_room_3 kc ks (some (.ref x) :: l) (.ref x :: st) h := rfl
theorem s_Part_room_3 {x : Nat} : wps rm K Q c_Part_room_3 kc ks loc (.ref (x + 1) :: st) h = eg_gf h x 8 4 (fun v => wps rm K Q c_Part_room_6 kc ks loc (v :: st) h) := rfl
theorem s_Part_room_6 {x y : Int32} : wps rm K Q c_Part_room_6 kc ks loc (.int y :: .int x :: st) h = wps rm K Q c_Part_room_7 kc ks loc (.int (x - y) :: st) h := rfl
theorem s_Part_room_7 {x : Int32} : wps rm K Q c_Part_room_7 kc ks loc ([.int x]) h = (kc = rm.cells ∧ (0 = 1 → x = 0 ∨ x = 1) ∧ Q (some (.int x)) h) := rfl
def T_Part_room : List (Nat × List eg_I) := []
end
theorem q_Part_room : (T_Part_room.all fun q => eg_seq m_Part_room q.1 q.2) = true := by decide +kernel
theorem b_Part_room {as : List Value} {h : List eg_E} {Q : Option Value → List eg_E → Prop} (hf : (eg_fl as).length ≤ 1) (hw : wps (eg_rm m_Part_room) (eg_run (eg_rm m_Part_room) (eg_R m_Part_room Q (h.length + 0)) Q T_Part_room 2) Q c_Part_room_0 0 0 (eg_entry 1 as) [] h) : eg_Runs n_Part_room as h Q := eg_begin (d := m_Part_room) rfl (by decide) (by decide +kernel) q_Part_room hf hw
/-! ===== Part_add ===== -/
def c_Part_add_63 : List eg_I := .inl (63, 1, .ireturn, 0, 0) :: []
def c_Part_add_60 : List eg_I := .inl (60, 3, .getfield 25, 8, 4) :: c_Part_add_63
def c_Part_add_59 : List eg_I := .inl (59, 1, .aload 0, 0, 0) :: c_Part_add_60
def c_Part_add_56 : List eg_I := .inl (56, 3, .putfield 25, 8, 4) :: c_Part_add_59
def c_Part_add_55 : List eg_I := .inl (55, 1, .iadd, 0, 0) :: c_Part_add_56
def c_Part_add_54 : List eg_I := .inl (54, 1, .iconst (1), 0, 0) :: c_Part_add_55
def c_Part_add_51 : List eg_I := .inl (51, 3, .getfield 25, 8, 4) :: c_Part_add_54
def c_Part_add_50 : List eg_I := .inl (50, 1, .dup, 0, 0) :: c_Part_add_51
def c_Part_add_49 : List eg_I := .inl (49, 1, .aload 0, 0, 0) :: c_Part_add_50
def c_Part_add_48 : List eg_I := .inl (48, 1, .bastore, 0, 0) :: c_Part_add_49
def c_Part_add_47 : List eg_I := .inl (47, 1, .iconst (0), 0, 0) :: c_Part_add_48
def c_Part_add_44 : List eg_I := .inl (44, 3, .getfield 25, 8, 4) :: c_Part_add_47
def c_Part_add_43 : List eg_I := .inl (43, 1, .aload 0, 0, 0) :: c_Part_add_44
def c_Part_add_40 : List eg_I := .inl (40, 3, .getfield 21, 8, 3) :: c_Part_add_43
def c_Part_add_39 : List eg_I := .inl (39, 1, .aload 0, 0, 0) :: c_Part_add_40
def c_Part_add_38 : List eg_I := .inl (38, 1, .iastore, 0, 0) :: c_Part_add_39
def c_Part_add_37 : List eg_I := .inl (37, 1, .iload 3, 0, 0) :: c_Part_add_38
def c_Part_add_34 : List eg_I := .inl (34, 3, .getfield 25, 8, 4) :: c_Part_add_37
def c_Part_add_33 : List eg_I := .inl (33, 1, .aload 0, 0, 0) :: c_Part_add_34
def c_Part_add_30 : List eg_I := .inl (30, 3, .getfield 18, 8, 2) :: c_Part_add_33
def c_Part_add_29 : List eg_I := .inl (29, 1, .aload 0, 0, 0) :: c_Part_add_30
def c_Part_add_28 : List eg_I := .inl (28, 1, .iastore, 0, 0) :: c_Part_add_29
def c_Part_add_27 : List eg_I := .inl (27, 1, .iload 2, 0, 0) :: c_Part_add_28
def c_Part_add_24 : List eg_I := .inl (24, 3, .getfield 25, 8, 4) :: c_Part_add_27
def c_Part_add_23 : List eg_I := .inl (23, 1, .aload 0, 0, 0) :: c_Part_add_24
def c_Part_add_20 : List eg_I := .inl (20, 3, .getfield 15, 8, 1) :: c_Part_add_23
def c_Part_add_19 : List eg_I := .inl (19, 1, .aload 0, 0, 0) :: c_Part_add_20
def c_Part_add_18 : List eg_I := .inl (18, 1, .iastore, 0, 0) :: c_Part_add_19
def c_Part_add_17 : List eg_I := .inl (17, 1, .iload 1, 0, 0) :: c_Part_add_18
def c_Part_add_14 : List eg_I := .inl (14, 3, .getfield 25, 8, 4) :: c_Part_add_17
def c_Part_add_13 : List eg_I := .inl (13, 1, .aload 0, 0, 0) :: c_Part_add_14
def c_Part_add_10 : List eg_I := .inl (10, 3, .getfield 9, 8, 0) :: c_Part_add_13
def c_Part_add_9 : List eg_I := .inl (9, 1, .aload 0, 0, 0) :: c_Part_add_10
def c_Part_add_6 : List eg_I := .inl (6, 3, .if_icmp .ge (53), 59, 0) :: c_Part_add_9
def c_Part_add_4 : List eg_I := .inl (4, 2, .iconst (16), 0, 0) :: c_Part_add_6
def c_Part_add_1 : List eg_I := .inl (1, 3, .getfield 25, 8, 4) :: c_Part_add_4
def c_Part_add_0 : List eg_I := .inl (0, 1, .aload 0, 0, 0) :: c_Part_add_1
section
variable {rm : Room} {K : Nat → Nat → Nat → eg_Lo → List Value → List eg_E → Prop} {Q : Option Value → List eg_E → Prop} {kc ks : Nat} {loc : eg_Lo} {st : List Value} {h : List eg_E}
theorem s_Part_add_0 {x : Nat} {l : eg_Lo} : wps rm K Q c_Part_add_0 kc ks (some (.ref x) :: l) (st) h = wps rm K Q c_Part_add_1 kc ks (some (.ref x) :: l) (.ref x :: st) h := rfl
theorem s_Part_add_1 {x : Nat} : wps rm K Q c_Part_add_1 kc ks loc (.ref (x + 1) :: st) h = eg_gf h x 8 4 (fun v => wps rm K Q c_Part_add_4 kc ks loc (v :: st) h) := rfl
theorem s_Part_add_4  : wps rm K Q c_Part_add_4 kc ks loc (st) h = wps rm K Q c_Part_add_6 kc ks loc (.int (16) :: st) h := rfl
theorem s_Part_add_6 {x y : Int32} : wps rm K Q c_Part_add_6 kc ks loc (.int y :: .int x :: st) h = ((y ≤ x → K 59 kc ks loc st h) ∧ (¬ y ≤ x → wps rm K Q c_Part_add_9 kc ks loc (st) h)) := rfl
theorem s_Part_add_9 {x : Nat} {l : eg_Lo} : wps rm K Q c_Part_add_9 kc ks (some (.ref x) :: l) (st) h = wps rm K Q c_Part_add_10 kc ks (some (.ref x) :: l) (.ref x :: st) h := rfl
theorem s_Part_add_10 {x : Nat} : wps rm K Q c_Part_add_10 kc ks loc (.ref (x + 1) :: st) h = eg_gf h x 8 0 (fun v => wps rm K Q c_Part_add_13 kc ks loc (v :: st) h) := rfl
theorem s_Part_add_13 {x : Nat} {l : eg_Lo} : wps rm K Q c_Part_add_13 kc ks (some (.ref x) :: l) (st) h = wps rm K Q c_Part_add_14 kc ks (some (.ref x) :: l) (.ref x :: st) h := rfl
theorem s_Part_add_14 {x : Nat} : wps rm K Q c_Part_add_14 kc ks loc (.ref (x + 1) :: st) h = eg_gf h x 8 4 (fun v => wps rm K Q c_Part_add_17 kc ks loc (v :: st) h) := rfl
theorem s_Part_add_17 {x : Int32} {l0 : Option Value} {l : eg_Lo} : wps rm K Q c_Part_add_17 kc ks (l0 :: some (.int x) :: l) (st) h = wps rm K Q c_Part_add_18 kc ks (l0 :: some (.int x) :: l) (.int x :: st) h := rfl
theorem s_Part_add_18 {x : Nat} {i : Int32} {v : Int32} : wps rm K Q c_Part_add_18 kc ks loc (.int v :: .int i :: .ref (x + 1) :: st) h = eg_is h x i v (fun h9 => wps rm K Q c_Part_add_19 kc ks loc (st) h9) := rfl
theorem s_Part_add_19 {x : Nat} {l : eg_Lo} : wps rm K Q c_Part_add_19 kc ks (some (.ref x) :: l) (st) h = wps rm K Q c_Part_add_20 kc ks (some (.ref x) :: l) (.ref x :: st) h := rfl
theorem s_Part_add_20 {x : Nat} : wps rm K Q c_Part_add_20 kc ks loc (.ref (x + 1) :: st) h = eg_gf h x 8 1 (fun v => wps rm K Q c_Part_add_23 kc ks loc (v :: st) h) := rfl
theorem s_Part_add_23 {x : Nat} {l : eg_Lo} : wps rm K Q c_Part_add_23 kc ks (some (.ref x) :: l) (st) h = wps rm K Q c_Part_add_24 kc ks (some (.ref x) :: l) (.ref x :: st) h := rfl
theorem s_Part_add_24 {x : Nat} : wps rm K Q c_Part_add_24 kc ks loc (.ref (x + 1) :: st) h = eg_gf h x 8 4 (fun v => wps rm K Q c_Part_add_27 kc ks loc (v :: st) h) := rfl
theorem s_Part_add_27 {x : Int32} {l0 l1 : Option Value} {l : eg_Lo} : wps rm K Q c_Part_add_27 kc ks (l0 :: l1 :: some (.int x) :: l) (st) h = wps rm K Q c_Part_add_28 kc ks (l0 :: l1 :: some (.int x) :: l) (.int x :: st) h := rfl
theorem s_Part_add_28 {x : Nat} {i : Int32} {v : Int32} : wps rm K Q c_Part_add_28 kc ks loc (.int v :: .int i :: .ref (x + 1) :: st) h = eg_is h x i v (fun h9 => wps rm K Q c_Part_add_29 kc ks loc (st) h9) := rfl
theorem s_Part_add_29 {x : Nat} {l : eg_Lo} : wps rm K Q c_Part_add_29 kc ks (some (.ref x) :: l) (st) h = wps rm K Q c_Part_add_30 kc ks (some (.ref x) :: l) (.ref x :: st) h := rfl
theorem s_Part_add_30 {x : Nat} : wps rm K Q c_Part_add_30 kc ks loc (.ref (x + 1) :: st) h = eg_gf h x 8 2 (fun v => wps rm K Q c_Part_add_33 kc ks loc (v :: st) h) := rfl
theorem s_Part_add_33 {x : Nat} {l : eg_Lo} : wps rm K Q c_Part_add_33 kc ks (some (.ref x) :: l) (st) h = wps rm K Q c_Part_add_34 kc ks (some (.ref x) :: l) (.ref x :: st) h := rfl
theorem s_Part_add_34 {x : Nat} : wps rm K Q c_Part_add_34 kc ks loc (.ref (x + 1) :: st) h = eg_gf h x 8 4 (fun v => wps rm K Q c_Part_add_37 kc ks loc (v :: st) h) := rfl
theorem s_Part_add_37 {x : Int32} {l0 l1 l2 : Option Value} {l : eg_Lo} : wps rm K Q c_Part_add_37 kc ks (l0 :: l1 :: l2 :: some (.int x) :: l) (st) h = wps rm K Q c_Part_add_38 kc ks (l0 :: l1 :: l2 :: some (.int x) :: l) (.int x :: st) h := rfl
theorem s_Part_add_38 {x : Nat} {i : Int32} {v : Int32} : wps rm K Q c_Part_add_38 kc ks loc (.int v :: .int i :: .ref (x + 1) :: st) h = eg_is h x i v (fun h9 => wps rm K Q c_Part_add_39 kc ks loc (st) h9) := rfl
theorem s_Part_add_39 {x : Nat} {l : eg_Lo} : wps rm K Q c_Part_add_39 kc ks (some (.ref x) :: l) (st) h = wps rm K Q c_Part_add_40 kc ks (some (.ref x) :: l) (.ref x :: st) h := rfl
theorem s_Part_add_40 {x : Nat} : wps rm K Q c_Part_add_40 kc ks loc (.ref (x + 1) :: st) h = eg_gf h x 8 3 (fun v => wps rm K Q c_Part_add_43 kc ks loc (v :: st) h) := rfl
theorem s_Part_add_43 {x : Nat} {l : eg_Lo} : wps rm K Q c_Part_add_43 kc ks (some (.ref x) :: l) (st) h = wps rm K Q c_Part_add_44 kc ks (some (.ref x) :: l) (.ref x :: st) h := rfl
theorem s_Part_add_44 {x : Nat} : wps rm K Q c_Part_add_44 kc ks loc (.ref (x + 1) :: st) h = eg_gf h x 8 4 (fun v => wps rm K Q c_Part_add_47 kc ks loc (v :: st) h) := rfl
theorem s_Part_add_47  : wps rm K Q c_Part_add_47 kc ks loc (st) h = wps rm K Q c_Part_add_48 kc ks loc (.int (0) :: st) h := rfl
theorem s_Part_add_48 {x : Nat} {i : Int32} {v : Int32} : wps rm K Q c_Part_add_48 kc ks loc (.int v :: .int i :: .ref (x + 1) :: st) h = eg_bs h x i v (fun h9 => wps rm K Q c_Part_add_49 kc ks loc (st) h9) := rfl
theorem s_Part_add_49 {x : Nat} {l : eg_Lo} : wps rm K Q c_Part_add_49 kc ks (some (.ref x) :: l) (st) h = wps rm K Q c_Part_add_50 kc ks (some (.ref x) :: l) (.ref x :: st) h := rfl
theorem s_Part_add_50 {x : Nat} : wps rm K Q c_Part_add_50 kc ks loc (.ref x :: st) h = wps rm K Q c_Part_add_51 kc ks loc (.ref x :: .ref x :: st) h := rfl
theorem s_Part_add_51 {x : Nat} : wps rm K Q c_Part_add_51 kc ks loc (.ref (x + 1) :: st) h = eg_gf h x 8 4 (fun v => wps rm K Q c_Part_add_54 kc ks loc (v :: st) h) := rfl
theorem s_Part_add_54  : wps rm K Q c_Part_add_54 kc ks loc (st) h = wps rm K Q c_Part_add_55 kc ks loc (.int (1) :: st) h := rfl
theorem s_Part_add_55 {x y : Int32} : wps rm K Q c_Part_add_55 kc ks loc (.int y :: .int x :: st) h = wps rm K Q c_Part_add_56 kc ks loc (.int (x + y) :: st) h := rfl
theorem s_Part_add_56 {x : Nat} {v : Value} : wps rm K Q c_Part_add_56 kc ks loc (v :: .ref (x + 1) :: st) h = eg_pf h x 8 4 v (fun h9 => wps rm K Q c_Part_add_59 kc ks loc (st) h9) := rfl
theorem s_Part_add_59 {x : Nat} {l : eg_Lo} : wps rm K Q c_Part_add_59 kc ks (some (.ref x) :: l) (st) h = wps rm K Q c_Part_add_60 kc ks (some (.ref x) :: l) (.ref x :: st) h := rfl
theorem s_Part_add_60 {x : Nat} : wps rm K Q c_Part_add_60 kc ks loc (.ref (x + 1) :: st) h = eg_gf h x 8 4 (fun v => wps rm K Q c_Part_add_63 kc ks loc (v :: st) h) := rfl
theorem s_Part_add_63 {x : Int32} : wps rm K Q c_Part_add_63 kc ks loc ([.int x]) h = (kc = rm.cells ∧ (0 = 1 → x = 0 ∨ x = 1) ∧ Q (some (.int x)) h) := rfl
def T_Part_add : List (Nat × List eg_I) := [(59, c_Part_add_59)]
theorem j_Part_add_59 {R : Nat → Nat → Nat → eg_Lo → List Value → List eg_E → Prop} {f pc0 : Nat} : eg_run rm R Q T_Part_add (f + 1) 59 kc ks loc st h = wps rm (eg_run rm R Q T_Part_add f) Q c_Part_add_59 kc ks loc st h := rfl
end
theorem q_Part_add : (T_Part_add.all fun q => eg_seq m_Part_add q.1 q.2) = true := by decide +kernel
theorem b_Part_add {as : List Value} {h : List eg_E} {Q : Option Value → List eg_E → Prop} (hf : (eg_fl as).length ≤ 4) (hw : wps (eg_rm m_Part_add) (eg_run (eg_rm m_Part_add) (eg_R m_Part_add Q (h.length + 0)) Q T_Part_add 3) Q c_Part_add_0 0 0 (eg_entry 4 as) [] h) : eg_Runs n_Part_add as h Q := eg_begin (d := m_Part_add) rfl (by decide) (by decide +kernel) q_Part_add hf hw
/-! ===== Part_addMissed ===== -/
def c_Part_addMissed_33 : List eg_I := .inl (33, 1, .ireturn, 0, 0) :: []
def c_Part_addMissed_30 : List eg_I := .inl (30, 3, .getfield 25, 8, 4) :: c_Part_addMissed_33
def c_Part_addMissed_29 : List eg_I := .inl (29, 1, .aload 0, 0, 0) :: c_Part_addMissed_30
def c_Part_addMissed_26 : List eg_I := .inl (26, 3, .putfield 25, 8, 4) :: c_Part_addMissed_29
def c_Part_addMissed_25 : List eg_I := .inl (25, 1, .iadd, 0, 0) :: c_Part_addMissed_26
def c_Part_addMissed_24 : List eg_I := .inl (24, 1, .iconst (1), 0, 0) :: c_Part_addMissed_25
def c_Part_addMissed_21 : List eg_I := .inl (21, 3, .getfield 25, 8, 4) :: c_Part_addMissed_24
def c_Part_addMissed_20 : List eg_I := .inl (20, 1, .dup, 0, 0) :: c_Part_addMissed_21
def c_Part_addMissed_19 : List eg_I := .inl (19, 1, .aload 0, 0, 0) :: c_Part_addMissed_20
def c_Part_addMissed_18 : List eg_I := .inl (18, 1, .bastore, 0, 0) :: c_Part_addMissed_19
def c_Part_addMissed_17 : List eg_I := .inl (17, 1, .iconst (1), 0, 0) :: c_Part_addMissed_18
def c_Part_addMissed_14 : List eg_I := .inl (14, 3, .getfield 25, 8, 4) :: c_Part_addMissed_17
def c_Part_addMissed_13 : List eg_I := .inl (13, 1, .aload 0, 0, 0) :: c_Part_addMissed_14
def c_Part_addMissed_10 : List eg_I := .inl (10, 3, .getfield 21, 8, 3) :: c_Part_addMissed_13
def c_Part_addMissed_9 : List eg_I := .inl (9, 1, .aload 0, 0, 0) :: c_Part_addMissed_10
def c_Part_addMissed_6 : List eg_I := .inl (6, 3, .if_icmp .ge (23), 29, 0) :: c_Part_addMissed_9
def c_Part_addMissed_4 : List eg_I := .inl (4, 2, .iconst (16), 0, 0) :: c_Part_addMissed_6
def c_Part_addMissed_1 : List eg_I := .inl (1, 3, .getfield 25, 8, 4) :: c_Part_addMissed_4
def c_Part_addMissed_0 : List eg_I := .inl (0, 1, .aload 0, 0, 0) :: c_Part_addMissed_1
section
variable {rm : Room} {K : Nat → Nat → Nat → eg_Lo → List Value → List eg_E → Prop} {Q : Option Value → List eg_E → Prop} {kc ks : Nat} {loc : eg_Lo} {st : List Value} {h : List eg_E}
theorem s_Part_addMissed_0 {x : Nat} {l : eg_Lo} : wps rm K Q c_Part_addMissed_0 kc ks (some (.ref x) :: l) (st) h = wps rm K Q c_Part_addMissed_1 kc ks (some (.ref x) :: l) (.ref x :: st) h := rfl
theorem s_Part_addMissed_1 {x : Nat} : wps rm K Q c_Part_addMissed_1 kc ks loc (.ref (x + 1) :: st) h = eg_gf h x 8 4 (fun v => wps rm K Q c_Part_addMissed_4 kc ks loc (v :: st) h) := rfl
theorem s_Part_addMissed_4  : wps rm K Q c_Part_addMissed_4 kc ks loc (st) h = wps rm K Q c_Part_addMissed_6 kc ks loc (.int (16) :: st) h := rfl
theorem s_Part_addMissed_6 {x y : Int32} : wps rm K Q c_Part_addMissed_6 kc ks loc (.int y :: .int x :: st) h = ((y ≤ x → K 29 kc ks loc st h) ∧ (¬ y ≤ x → wps rm K Q c_Part_addMissed_9 kc ks loc (st) h)) := rfl
theorem s_Part_addMissed_9 {x : Nat} {l : eg_Lo} : wps rm K Q c_Part_addMissed_9 kc ks (some (.ref x) :: l) (st) h = wps rm K Q c_Part_addMissed_10 kc ks (some (.ref x) :: l) (.ref x :: st) h := rfl
theorem s_Part_addMissed_10 {x : Nat} : wps rm K Q c_Part_addMissed_10 kc ks loc (.ref (x + 1) :: st) h = eg_gf h x 8 3 (fun v => wps rm K Q c_Part_addMissed_13 kc ks loc (v :: st) h) := rfl
theorem s_Part_addMissed_13 {x : Nat} {l : eg_Lo} : wps rm K Q c_Part_addMissed_13 kc ks (some (.ref x) :: l) (st) h = wps rm K Q c_Part_addMissed_14 kc ks (some (.ref x) :: l) (.ref x :: st) h := rfl
theorem s_Part_addMissed_14 {x : Nat} : wps rm K Q c_Part_addMissed_14 kc ks loc (.ref (x + 1) :: st) h = eg_gf h x 8 4 (fun v => wps rm K Q c_Part_addMissed_17 kc ks loc (v :: st) h) := rfl
theorem s_Part_addMissed_17  : wps rm K Q c_Part_addMissed_17 kc ks loc (st) h = wps rm K Q c_Part_addMissed_18 kc ks loc (.int (1) :: st) h := rfl
theorem s_Part_addMissed_18 {x : Nat} {i : Int32} {v : Int32} : wps rm K Q c_Part_addMissed_18 kc ks loc (.int v :: .int i :: .ref (x + 1) :: st) h = eg_bs h x i v (fun h9 => wps rm K Q c_Part_addMissed_19 kc ks loc (st) h9) := rfl
theorem s_Part_addMissed_19 {x : Nat} {l : eg_Lo} : wps rm K Q c_Part_addMissed_19 kc ks (some (.ref x) :: l) (st) h = wps rm K Q c_Part_addMissed_20 kc ks (some (.ref x) :: l) (.ref x :: st) h := rfl
theorem s_Part_addMissed_20 {x : Nat} : wps rm K Q c_Part_addMissed_20 kc ks loc (.ref x :: st) h = wps rm K Q c_Part_addMissed_21 kc ks loc (.ref x :: .ref x :: st) h := rfl
theorem s_Part_addMissed_21 {x : Nat} : wps rm K Q c_Part_addMissed_21 kc ks loc (.ref (x + 1) :: st) h = eg_gf h x 8 4 (fun v => wps rm K Q c_Part_addMissed_24 kc ks loc (v :: st) h) := rfl
theorem s_Part_addMissed_24  : wps rm K Q c_Part_addMissed_24 kc ks loc (st) h = wps rm K Q c_Part_addMissed_25 kc ks loc (.int (1) :: st) h := rfl
theorem s_Part_addMissed_25 {x y : Int32} : wps rm K Q c_Part_addMissed_25 kc ks loc (.int y :: .int x :: st) h = wps rm K Q c_Part_addMissed_26 kc ks loc (.int (x + y) :: st) h := rfl
theorem s_Part_addMissed_26 {x : Nat} {v : Value} : wps rm K Q c_Part_addMissed_26 kc ks loc (v :: .ref (x + 1) :: st) h = eg_pf h x 8 4 v (fun h9 => wps rm K Q c_Part_addMissed_29 kc ks loc (st) h9) := rfl
theorem s_Part_addMissed_29 {x : Nat} {l : eg_Lo} : wps rm K Q c_Part_addMissed_29 kc ks (some (.ref x) :: l) (st) h = wps rm K Q c_Part_addMissed_30 kc ks (some (.ref x) :: l) (.ref x :: st) h := rfl
theorem s_Part_addMissed_30 {x : Nat} : wps rm K Q c_Part_addMissed_30 kc ks loc (.ref (x + 1) :: st) h = eg_gf h x 8 4 (fun v => wps rm K Q c_Part_addMissed_33 kc ks loc (v :: st) h) := rfl
theorem s_Part_addMissed_33 {x : Int32} : wps rm K Q c_Part_addMissed_33 kc ks loc ([.int x]) h = (kc = rm.cells ∧ (0 = 1 → x = 0 ∨ x = 1) ∧ Q (some (.int x)) h) := rfl
def T_Part_addMissed : List (Nat × List eg_I) := [(29, c_Part_addMissed_29)]
theorem j_Part_addMissed_29 {R : Nat → Nat → Nat → eg_Lo → List Value → List eg_E → Prop} {f pc0 : Nat} : eg_run rm R Q T_Part_addMissed (f + 1) 29 kc ks loc st h = wps rm (eg_run rm R Q T_Part_addMissed f) Q c_Part_addMissed_29 kc ks loc st h := rfl
end
theorem q_Part_addMissed : (T_Part_addMissed.all fun q => eg_seq m_Part_addMissed q.1 q.2) = true := by decide +kernel
theorem b_Part_addMissed {as : List Value} {h : List eg_E} {Q : Option Value → List eg_E → Prop} (hf : (eg_fl as).length ≤ 1) (hw : wps (eg_rm m_Part_addMissed) (eg_run (eg_rm m_Part_addMissed) (eg_R m_Part_addMissed Q (h.length + 0)) Q T_Part_addMissed 3) Q c_Part_addMissed_0 0 0 (eg_entry 1 as) [] h) : eg_Runs n_Part_addMissed as h Q := eg_begin (d := m_Part_addMissed) rfl (by decide) (by decide +kernel) q_Part_addMissed hf hw
/-! ===== Part_empty ===== -/
def c_Part_empty_11 : List eg_I := .inl (11, 1, .ireturn, 0, 0) :: []
def c_Part_empty_10 : List eg_I := .inl (10, 1, .iload 1, 0, 0) :: c_Part_empty_11
def c_Part_empty_7 : List eg_I := .inl (7, 3, .putfield 25, 8, 4) :: c_Part_empty_10
def c_Part_empty_6 : List eg_I := .inl (6, 1, .iconst (0), 0, 0) :: c_Part_empty_7
def c_Part_empty_5 : List eg_I := .inl (5, 1, .aload 0, 0, 0) :: c_Part_empty_6
def c_Part_empty_4 : List eg_I := .inl (4, 1, .istore 1, 0, 0) :: c_Part_empty_5
def c_Part_empty_1 : List eg_I := .inl (1, 3, .getfield 25, 8, 4) :: c_Part_empty_4
def c_Part_empty_0 : List eg_I := .inl (0, 1, .aload 0, 0, 0) :: c_Part_empty_1
section
variable {rm : Room} {K : Nat → Nat → Nat → eg_Lo → List Value → List eg_E → Prop} {Q : Option Value → List eg_E → Prop} {kc ks : Nat} {loc : eg_Lo} {st : List Value} {h : List eg_E}
theorem s_Part_empty_0 {x : Nat} {l : eg_Lo} : wps rm K Q c_Part_empty_0 kc ks (some (.ref x) :: l) (st) h = wps rm K Q c_Part_empty_1 kc ks (some (.ref x) :: l) (.ref x :: st) h := rfl
theorem s_Part_empty_1 {x : Nat} : wps rm K Q c_Part_empty_1 kc ks loc (.ref (x + 1) :: st) h = eg_gf h x 8 4 (fun v => wps rm K Q c_Part_empty_4 kc ks loc (v :: st) h) := rfl
theorem s_Part_empty_4 {x : Int32} : wps rm K Q c_Part_empty_4 kc ks loc (.int x :: st) h = wps rm K Q c_Part_empty_5 kc ks (eg_set1 loc 1 (.int x)) (st) h := rfl
theorem s_Part_empty_5 {x : Nat} {l : eg_Lo} : wps rm K Q c_Part_empty_5 kc ks (some (.ref x) :: l) (st) h = wps rm K Q c_Part_empty_6 kc ks (some (.ref x) :: l) (.ref x :: st) h := rfl
theorem s_Part_empty_6  : wps rm K Q c_Part_empty_6 kc ks loc (st) h = wps rm K Q c_Part_empty_7 kc ks loc (.int (0) :: st) h := rfl
theorem s_Part_empty_7 {x : Nat} {v : Value} : wps rm K Q c_Part_empty_7 kc ks loc (v :: .ref (x + 1) :: st) h = eg_pf h x 8 4 v (fun h9 => wps rm K Q c_Part_empty_10 kc ks loc (st) h9) := rfl
theorem s_Part_empty_10 {x : Int32} {l0 : Option Value} {l : eg_Lo} : wps rm K Q c_Part_empty_10 kc ks (l0 :: some (.int x) :: l) (st) h = wps rm K Q c_Part_empty_11 kc ks (l0 :: some (.int x) :: l) (.int x :: st) h := rfl
theorem s_Part_empty_11 {x : Int32} : wps rm K Q c_Part_empty_11 kc ks loc ([.int x]) h = (kc = rm.cells ∧ (0 = 1 → x = 0 ∨ x = 1) ∧ Q (some (.int x)) h) := rfl
def T_Part_empty : List (Nat × List eg_I) := []
end
theorem q_Part_empty : (T_Part_empty.all fun q => eg_seq m_Part_empty q.1 q.2) = true := by decide +kernel
theorem b_Part_empty {as : List Value} {h : List eg_E} {Q : Option Value → List eg_E → Prop} (hf : (eg_fl as).length ≤ 2) (hw : wps (eg_rm m_Part_empty) (eg_run (eg_rm m_Part_empty) (eg_R m_Part_empty Q (h.length + 0)) Q T_Part_empty 2) Q c_Part_empty_0 0 0 (eg_entry 2 as) [] h) : eg_Runs n_Part_empty as h Q := eg_begin (d := m_Part_empty) rfl (by decide) (by decide +kernel) q_Part_empty hf hw
/-! ===== Part_touchedCount ===== -/
def c_Part_touchedCount_31 : List eg_I := .inl (31, 1, .ireturn, 0, 0) :: []
def c_Part_touchedCount_30 : List eg_I := .inl (30, 1, .iload 1, 0, 0) :: c_Part_touchedCount_31
def c_Part_touchedCount_27 : List eg_I := .inl (27, 3, .goto (-23), 4, 0) :: []
def c_Part_touchedCount_24 : List eg_I := .inl (24, 3, .iinc 2 (1), 0, 0) :: c_Part_touchedCount_27
def c_Part_touchedCount_21 : List eg_I := .inl (21, 3, .iinc 1 (1), 0, 0) :: c_Part_touchedCount_24
def c_Part_touchedCount_18 : List eg_I := .inl (18, 3, .ifCond .ne (6), 24, 0) :: c_Part_touchedCount_21
def c_Part_touchedCount_17 : List eg_I := .inl (17, 1, .baload, 0, 0) :: c_Part_touchedCount_18
def c_Part_touchedCount_16 : List eg_I := .inl (16, 1, .iload 2, 0, 0) :: c_Part_touchedCount_17
def c_Part_touchedCount_13 : List eg_I := .inl (13, 3, .getfield 21, 8, 3) :: c_Part_touchedCount_16
def c_Part_touchedCount_12 : List eg_I := .inl (12, 1, .aload 0, 0, 0) :: c_Part_touchedCount_13
def c_Part_touchedCount_9 : List eg_I := .inl (9, 3, .if_icmp .ge (21), 30, 0) :: c_Part_touchedCount_12
def c_Part_touchedCount_6 : List eg_I := .inl (6, 3, .getfield 25, 8, 4) :: c_Part_touchedCount_9
def c_Part_touchedCount_5 : List eg_I := .inl (5, 1, .aload 0, 0, 0) :: c_Part_touchedCount_6
def c_Part_touchedCount_4 : List eg_I := .inl (4, 1, .iload 2, 0, 0) :: c_Part_touchedCount_5
def c_Part_touchedCount_3 : List eg_I := .inl (3, 1, .istore 2, 0, 0) :: [.inl (4, 0, .nop, 0, 0)]
def c_Part_touchedCount_2 : List eg_I := .inl (2, 1, .iconst (0), 0, 0) :: c_Part_touchedCount_3
def c_Part_touchedCount_1 : List eg_I := .inl (1, 1, .istore 1, 0, 0) :: c_Part_touchedCount_2
def c_Part_touchedCount_0 : List eg_I := .inl (0, 1, .iconst (0), 0, 0) :: c_Part_touchedCount_1
section
variable {rm : Room} {K : Nat → Nat → Nat → eg_Lo → List Value → List eg_E → Prop} {Q : Option Value → List eg_E → Prop} {kc ks : Nat} {loc : eg_Lo} {st : List Value} {h : List eg_E}
theorem s_Part_touchedCount_0  : wps rm K Q c_Part_touchedCount_0 kc ks loc (st) h = wps rm K Q c_Part_touchedCount_1 kc ks loc (.int (0) :: st) h := rfl
theorem s_Part_touchedCount_1 {x : Int32} : wps rm K Q c_Part_touchedCount_1 kc ks loc (.int x :: st) h = wps rm K Q c_Part_touchedCount_2 kc ks (eg_set1 loc 1 (.int x)) (st) h := rfl
theorem s_Part_touchedCount_2  : wps rm K Q c_Part_touchedCount_2 kc ks loc (st) h = wps rm K Q c_Part_touchedCount_3 kc ks loc (.int (0) :: st) h := rfl
theorem s_Part_touchedCount_3 {x : Int32} : wps rm K Q c_Part_touchedCount_3 kc ks loc (.int x :: st) h = K 4 kc ks (eg_set1 loc 2 (.int x)) (st) h := rfl
theorem s_Part_touchedCount_4 {x : Int32} {l0 l1 : Option Value} {l : eg_Lo} : wps rm K Q c_Part_touchedCount_4 kc ks (l0 :: l1 :: some (.int x) :: l) (st) h = wps rm K Q c_Part_touchedCount_5 kc ks (l0 :: l1 :: some (.int x) :: l) (.int x :: st) h := rfl
theorem s_Part_touchedCount_5 {x : Nat} {l : eg_Lo} : wps rm K Q c_Part_touchedCount_5 kc ks (some (.ref x) :: l) (st) h = wps rm K Q c_Part_touchedCount_6 kc ks (some (.ref x) :: l) (.ref x :: st) h := rfl
theorem s_Part_touchedCount_6 {x : Nat} : wps rm K Q c_Part_touchedCount_6 kc ks loc (.ref (x + 1) :: st) h = eg_gf h x 8 4 (fun v => wps rm K Q c_Part_touchedCount_9 kc ks loc (v :: st) h) := rfl
theorem s_Part_touchedCount_9 {x y : Int32} : wps rm K Q c_Part_touchedCount_9 kc ks loc (.int y :: .int x :: st) h = ((y ≤ x → K 30 kc ks loc st h) ∧ (¬ y ≤ x → wps rm K Q c_Part_touchedCount_12 kc ks loc (st) h)) := rfl
theorem s_Part_touchedCount_12 {x : Nat} {l : eg_Lo} : wps rm K Q c_Part_touchedCount_12 kc ks (some (.ref x) :: l) (st) h = wps rm K Q c_Part_touchedCount_13 kc ks (some (.ref x) :: l) (.ref x :: st) h := rfl
theorem s_Part_touchedCount_13 {x : Nat} : wps rm K Q c_Part_touchedCount_13 kc ks loc (.ref (x + 1) :: st) h = eg_gf h x 8 3 (fun v => wps rm K Q c_Part_touchedCount_16 kc ks loc (v :: st) h) := rfl
theorem s_Part_touchedCount_16 {x : Int32} {l0 l1 : Option Value} {l : eg_Lo} : wps rm K Q c_Part_touchedCount_16 kc ks (l0 :: l1 :: some (.int x) :: l) (st) h = wps rm K Q c_Part_touchedCount_17 kc ks (l0 :: l1 :: some (.int x) :: l) (.int x :: st) h := rfl
theorem s_Part_touchedCount_17 {x : Nat} {i : Int32} : wps rm K Q c_Part_touchedCount_17 kc ks loc (.int i :: .ref (x + 1) :: st) h = eg_ba h x i (fun v => wps rm K Q c_Part_touchedCount_18 kc ks loc (.int v :: st) h) := rfl
theorem s_Part_touchedCount_18 {x : Int32} : wps rm K Q c_Part_touchedCount_18 kc ks loc (.int x :: st) h = ((¬ x = 0 → K 24 kc ks loc st h) ∧ (x = 0 → wps rm K Q c_Part_touchedCount_21 kc ks loc (st) h)) := rfl
theorem s_Part_touchedCount_21 {x : Int32} {l0 : Option Value} {l9 : eg_Lo} : wps rm K Q c_Part_touchedCount_21 kc ks (l0 :: some (.int x) :: l9) (st) h = wps rm K Q c_Part_touchedCount_24 kc ks (eg_set1 (l0 :: some (.int x) :: l9) 1 (.int (x + (1)))) (st) h := rfl
theorem s_Part_touchedCount_24 {x : Int32} {l0 l1 : Option Value} {l9 : eg_Lo} : wps rm K Q c_Part_touchedCount_24 kc ks (l0 :: l1 :: some (.int x) :: l9) (st) h = wps rm K Q c_Part_touchedCount_27 kc ks (eg_set1 (l0 :: l1 :: some (.int x) :: l9) 2 (.int (x + (1)))) (st) h := rfl
theorem s_Part_touchedCount_27  : wps rm K Q c_Part_touchedCount_27 kc ks loc (st) h = K 4 kc ks loc st h := rfl
theorem s_Part_touchedCount_30 {x : Int32} {l0 : Option Value} {l : eg_Lo} : wps rm K Q c_Part_touchedCount_30 kc ks (l0 :: some (.int x) :: l) (st) h = wps rm K Q c_Part_touchedCount_31 kc ks (l0 :: some (.int x) :: l) (.int x :: st) h := rfl
theorem s_Part_touchedCount_31 {x : Int32} : wps rm K Q c_Part_touchedCount_31 kc ks loc ([.int x]) h = (kc = rm.cells ∧ (0 = 1 → x = 0 ∨ x = 1) ∧ Q (some (.int x)) h) := rfl
def T_Part_touchedCount : List (Nat × List eg_I) := [(24, c_Part_touchedCount_24), (30, c_Part_touchedCount_30)]
theorem j_Part_touchedCount_24 {R : Nat → Nat → Nat → eg_Lo → List Value → List eg_E → Prop} {f pc0 : Nat} : eg_run rm R Q T_Part_touchedCount (f + 1) 24 kc ks loc st h = wps rm (eg_run rm R Q T_Part_touchedCount f) Q c_Part_touchedCount_24 kc ks loc st h := rfl
theorem j_Part_touchedCount_30 {R : Nat → Nat → Nat → eg_Lo → List Value → List eg_E → Prop} {f pc0 : Nat} : eg_run rm R Q T_Part_touchedCount (f + 1) 30 kc ks loc st h = wps rm (eg_run rm R Q T_Part_touchedCount f) Q c_Part_touchedCount_30 kc ks loc st h := rfl
theorem j_Part_touchedCount_4 {R : Nat → Nat → Nat → eg_Lo → List Value → List eg_E → Prop} {f pc0 : Nat} : eg_run rm R Q T_Part_touchedCount (f + 1) 4 kc ks loc st h = R 4 kc ks loc st h := rfl
end
theorem q_Part_touchedCount : (T_Part_touchedCount.all fun q => eg_seq m_Part_touchedCount q.1 q.2) = true := by decide +kernel
theorem b_Part_touchedCount {as : List Value} {h : List eg_E} {Q : Option Value → List eg_E → Prop} (hf : (eg_fl as).length ≤ 3) (hw : wps (eg_rm m_Part_touchedCount) (eg_run (eg_rm m_Part_touchedCount) (eg_R m_Part_touchedCount Q (h.length + 0)) Q T_Part_touchedCount 4) Q c_Part_touchedCount_0 0 0 (eg_entry 3 as) [] h) : eg_Runs n_Part_touchedCount as h Q := eg_begin (d := m_Part_touchedCount) rfl (by decide) (by decide +kernel) q_Part_touchedCount hf hw
theorem p_Part_touchedCount_4 {Q : Option Value → List eg_E → Prop} {n0 kc ks : Nat} {loc : eg_Lo} {st : List Value} {h : List eg_E} (hw : wps (eg_rm m_Part_touchedCount) (eg_run (eg_rm m_Part_touchedCount) (eg_R m_Part_touchedCount Q n0) Q T_Part_touchedCount 4) Q c_Part_touchedCount_4 kc ks loc st h) : eg_R m_Part_touchedCount Q n0 4 kc ks loc st h := eg_go (by decide +kernel) q_Part_touchedCount hw
/-! ===== Sheet_init ===== -/
def c_Sheet_init_12 : List eg_I := .inl (12, 1, .return_, 0, 0) :: []
def c_Sheet_init_9 : List eg_I := .inl (9, 3, .putfield 9, 9, 0) :: c_Sheet_init_12
def c_Sheet_init_7 : List eg_I := .inl (7, 2, .newarray .int, 0, 0) :: c_Sheet_init_9
def c_Sheet_init_5 : List eg_I := .inl (5, 2, .iconst (48), 0, 0) :: c_Sheet_init_7
def c_Sheet_init_4 : List eg_I := .inl (4, 1, .aload 0, 0, 0) :: c_Sheet_init_5
def c_Sheet_init_1 : List eg_I := .inl (1, 3, .athrow, 3, 0) :: c_Sheet_init_4
def c_Sheet_init_0 : List eg_I := .inl (0, 1, .aload 0, 0, 0) :: c_Sheet_init_1
section
variable {rm : Room} {K : Nat → Nat → Nat → eg_Lo → List Value → List eg_E → Prop} {Q : Option Value → List eg_E → Prop} {kc ks : Nat} {loc : eg_Lo} {st : List Value} {h : List eg_E}
theorem s_Sheet_init_0 {x : Nat} {l : eg_Lo} : wps rm K Q c_Sheet_init_0 kc ks (some (.ref x) :: l) (st) h = wps rm K Q c_Sheet_init_1 kc ks (some (.ref x) :: l) (.ref x :: st) h := rfl
theorem s_Sheet_init_1 {x : Nat} : wps rm K Q c_Sheet_init_1 kc ks loc (.ref (x + 1) :: st) h = (st.length ≤ 4 ∧ wps rm K Q c_Sheet_init_4 kc ks loc (st) h) := rfl
theorem s_Sheet_init_4 {x : Nat} {l : eg_Lo} : wps rm K Q c_Sheet_init_4 kc ks (some (.ref x) :: l) (st) h = wps rm K Q c_Sheet_init_5 kc ks (some (.ref x) :: l) (.ref x :: st) h := rfl
theorem s_Sheet_init_5  : wps rm K Q c_Sheet_init_5 kc ks loc (st) h = wps rm K Q c_Sheet_init_7 kc ks loc (.int (48) :: st) h := rfl
theorem s_Sheet_init_7 {x : Int32} : wps rm K Q c_Sheet_init_7 kc ks loc (.int x :: st) h = (¬ x < 0 ∧ x.toNatClampNeg ≤ 1000 ∧ kc + 1 ≤ rm.cells ∧ ks + x.toNatClampNeg ≤ rm.slots ∧ wps rm K Q c_Sheet_init_9 (kc + 1) (ks + x.toNatClampNeg) loc (.ref (h.length + 1) :: st) (h ++ [.inl (0, eg_zero 0 x.toNatClampNeg)])) := rfl
theorem s_Sheet_init_9 {x : Nat} {v : Value} : wps rm K Q c_Sheet_init_9 kc ks loc (v :: .ref (x + 1) :: st) h = eg_pf h x 9 0 v (fun h9 => wps rm K Q c_Sheet_init_12 kc ks loc (st) h9) := rfl
theorem s_Sheet_init_12  : wps rm K Q c_Sheet_init_12 kc ks loc ([]) h = (kc = rm.cells ∧ Q none h) := rfl
def T_Sheet_init : List (Nat × List eg_I) := []
end
theorem q_Sheet_init : (T_Sheet_init.all fun q => eg_seq m_Sheet_init q.1 q.2) = true := by decide +kernel
theorem b_Sheet_init {as : List Value} {h : List eg_E} {Q : Option Value → List eg_E → Prop} (hf : (eg_fl as).length ≤ 1) (hw : wps (eg_rm m_Sheet_init) (eg_run (eg_rm m_Sheet_init) (eg_R m_Sheet_init Q (h.length + 1)) Q T_Sheet_init 2) Q c_Sheet_init_0 0 0 (eg_entry 1 as) [] h) : eg_Runs n_Sheet_init as h Q := eg_begin (d := m_Sheet_init) rfl (by decide) (by decide +kernel) q_Sheet_init hf hw
/-! ===== Sheet_isMissing ===== -/
def c_Sheet_isMissing_12 : List eg_I := .inl (12, 1, .ireturn, 0, 1) :: []
def c_Sheet_isMissing_11 : List eg_I := .inl (11, 1, .iconst (0), 0, 0) :: c_Sheet_isMissing_12
def c_Sheet_isMissing_8 : List eg_I := .inl (8, 3, .goto (4), 12, 0) :: []
def c_Sheet_isMissing_7 : List eg_I := .inl (7, 1, .iconst (1), 0, 0) :: c_Sheet_isMissing_8
def c_Sheet_isMissing_4 : List eg_I := .inl (4, 3, .ifCond .ne (7), 11, 0) :: c_Sheet_isMissing_7
def c_Sheet_isMissing_1 : List eg_I := .inl (1, 3, .getfield 15, 9, 1) :: c_Sheet_isMissing_4
def c_Sheet_isMissing_0 : List eg_I := .inl (0, 1, .aload 0, 0, 0) :: c_Sheet_isMissing_1
section
variable {rm : Room} {K : Nat → Nat → Nat → eg_Lo → List Value → List eg_E → Prop} {Q : Option Value → List eg_E → Prop} {kc ks : Nat} {loc : eg_Lo} {st : List Value} {h : List eg_E}
theorem s_Sheet_isMissing_0 {x : Nat} {l : eg_Lo} : wps rm K Q c_Sheet_isMissing_0 kc ks (some (.ref x) :: l) (st) h = wps rm K Q c_Sheet_isMissing_1 kc ks (some (.ref x) :: l) (.ref x :: st) h := rfl
theorem s_Sheet_isMissing_1 {x : Nat} : wps rm K Q c_Sheet_isMissing_1 kc ks loc (.ref (x + 1) :: st) h = eg_gf h x 9 1 (fun v => wps rm K Q c_Sheet_isMissing_4 kc ks loc (v :: st) h) := rfl
theorem s_Sheet_isMissing_4 {x : Int32} : wps rm K Q c_Sheet_isMissing_4 kc ks loc (.int x :: st) h = ((¬ x = 0 → K 11 kc ks loc st h) ∧ (x = 0 → wps rm K Q c_Sheet_isMissing_7 kc ks loc (st) h)) := rfl
theorem s_Sheet_isMissing_7  : wps rm K Q c_Sheet_isMissing_7 kc ks loc (st) h = wps rm K Q c_Sheet_isMissing_8 kc ks loc (.int (1) :: st) h := rfl
theorem s_Sheet_isMissing_8  : wps rm K Q c_Sheet_isMissing_8 kc ks loc (st) h = K 12 kc ks loc st h := rfl
theorem s_Sheet_isMissing_11  : wps rm K Q c_Sheet_isMissing_11 kc ks loc (st) h = wps rm K Q c_Sheet_isMissing_12 kc ks loc (.int (0) :: st) h := rfl
theorem s_Sheet_isMissing_12 {x : Int32} : wps rm K Q c_Sheet_isMissing_12 kc ks loc ([.int x]) h = (kc = rm.cells ∧ ((1 : Nat) = 1 → x = 0 ∨ x = 1) ∧ Q (some (.int x)) h) := rfl
def T_Sheet_isMissing : List (Nat × List eg_I) := [(11, c_Sheet_isMissing_11), (12, c_Sheet_isMissing_12)]
theorem j_Sheet_isMissing_11 {R : Nat → Nat → Nat → eg_Lo → List Value → List eg_E → Prop} {f pc0 : Nat} : eg_run rm R Q T_Sheet_isMissing (f + 1) 11 kc ks loc st h = wps rm (eg_run rm R Q T_Sheet_isMissing f) Q c_Sheet_isMissing_11 kc ks loc st h := rfl
theorem j_Sheet_isMissing_12 {R : Nat → Nat → Nat → eg_Lo → List Value → List eg_E → Prop} {f pc0 : Nat} : eg_run rm R Q T_Sheet_isMissing (f + 1) 12 kc ks loc st h = wps rm (eg_run rm R Q T_Sheet_isMissing f) Q c_Sheet_isMissing_12 kc ks loc st h := rfl
end
theorem q_Sheet_isMissing : (T_Sheet_isMissing.all fun q => eg_seq m_Sheet_isMissing q.1 q.2) = true := by decide +kernel
theorem b_Sheet_isMissing {as : List Value} {h : List eg_E} {Q : Option Value → List eg_E → Prop} (hf : (eg_fl as).length ≤ 1) (hw : wps (eg_rm m_Sheet_isMissing) (eg_run (eg_rm m_Sheet_isMissing) (eg_R m_Sheet_isMissing Q (h.length + 0)) Q T_Sheet_isMissing 4) Q c_Sheet_isMissing_0 0 0 (eg_entry 1 as) [] h) : eg_Runs n_Sheet_isMissing as h Q := eg_begin (d := m_Sheet_isMissing) rfl (by decide) (by decide +kernel) q_Sheet_isMissing hf hw
/-! ===== Sheet_renew ===== -/
def c_Sheet_renew_43 : List eg_I := .inl (43, 1, .ireturn, 0, 0) :: []
def c_Sheet_renew_40 : List eg_I := .inl (40, 3, .getfield 19, 9, 2) :: c_Sheet_renew_43
def c_Sheet_renew_39 : List eg_I := .inl (39, 1, .aload 0, 0, 0) :: c_Sheet_renew_40
def c_Sheet_renew_36 : List eg_I := .inl (36, 3, .goto (-16), 20, 0) :: []
def c_Sheet_renew_33 : List eg_I := .inl (33, 3, .iinc 3 (1), 0, 0) :: c_Sheet_renew_36
def c_Sheet_renew_32 : List eg_I := .inl (32, 1, .iastore, 0, 0) :: c_Sheet_renew_33
def c_Sheet_renew_31 : List eg_I := .inl (31, 1, .iconst (0), 0, 0) :: c_Sheet_renew_32
def c_Sheet_renew_30 : List eg_I := .inl (30, 1, .iload 3, 0, 0) :: c_Sheet_renew_31
def c_Sheet_renew_27 : List eg_I := .inl (27, 3, .getfield 9, 9, 0) :: c_Sheet_renew_30
def c_Sheet_renew_26 : List eg_I := .inl (26, 1, .aload 0, 0, 0) :: c_Sheet_renew_27
def c_Sheet_renew_23 : List eg_I := .inl (23, 3, .if_icmp .ge (16), 39, 0) :: c_Sheet_renew_26
def c_Sheet_renew_21 : List eg_I := .inl (21, 2, .iconst (48), 0, 0) :: c_Sheet_renew_23
def c_Sheet_renew_20 : List eg_I := .inl (20, 1, .iload 3, 0, 0) :: c_Sheet_renew_21
def c_Sheet_renew_19 : List eg_I := .inl (19, 1, .istore 3, 0, 0) :: [.inl (20, 0, .nop, 0, 0)]
def c_Sheet_renew_18 : List eg_I := .inl (18, 1, .iconst (0), 0, 0) :: c_Sheet_renew_19
def c_Sheet_renew_15 : List eg_I := .inl (15, 3, .putfield 19, 9, 2) :: c_Sheet_renew_18
def c_Sheet_renew_14 : List eg_I := .inl (14, 1, .iload 2, 0, 0) :: c_Sheet_renew_15
def c_Sheet_renew_11 : List eg_I := .inl (11, 3, .goto (4), 15, 0) :: []
def c_Sheet_renew_10 : List eg_I := .inl (10, 1, .iconst (0), 0, 0) :: c_Sheet_renew_11
def c_Sheet_renew_7 : List eg_I := .inl (7, 3, .ifCond .ne (7), 14, 0) :: c_Sheet_renew_10
def c_Sheet_renew_6 : List eg_I := .inl (6, 1, .iload 1, 0, 0) :: c_Sheet_renew_7
def c_Sheet_renew_5 : List eg_I := .inl (5, 1, .aload 0, 0, 0) :: c_Sheet_renew_6
def c_Sheet_renew_2 : List eg_I := .inl (2, 3, .putfield 15, 9, 1) :: c_Sheet_renew_5
def c_Sheet_renew_1 : List eg_I := .inl (1, 1, .iload 1, 0, 0) :: c_Sheet_renew_2
def c_Sheet_renew_0 : List eg_I := .inl (0, 1, .aload 0, 0, 0) :: c_Sheet_renew_1
section
variable {rm : Room} {K : Nat → Nat → Nat → eg_Lo → List Value → List eg_E → Prop} {Q : Option Value → List eg_E → Prop} {kc ks : Nat} {loc : eg_Lo} {st : List Value} {h : List eg_E}
theorem s_Sheet_renew_0 {x : Nat} {l : eg_Lo} : wps rm K Q c_Sheet_renew_0 kc ks (some (.ref x) :: l) (st) h = wps rm K Q c_Sheet_renew_1 kc ks (some (.ref x) :: l) (.ref x :: st) h := rfl
theorem s_Sheet_renew_1 {x : Int32} {l0 : Option Value} {l : eg_Lo} : wps rm K Q c_Sheet_renew_1 kc ks (l0 :: some (.int x) :: l) (st) h = wps rm K Q c_Sheet_renew_2 kc ks (l0 :: some (.int x) :: l) (.int x :: st) h := rfl
theorem s_Sheet_renew_2 {x : Nat} {v : Value} : wps rm K Q c_Sheet_renew_2 kc ks loc (v :: .ref (x + 1) :: st) h = eg_pf h x 9 1 v (fun h9 => wps rm K Q c_Sheet_renew_5 kc ks loc (st) h9) := rfl
theorem s_Sheet_renew_5 {x : Nat} {l : eg_Lo} : wps rm K Q c_Sheet_renew_5 kc ks (some (.ref x) :: l) (st) h = wps rm K Q c_Sheet_renew_6 kc ks (some (.ref x) :: l) (.ref x :: st) h := rfl
theorem s_Sheet_renew_6 {x : Int32} {l0 : Option Value} {l : eg_Lo} : wps rm K Q c_Sheet_renew_6 kc ks (l0 :: some (.int x) :: l) (st) h = wps rm K Q c_Sheet_renew_7 kc ks (l0 :: some (.int x) :: l) (.int x :: st) h := rfl
theorem s_Sheet_renew_7 {x : Int32} : wps rm K Q c_Sheet_renew_7 kc ks loc (.int x :: st) h = ((¬ x = 0 → K 14 kc ks loc st h) ∧ (x = 0 → wps rm K Q c_Sheet_renew_10 kc ks loc (st) h)) := rfl
theorem s_Sheet_renew_10  : wps rm K Q c_Sheet_renew_10 kc ks loc (st) h = wps rm K Q c_Sheet_renew_11 kc ks loc (.int (0) :: st) h := rfl
theorem s_Sheet_renew_11  : wps rm K Q c_Sheet_renew_11 kc ks loc (st) h = K 15 kc ks loc st h := rfl
theorem s_Sheet_renew_14 {x : Int32} {l0 l1 : Option Value} {l : eg_Lo} : wps rm K Q c_Sheet_renew_14 kc ks (l0 :: l1 :: some (.int x) :: l) (st) h = wps rm K Q c_Sheet_renew_15 kc ks (l0 :: l1 :: some (.int x) :: l) (.int x :: st) h := rfl
theorem s_Sheet_renew_15 {x : Nat} {v : Value} : wps rm K Q c_Sheet_renew_15 kc ks loc (v :: .ref (x + 1) :: st) h = eg_pf h x 9 2 v (fun h9 => wps rm K Q c_Sheet_renew_18 kc ks loc (st) h9) := rfl
theorem s_Sheet_renew_18  : wps rm K Q c_Sheet_renew_18 kc ks loc (st) h = wps rm K Q c_Sheet_renew_19 kc ks loc (.int (0) :: st) h := rfl
theorem s_Sheet_renew_19 {x : Int32} : wps rm K Q c_Sheet_renew_19 kc ks loc (.int x :: st) h = K 20 kc ks (eg_set1 loc 3 (.int x)) (st) h := rfl
theorem s_Sheet_renew_20 {x : Int32} {l0 l1 l2 : Option Value} {l : eg_Lo} : wps rm K Q c_Sheet_renew_20 kc ks (l0 :: l1 :: l2 :: some (.int x) :: l) (st) h = wps rm K Q c_Sheet_renew_21 kc ks (l0 :: l1 :: l2 :: some (.int x) :: l) (.int x :: st) h := rfl
theorem s_Sheet_renew_21  : wps rm K Q c_Sheet_renew_21 kc ks loc (st) h = wps rm K Q c_Sheet_renew_23 kc ks loc (.int (48) :: st) h := rfl
theorem s_Sheet_renew_23 {x y : Int32} : wps rm K Q c_Sheet_renew_23 kc ks loc (.int y :: .int x :: st) h = ((y ≤ x → K 39 kc ks loc st h) ∧ (¬ y ≤ x → wps rm K Q c_Sheet_renew_26 kc ks loc (st) h)) := rfl
theorem s_Sheet_renew_26 {x : Nat} {l : eg_Lo} : wps rm K Q c_Sheet_renew_26 kc ks (some (.ref x) :: l) (st) h = wps rm K Q c_Sheet_renew_27 kc ks (some (.ref x) :: l) (.ref x :: st) h := rfl
theorem s_Sheet_renew_27 {x : Nat} : wps rm K Q c_Sheet_renew_27 kc ks loc (.ref (x + 1) :: st) h = eg_gf h x 9 0 (fun v => wps rm K Q c_Sheet_renew_30 kc ks loc (v :: st) h) := rfl
theorem s_Sheet_renew_30 {x : Int32} {l0 l1 l2 : Option Value} {l : eg_Lo} : wps rm K Q c_Sheet_renew_30 kc ks (l0 :: l1 :: l2 :: some (.int x) :: l) (st) h = wps rm K Q c_Sheet_renew_31 kc ks (l0 :: l1 :: l2 :: some (.int x) :: l) (.int x :: st) h := rfl
theorem s_Sheet_renew_31  : wps rm K Q c_Sheet_renew_31 kc ks loc (st) h = wps rm K Q c_Sheet_renew_32 kc ks loc (.int (0) :: st) h := rfl
theorem s_Sheet_renew_32 {x : Nat} {i : Int32} {v : Int32} : wps rm K Q c_Sheet_renew_32 kc ks loc (.int v :: .int i :: .ref (x + 1) :: st) h = eg_is h x i v (fun h9 => wps rm K Q c_Sheet_renew_33 kc ks loc (st) h9) := rfl
theorem s_Sheet_renew_33 {x : Int32} {l0 l1 l2 : Option Value} {l9 : eg_Lo} : wps rm K Q c_Sheet_renew_33 kc ks (l0 :: l1 :: l2 :: some (.int x) :: l9) (st) h = wps rm K Q c_Sheet_renew_36 kc ks (eg_set1 (l0 :: l1 :: l2 :: some (.int x) :: l9) 3 (.int (x + (1)))) (st) h := rfl
theorem s_Sheet_renew_36  : wps rm K Q c_Sheet_renew_36 kc ks loc (st) h = K 20 kc ks loc st h := rfl
theorem s_Sheet_renew_39 {x : Nat} {l : eg_Lo} : wps rm K Q c_Sheet_renew_39 kc ks (some (.ref x) :: l) (st) h = wps rm K Q c_Sheet_renew_40 kc ks (some (.ref x) :: l) (.ref x :: st) h := rfl
theorem s_Sheet_renew_40 {x : Nat} : wps rm K Q c_Sheet_renew_40 kc ks loc (.ref (x + 1) :: st) h = eg_gf h x 9 2 (fun v => wps rm K Q c_Sheet_renew_43 kc ks loc (v :: st) h) := rfl
theorem s_Sheet_renew_43 {x : Int32} : wps rm K Q c_Sheet_renew_43 kc ks loc ([.int x]) h = (kc = rm.cells ∧ (0 = 1 → x = 0 ∨ x = 1) ∧ Q (some (.int x)) h) := rfl
def T_Sheet_renew : List (Nat × List eg_I) := [(14, c_Sheet_renew_14), (15, c_Sheet_renew_15), (39, c_Sheet_renew_39)]
theorem j_Sheet_renew_14 {R : Nat → Nat → Nat → eg_Lo → List Value → List eg_E → Prop} {f pc0 : Nat} : eg_run rm R Q T_Sheet_renew (f + 1) 14 kc ks loc st h = wps rm (eg_run rm R Q T_Sheet_renew f) Q c_Sheet_renew_14 kc ks loc st h := rfl
theorem j_Sheet_renew_15 {R : Nat → Nat → Nat → eg_Lo → List Value → List eg_E → Prop} {f pc0 : Nat} : eg_run rm R Q T_Sheet_renew (f + 1) 15 kc ks loc st h = wps rm (eg_run rm R Q T_Sheet_renew f) Q c_Sheet_renew_15 kc ks loc st h := rfl
theorem j_Sheet_renew_39 {R : Nat → Nat → Nat → eg_Lo → List Value → List eg_E → Prop} {f pc0 : Nat} : eg_run rm R Q T_Sheet_renew (f + 1) 39 kc ks loc st h = wps rm (eg_run rm R Q T_Sheet_renew f) Q c_Sheet_renew_39 kc ks loc st h := rfl
theorem j_Sheet_renew_20 {R : Nat → Nat → Nat → eg_Lo → List Value → List eg_E → Prop} {f pc0 : Nat} : eg_run rm R Q T_Sheet_renew (f + 1) 20 kc ks loc st h = R 20 kc ks loc st h := rfl
end
theorem q_Sheet_renew : (T_Sheet_renew.all fun q => eg_seq m_Sheet_renew q.1 q.2) = true := by decide +kernel
theorem b_Sheet_renew {as : List Value} {h : List eg_E} {Q : Option Value → List eg_E → Prop} (hf : (eg_fl as).length ≤ 4) (hw : wps (eg_rm m_Sheet_renew) (eg_run (eg_rm m_Sheet_renew) (eg_R m_Sheet_renew Q (h.length + 0)) Q T_Sheet_renew 5) Q c_Sheet_renew_0 0 0 (eg_entry 4 as) [] h) : eg_Runs n_Sheet_renew as h Q := eg_begin (d := m_Sheet_renew) rfl (by decide) (by decide +kernel) q_Sheet_renew hf hw
theorem p_Sheet_renew_20 {Q : Option Value → List eg_E → Prop} {n0 kc ks : Nat} {loc : eg_Lo} {st : List Value} {h : List eg_E} (hw : wps (eg_rm m_Sheet_renew) (eg_run (eg_rm m_Sheet_renew) (eg_R m_Sheet_renew Q n0) Q T_Sheet_renew 5) Q c_Sheet_renew_20 kc ks loc st h) : eg_R m_Sheet_renew Q n0 20 kc ks loc st h := eg_go (by decide +kernel) q_Sheet_renew hw
/-! ===== Sheet_hasRun ===== -/
def c_Sheet_hasRun_31 : List eg_I := .inl (31, 1, .ireturn, 0, 1) :: []
def c_Sheet_hasRun_30 : List eg_I := .inl (30, 1, .iconst (0), 0, 0) :: c_Sheet_hasRun_31
def c_Sheet_hasRun_27 : List eg_I := .inl (27, 3, .goto (4), 31, 0) :: []
def c_Sheet_hasRun_26 : List eg_I := .inl (26, 1, .iconst (1), 0, 0) :: c_Sheet_hasRun_27
def c_Sheet_hasRun_23 : List eg_I := .inl (23, 3, .if_icmp .gt (7), 30, 0) :: c_Sheet_hasRun_26
def c_Sheet_hasRun_22 : List eg_I := .inl (22, 1, .isub, 0, 0) :: c_Sheet_hasRun_23
def c_Sheet_hasRun_21 : List eg_I := .inl (21, 1, .iload 2, 0, 0) :: c_Sheet_hasRun_22
def c_Sheet_hasRun_18 : List eg_I := .inl (18, 3, .getfield 19, 9, 2) :: c_Sheet_hasRun_21
def c_Sheet_hasRun_17 : List eg_I := .inl (17, 1, .aload 0, 0, 0) :: c_Sheet_hasRun_18
def c_Sheet_hasRun_16 : List eg_I := .inl (16, 1, .iload 1, 0, 0) :: c_Sheet_hasRun_17
def c_Sheet_hasRun_13 : List eg_I := .inl (13, 3, .if_icmp .gt (17), 30, 0) :: c_Sheet_hasRun_16
def c_Sheet_hasRun_10 : List eg_I := .inl (10, 3, .getfield 19, 9, 2) :: c_Sheet_hasRun_13
def c_Sheet_hasRun_9 : List eg_I := .inl (9, 1, .aload 0, 0, 0) :: c_Sheet_hasRun_10
def c_Sheet_hasRun_8 : List eg_I := .inl (8, 1, .iload 2, 0, 0) :: c_Sheet_hasRun_9
def c_Sheet_hasRun_5 : List eg_I := .inl (5, 3, .ifCond .lt (25), 30, 0) :: c_Sheet_hasRun_8
def c_Sheet_hasRun_4 : List eg_I := .inl (4, 1, .iload 2, 0, 0) :: c_Sheet_hasRun_5
def c_Sheet_hasRun_1 : List eg_I := .inl (1, 3, .ifCond .lt (29), 30, 0) :: c_Sheet_hasRun_4
def c_Sheet_hasRun_0 : List eg_I := .inl (0, 1, .iload 1, 0, 0) :: c_Sheet_hasRun_1
section
variable {rm : Room} {K : Nat → Nat → Nat → eg_Lo → List Value → List eg_E → Prop} {Q : Option Value → List eg_E → Prop} {kc ks : Nat} {loc : eg_Lo} {st : List Value} {h : List eg_E}
theorem s_Sheet_hasRun_0 {x : Int32} {l0 : Option Value} {l : eg_Lo} : wps rm K Q c_Sheet_hasRun_0 kc ks (l0 :: some (.int x) :: l) (st) h = wps rm K Q c_Sheet_hasRun_1 kc ks (l0 :: some (.int x) :: l) (.int x :: st) h := rfl
theorem s_Sheet_hasRun_1 {x : Int32} : wps rm K Q c_Sheet_hasRun_1 kc ks loc (.int x :: st) h = ((x < 0 → K 30 kc ks loc st h) ∧ (¬ x < 0 → wps rm K Q c_Sheet_hasRun_4 kc ks loc (st) h)) := rfl
theorem s_Sheet_hasRun_4 {x : Int32} {l0 l1 : Option Value} {l : eg_Lo} : wps rm K Q c_Sheet_hasRun_4 kc ks (l0 :: l1 :: some (.int x) :: l) (st) h = wps rm K Q c_Sheet_hasRun_5 kc ks (l0 :: l1 :: some (.int x) :: l) (.int x :: st) h := rfl
theorem s_Sheet_hasRun_5 {x : Int32} : wps rm K Q c_Sheet_hasRun_5 kc ks loc (.int x :: st) h = ((x < 0 → K 30 kc ks loc st h) ∧ (¬ x < 0 → wps rm K Q c_Sheet_hasRun_8 kc ks loc (st) h)) := rfl
theorem s_Sheet_hasRun_8 {x : Int32} {l0 l1 : Option Value} {l : eg_Lo} : wps rm K Q c_Sheet_hasRun_8 kc ks (l0 :: l1 :: some (.int x) :: l) (st) h = wps rm K Q c_Sheet_hasRun_9 kc ks (l0 :: l1 :: some (.int x) :: l) (.int x :: st) h := rfl
theorem s_Sheet_hasRun_9 {x : Nat} {l : eg_Lo} : wps rm K Q c_Sheet_hasRun_9 kc ks (some (.ref x) :: l) (st) h = wps rm K Q c_Sheet_hasRun_10 kc ks (some (.ref x) :: l) (.ref x :: st) h := rfl
theorem s_Sheet_hasRun_10 {x : Nat} : wps rm K Q c_Sheet_hasRun_10 kc ks loc (.ref (x + 1) :: st) h = eg_gf h x 9 2 (fun v => wps rm K Q c_Sheet_hasRun_13 kc ks loc (v :: st) h) := rfl
theorem s_Sheet_hasRun_13 {x y : Int32} : wps rm K Q c_Sheet_hasRun_13 kc ks loc (.int y :: .int x :: st) h = ((y < x → K 30 kc ks loc st h) ∧ (¬ y < x → wps rm K Q c_Sheet_hasRun_16 kc ks loc (st) h)) := rfl
theorem s_Sheet_hasRun_16 {x : Int32} {l0 : Option Value} {l : eg_Lo} : wps rm K Q c_Sheet_hasRun_16 kc ks (l0 :: some (.int x) :: l) (st) h = wps rm K Q c_Sheet_hasRun_17 kc ks (l0 :: some (.int x) :: l) (.int x :: st) h := rfl
theorem s_Sheet_hasRun_17 {x : Nat} {l : eg_Lo} : wps rm K Q c_Sheet_hasRun_17 kc ks (some (.ref x) :: l) (st) h = wps rm K Q c_Sheet_hasRun_18 kc ks (some (.ref x) :: l) (.ref x :: st) h := rfl
theorem s_Sheet_hasRun_18 {x : Nat} : wps rm K Q c_Sheet_hasRun_18 kc ks loc (.ref (x + 1) :: st) h = eg_gf h x 9 2 (fun v => wps rm K Q c_Sheet_hasRun_21 kc ks loc (v :: st) h) := rfl
theorem s_Sheet_hasRun_21 {x : Int32} {l0 l1 : Option Value} {l : eg_Lo} : wps rm K Q c_Sheet_hasRun_21 kc ks (l0 :: l1 :: some (.int x) :: l) (st) h = wps rm K Q c_Sheet_hasRun_22 kc ks (l0 :: l1 :: some (.int x) :: l) (.int x :: st) h := rfl
theorem s_Sheet_hasRun_22 {x y : Int32} : wps rm K Q c_Sheet_hasRun_22 kc ks loc (.int y :: .int x :: st) h = wps rm K Q c_Sheet_hasRun_23 kc ks loc (.int (x - y) :: st) h := rfl
theorem s_Sheet_hasRun_23 {x y : Int32} : wps rm K Q c_Sheet_hasRun_23 kc ks loc (.int y :: .int x :: st) h = ((y < x → K 30 kc ks loc st h) ∧ (¬ y < x → wps rm K Q c_Sheet_hasRun_26 kc ks loc (st) h)) := rfl
theorem s_Sheet_hasRun_26  : wps rm K Q c_Sheet_hasRun_26 kc ks loc (st) h = wps rm K Q c_Sheet_hasRun_27 kc ks loc (.int (1) :: st) h := rfl
theorem s_Sheet_hasRun_27  : wps rm K Q c_Sheet_hasRun_27 kc ks loc (st) h = K 31 kc ks loc st h := rfl
theorem s_Sheet_hasRun_30  : wps rm K Q c_Sheet_hasRun_30 kc ks loc (st) h = wps rm K Q c_Sheet_hasRun_31 kc ks loc (.int (0) :: st) h := rfl
theorem s_Sheet_hasRun_31 {x : Int32} : wps rm K Q c_Sheet_hasRun_31 kc ks loc ([.int x]) h = (kc = rm.cells ∧ ((1 : Nat) = 1 → x = 0 ∨ x = 1) ∧ Q (some (.int x)) h) := rfl
def T_Sheet_hasRun : List (Nat × List eg_I) := [(30, c_Sheet_hasRun_30), (31, c_Sheet_hasRun_31)]
theorem j_Sheet_hasRun_30 {R : Nat → Nat → Nat → eg_Lo → List Value → List eg_E → Prop} {f pc0 : Nat} : eg_run rm R Q T_Sheet_hasRun (f + 1) 30 kc ks loc st h = wps rm (eg_run rm R Q T_Sheet_hasRun f) Q c_Sheet_hasRun_30 kc ks loc st h := rfl
theorem j_Sheet_hasRun_31 {R : Nat → Nat → Nat → eg_Lo → List Value → List eg_E → Prop} {f pc0 : Nat} : eg_run rm R Q T_Sheet_hasRun (f + 1) 31 kc ks loc st h = wps rm (eg_run rm R Q T_Sheet_hasRun f) Q c_Sheet_hasRun_31 kc ks loc st h := rfl
end
theorem q_Sheet_hasRun : (T_Sheet_hasRun.all fun q => eg_seq m_Sheet_hasRun q.1 q.2) = true := by decide +kernel
theorem b_Sheet_hasRun {as : List Value} {h : List eg_E} {Q : Option Value → List eg_E → Prop} (hf : (eg_fl as).length ≤ 3) (hw : wps (eg_rm m_Sheet_hasRun) (eg_run (eg_rm m_Sheet_hasRun) (eg_R m_Sheet_hasRun Q (h.length + 0)) Q T_Sheet_hasRun 4) Q c_Sheet_hasRun_0 0 0 (eg_entry 3 as) [] h) : eg_Runs n_Sheet_hasRun as h Q := eg_begin (d := m_Sheet_hasRun) rfl (by decide) (by decide +kernel) q_Sheet_hasRun hf hw
/-! ===== Sheet_wholeOfBits ===== -/
def c_Sheet_wholeOfBits_101 : List eg_I := .inl (101, 1, .ireturn, 0, 0) :: []
def c_Sheet_wholeOfBits_99 : List eg_I := .inl (99, 2, .iload 10, 0, 0) :: c_Sheet_wholeOfBits_101
def c_Sheet_wholeOfBits_96 : List eg_I := .inl (96, 3, .goto (5), 101, 0) :: []
def c_Sheet_wholeOfBits_95 : List eg_I := .inl (95, 1, .ineg, 0, 0) :: c_Sheet_wholeOfBits_96
def c_Sheet_wholeOfBits_93 : List eg_I := .inl (93, 2, .iload 10, 0, 0) :: c_Sheet_wholeOfBits_95
def c_Sheet_wholeOfBits_90 : List eg_I := .inl (90, 3, .ifCond .ge (9), 99, 0) :: c_Sheet_wholeOfBits_93
def c_Sheet_wholeOfBits_89 : List eg_I := .inl (89, 1, .lcmp, 0, 0) :: c_Sheet_wholeOfBits_90
def c_Sheet_wholeOfBits_88 : List eg_I := .inl (88, 1, .sipush (0), 0, 0) :: c_Sheet_wholeOfBits_89
def c_Sheet_wholeOfBits_87 : List eg_I := .inl (87, 1, .lload 0, 0, 0) :: c_Sheet_wholeOfBits_88
def c_Sheet_wholeOfBits_85 : List eg_I := .inl (85, 2, .istore 10, 0, 0) :: c_Sheet_wholeOfBits_87
def c_Sheet_wholeOfBits_84 : List eg_I := .inl (84, 1, .l2i, 0, 0) :: c_Sheet_wholeOfBits_85
def c_Sheet_wholeOfBits_83 : List eg_I := .inl (83, 1, .lshr, 0, 0) :: c_Sheet_wholeOfBits_84
def c_Sheet_wholeOfBits_81 : List eg_I := .inl (81, 2, .iload 7, 0, 0) :: c_Sheet_wholeOfBits_83
def c_Sheet_wholeOfBits_79 : List eg_I := .inl (79, 2, .lload 5, 0, 0) :: c_Sheet_wholeOfBits_81
def c_Sheet_wholeOfBits_78 : List eg_I := .inl (78, 1, .ireturn, 0, 0) :: []
def c_Sheet_wholeOfBits_75 : List eg_I := .inl (75, 3, .iconst (301), 0, 0) :: c_Sheet_wholeOfBits_78
def c_Sheet_wholeOfBits_72 : List eg_I := .inl (72, 3, .ifCond .eq (7), 79, 0) :: c_Sheet_wholeOfBits_75
def c_Sheet_wholeOfBits_71 : List eg_I := .inl (71, 1, .lcmp, 0, 0) :: c_Sheet_wholeOfBits_72
def c_Sheet_wholeOfBits_70 : List eg_I := .inl (70, 1, .sipush (0), 0, 0) :: c_Sheet_wholeOfBits_71
def c_Sheet_wholeOfBits_68 : List eg_I := .inl (68, 2, .lload 8, 0, 0) :: c_Sheet_wholeOfBits_70
def c_Sheet_wholeOfBits_66 : List eg_I := .inl (66, 2, .lstore 8, 0, 0) :: c_Sheet_wholeOfBits_68
def c_Sheet_wholeOfBits_65 : List eg_I := .inl (65, 1, .land, 0, 0) :: c_Sheet_wholeOfBits_66
def c_Sheet_wholeOfBits_64 : List eg_I := .inl (64, 1, .lsub, 0, 0) :: c_Sheet_wholeOfBits_65
def c_Sheet_wholeOfBits_63 : List eg_I := .inl (63, 1, .sipush (1), 0, 0) :: c_Sheet_wholeOfBits_64
def c_Sheet_wholeOfBits_62 : List eg_I := .inl (62, 1, .lshl, 0, 0) :: c_Sheet_wholeOfBits_63
def c_Sheet_wholeOfBits_60 : List eg_I := .inl (60, 2, .iload 7, 0, 0) :: c_Sheet_wholeOfBits_62
def c_Sheet_wholeOfBits_59 : List eg_I := .inl (59, 1, .sipush (1), 0, 0) :: c_Sheet_wholeOfBits_60
def c_Sheet_wholeOfBits_57 : List eg_I := .inl (57, 2, .lload 5, 0, 0) :: c_Sheet_wholeOfBits_59
def c_Sheet_wholeOfBits_55 : List eg_I := .inl (55, 2, .istore 7, 0, 0) :: c_Sheet_wholeOfBits_57
def c_Sheet_wholeOfBits_54 : List eg_I := .inl (54, 1, .isub, 0, 0) :: c_Sheet_wholeOfBits_55
def c_Sheet_wholeOfBits_53 : List eg_I := .inl (53, 1, .iload 2, 0, 0) :: c_Sheet_wholeOfBits_54
def c_Sheet_wholeOfBits_51 : List eg_I := .inl (51, 2, .iconst (52), 0, 0) :: c_Sheet_wholeOfBits_53
def c_Sheet_wholeOfBits_49 : List eg_I := .inl (49, 2, .lstore 5, 0, 0) :: c_Sheet_wholeOfBits_51
def c_Sheet_wholeOfBits_48 : List eg_I := .inl (48, 1, .lor, 0, 0) :: c_Sheet_wholeOfBits_49
def c_Sheet_wholeOfBits_47 : List eg_I := .inl (47, 1, .lload 3, 0, 0) :: c_Sheet_wholeOfBits_48
def c_Sheet_wholeOfBits_46 : List eg_I := .inl (46, 1, .land, 0, 0) :: c_Sheet_wholeOfBits_47
def c_Sheet_wholeOfBits_45 : List eg_I := .inl (45, 1, .lsub, 0, 0) :: c_Sheet_wholeOfBits_46
def c_Sheet_wholeOfBits_44 : List eg_I := .inl (44, 1, .sipush (1), 0, 0) :: c_Sheet_wholeOfBits_45
def c_Sheet_wholeOfBits_43 : List eg_I := .inl (43, 1, .lload 3, 0, 0) :: c_Sheet_wholeOfBits_44
def c_Sheet_wholeOfBits_42 : List eg_I := .inl (42, 1, .lload 0, 0, 0) :: c_Sheet_wholeOfBits_43
def c_Sheet_wholeOfBits_41 : List eg_I := .inl (41, 1, .lstore 3, 0, 0) :: c_Sheet_wholeOfBits_42
def c_Sheet_wholeOfBits_38 : List eg_I := .inl (38, 3, .sipush (4503599627370496), 24, 0) :: c_Sheet_wholeOfBits_41
def c_Sheet_wholeOfBits_37 : List eg_I := .inl (37, 1, .ireturn, 0, 0) :: []
def c_Sheet_wholeOfBits_34 : List eg_I := .inl (34, 3, .iconst (301), 0, 0) :: c_Sheet_wholeOfBits_37
def c_Sheet_wholeOfBits_31 : List eg_I := .inl (31, 3, .if_icmp .le (7), 38, 0) :: c_Sheet_wholeOfBits_34
def c_Sheet_wholeOfBits_29 : List eg_I := .inl (29, 2, .iconst (8), 0, 0) :: c_Sheet_wholeOfBits_31
def c_Sheet_wholeOfBits_28 : List eg_I := .inl (28, 1, .iload 2, 0, 0) :: c_Sheet_wholeOfBits_29
def c_Sheet_wholeOfBits_25 : List eg_I := .inl (25, 3, .ifCond .lt (9), 34, 0) :: c_Sheet_wholeOfBits_28
def c_Sheet_wholeOfBits_24 : List eg_I := .inl (24, 1, .iload 2, 0, 0) :: c_Sheet_wholeOfBits_25
def c_Sheet_wholeOfBits_23 : List eg_I := .inl (23, 1, .istore 2, 0, 0) :: c_Sheet_wholeOfBits_24
def c_Sheet_wholeOfBits_22 : List eg_I := .inl (22, 1, .isub, 0, 0) :: c_Sheet_wholeOfBits_23
def c_Sheet_wholeOfBits_19 : List eg_I := .inl (19, 3, .iconst (1023), 0, 0) :: c_Sheet_wholeOfBits_22
def c_Sheet_wholeOfBits_18 : List eg_I := .inl (18, 1, .l2i, 0, 0) :: c_Sheet_wholeOfBits_19
def c_Sheet_wholeOfBits_17 : List eg_I := .inl (17, 1, .land, 0, 0) :: c_Sheet_wholeOfBits_18
def c_Sheet_wholeOfBits_14 : List eg_I := .inl (14, 3, .sipush (2047), 22, 0) :: c_Sheet_wholeOfBits_17
def c_Sheet_wholeOfBits_13 : List eg_I := .inl (13, 1, .lushr, 0, 0) :: c_Sheet_wholeOfBits_14
def c_Sheet_wholeOfBits_11 : List eg_I := .inl (11, 2, .iconst (52), 0, 0) :: c_Sheet_wholeOfBits_13
def c_Sheet_wholeOfBits_10 : List eg_I := .inl (10, 1, .lload 0, 0, 0) :: c_Sheet_wholeOfBits_11
def c_Sheet_wholeOfBits_9 : List eg_I := .inl (9, 1, .ireturn, 0, 0) :: []
def c_Sheet_wholeOfBits_8 : List eg_I := .inl (8, 1, .iconst (0), 0, 0) :: c_Sheet_wholeOfBits_9
def c_Sheet_wholeOfBits_5 : List eg_I := .inl (5, 3, .ifCond .ne (5), 10, 0) :: c_Sheet_wholeOfBits_8
def c_Sheet_wholeOfBits_4 : List eg_I := .inl (4, 1, .lcmp, 0, 0) :: c_Sheet_wholeOfBits_5
def c_Sheet_wholeOfBits_3 : List eg_I := .inl (3, 1, .sipush (0), 0, 0) :: c_Sheet_wholeOfBits_4
def c_Sheet_wholeOfBits_2 : List eg_I := .inl (2, 1, .lshl, 0, 0) :: c_Sheet_wholeOfBits_3
def c_Sheet_wholeOfBits_1 : List eg_I := .inl (1, 1, .iconst (1), 0, 0) :: c_Sheet_wholeOfBits_2
def c_Sheet_wholeOfBits_0 : List eg_I := .inl (0, 1, .lload 0, 0, 0) :: c_Sheet_wholeOfBits_1
section
variable {rm : Room} {K : Nat → Nat → Nat → eg_Lo → List Value → List eg_E → Prop} {Q : Option Value → List eg_E → Prop} {kc ks : Nat} {loc : eg_Lo} {st : List Value} {h : List eg_E}
theorem s_Sheet_wholeOfBits_0 {x : Int64} {l : eg_Lo} : wps rm K Q c_Sheet_wholeOfBits_0 kc ks (some (.long x) :: l) (st) h = wps rm K Q c_Sheet_wholeOfBits_1 kc ks (some (.long x) :: l) (.long x :: st) h := rfl
theorem s_Sheet_wholeOfBits_1  : wps rm K Q c_Sheet_wholeOfBits_1 kc ks loc (st) h = wps rm K Q c_Sheet_wholeOfBits_2 kc ks loc (.int (1) :: st) h := rfl
theorem s_Sheet_wholeOfBits_2 {x : Int64} {y : Int32} : wps rm K Q c_Sheet_wholeOfBits_2 kc ks loc (.int y :: .long x :: st) h = wps rm K Q c_Sheet_wholeOfBits_3 kc ks loc (.long (x <<< (y.toInt64 &&& 63)) :: st) h := rfl
theorem s_Sheet_wholeOfBits_3  : wps rm K Q c_Sheet_wholeOfBits_3 kc ks loc (st) h = wps rm K Q c_Sheet_wholeOfBits_4 kc ks loc (.long (0) :: st) h := rfl
theorem s_Sheet_wholeOfBits_4 {x y : Int64} : wps rm K Q c_Sheet_wholeOfBits_4 kc ks loc (.long y :: .long x :: st) h = wps rm K Q c_Sheet_wholeOfBits_5 kc ks loc (.int (lg_cmp x y) :: st) h := rfl
theorem s_Sheet_wholeOfBits_5 {x : Int32} : wps rm K Q c_Sheet_wholeOfBits_5 kc ks loc (.int x :: st) h = ((¬ x = 0 → K 10 kc ks loc st h) ∧ (x = 0 → wps rm K Q c_Sheet_wholeOfBits_8 kc ks loc (st) h)) := rfl
theorem s_Sheet_wholeOfBits_8  : wps rm K Q c_Sheet_wholeOfBits_8 kc ks loc (st) h = wps rm K Q c_Sheet_wholeOfBits_9 kc ks loc (.int (0) :: st) h := rfl
theorem s_Sheet_wholeOfBits_9 {x : Int32} : wps rm K Q c_Sheet_wholeOfBits_9 kc ks loc ([.int x]) h = (kc = rm.cells ∧ (0 = 1 → x = 0 ∨ x = 1) ∧ Q (some (.int x)) h) := rfl
theorem s_Sheet_wholeOfBits_10 {x : Int64} {l : eg_Lo} : wps rm K Q c_Sheet_wholeOfBits_10 kc ks (some (.long x) :: l) (st) h = wps rm K Q c_Sheet_wholeOfBits_11 kc ks (some (.long x) :: l) (.long x :: st) h := rfl
theorem s_Sheet_wholeOfBits_11  : wps rm K Q c_Sheet_wholeOfBits_11 kc ks loc (st) h = wps rm K Q c_Sheet_wholeOfBits_13 kc ks loc (.int (52) :: st) h := rfl
theorem s_Sheet_wholeOfBits_13 {x : Int64} {y : Int32} : wps rm K Q c_Sheet_wholeOfBits_13 kc ks loc (.int y :: .long x :: st) h = wps rm K Q c_Sheet_wholeOfBits_14 kc ks loc (.long ((x.toUInt64 >>> (y.toInt64.toUInt64 &&& Int64.toUInt64 63)).toInt64) :: st) h := rfl
theorem s_Sheet_wholeOfBits_14  : wps rm K Q c_Sheet_wholeOfBits_14 kc ks loc (st) h = wps rm K Q c_Sheet_wholeOfBits_17 kc ks loc (.long (2047) :: st) h := rfl
theorem s_Sheet_wholeOfBits_17 {x y : Int64} : wps rm K Q c_Sheet_wholeOfBits_17 kc ks loc (.long y :: .long x :: st) h = wps rm K Q c_Sheet_wholeOfBits_18 kc ks loc (.long (x &&& y) :: st) h := rfl
theorem s_Sheet_wholeOfBits_18 {x : Int64} : wps rm K Q c_Sheet_wholeOfBits_18 kc ks loc (.long x :: st) h = wps rm K Q c_Sheet_wholeOfBits_19 kc ks loc (.int (x.toInt32) :: st) h := rfl
theorem s_Sheet_wholeOfBits_19  : wps rm K Q c_Sheet_wholeOfBits_19 kc ks loc (st) h = wps rm K Q c_Sheet_wholeOfBits_22 kc ks loc (.int (1023) :: st) h := rfl
theorem s_Sheet_wholeOfBits_22 {x y : Int32} : wps rm K Q c_Sheet_wholeOfBits_22 kc ks loc (.int y :: .int x :: st) h = wps rm K Q c_Sheet_wholeOfBits_23 kc ks loc (.int (x - y) :: st) h := rfl
theorem s_Sheet_wholeOfBits_23 {x : Int32} : wps rm K Q c_Sheet_wholeOfBits_23 kc ks loc (.int x :: st) h = wps rm K Q c_Sheet_wholeOfBits_24 kc ks (eg_set1 loc 2 (.int x)) (st) h := rfl
theorem s_Sheet_wholeOfBits_24 {x : Int32} {l0 l1 : Option Value} {l : eg_Lo} : wps rm K Q c_Sheet_wholeOfBits_24 kc ks (l0 :: l1 :: some (.int x) :: l) (st) h = wps rm K Q c_Sheet_wholeOfBits_25 kc ks (l0 :: l1 :: some (.int x) :: l) (.int x :: st) h := rfl
theorem s_Sheet_wholeOfBits_25 {x : Int32} : wps rm K Q c_Sheet_wholeOfBits_25 kc ks loc (.int x :: st) h = ((x < 0 → K 34 kc ks loc st h) ∧ (¬ x < 0 → wps rm K Q c_Sheet_wholeOfBits_28 kc ks loc (st) h)) := rfl
theorem s_Sheet_wholeOfBits_28 {x : Int32} {l0 l1 : Option Value} {l : eg_Lo} : wps rm K Q c_Sheet_wholeOfBits_28 kc ks (l0 :: l1 :: some (.int x) :: l) (st) h = wps rm K Q c_Sheet_wholeOfBits_29 kc ks (l0 :: l1 :: some (.int x) :: l) (.int x :: st) h := rfl
theorem s_Sheet_wholeOfBits_29  : wps rm K Q c_Sheet_wholeOfBits_29 kc ks loc (st) h = wps rm K Q c_Sheet_wholeOfBits_31 kc ks loc (.int (8) :: st) h := rfl
theorem s_Sheet_wholeOfBits_31 {x y : Int32} : wps rm K Q c_Sheet_wholeOfBits_31 kc ks loc (.int y :: .int x :: st) h = ((x ≤ y → K 38 kc ks loc st h) ∧ (¬ x ≤ y → wps rm K Q c_Sheet_wholeOfBits_34 kc ks loc (st) h)) := rfl
theorem s_Sheet_wholeOfBits_34  : wps rm K Q c_Sheet_wholeOfBits_34 kc ks loc (st) h = wps rm K Q c_Sheet_wholeOfBits_37 kc ks loc (.int (301) :: st) h := rfl
theorem s_Sheet_wholeOfBits_37 {x : Int32} : wps rm K Q c_Sheet_wholeOfBits_37 kc ks loc ([.int x]) h = (kc = rm.cells ∧ (0 = 1 → x = 0 ∨ x = 1) ∧ Q (some (.int x)) h) := rfl
theorem s_Sheet_wholeOfBits_38  : wps rm K Q c_Sheet_wholeOfBits_38 kc ks loc (st) h = wps rm K Q c_Sheet_wholeOfBits_41 kc ks loc (.long (4503599627370496) :: st) h := rfl
theorem s_Sheet_wholeOfBits_41 {x : Int64} : wps rm K Q c_Sheet_wholeOfBits_41 kc ks loc (.long x :: st) h = wps rm K Q c_Sheet_wholeOfBits_42 kc ks (eg_set2 loc 3 (.long x)) (st) h := rfl
theorem s_Sheet_wholeOfBits_42 {x : Int64} {l : eg_Lo} : wps rm K Q c_Sheet_wholeOfBits_42 kc ks (some (.long x) :: l) (st) h = wps rm K Q c_Sheet_wholeOfBits_43 kc ks (some (.long x) :: l) (.long x :: st) h := rfl
theorem s_Sheet_wholeOfBits_43 {x : Int64} {l0 l1 l2 : Option Value} {l : eg_Lo} : wps rm K Q c_Sheet_wholeOfBits_43 kc ks (l0 :: l1 :: l2 :: some (.long x) :: l) (st) h = wps rm K Q c_Sheet_wholeOfBits_44 kc ks (l0 :: l1 :: l2 :: some (.long x) :: l) (.long x :: st) h := rfl
theorem s_Sheet_wholeOfBits_44  : wps rm K Q c_Sheet_wholeOfBits_44 kc ks loc (st) h = wps rm K Q c_Sheet_wholeOfBits_45 kc ks loc (.long (1) :: st) h := rfl
theorem s_Sheet_wholeOfBits_45 {x y : Int64} : wps rm K Q c_Sheet_wholeOfBits_45 kc ks loc (.long y :: .long x :: st) h = wps rm K Q c_Sheet_wholeOfBits_46 kc ks loc (.long (x - y) :: st) h := rfl
theorem s_Sheet_wholeOfBits_46 {x y : Int64} : wps rm K Q c_Sheet_wholeOfBits_46 kc ks loc (.long y :: .long x :: st) h = wps rm K Q c_Sheet_wholeOfBits_47 kc ks loc (.long (x &&& y) :: st) h := rfl
theorem s_Sheet_wholeOfBits_47 {x : Int64} {l0 l1 l2 : Option Value} {l : eg_Lo} : wps rm K Q c_Sheet_wholeOfBits_47 kc ks (l0 :: l1 :: l2 :: some (.long x) :: l) (st) h = wps rm K Q c_Sheet_wholeOfBits_48 kc ks (l0 :: l1 :: l2 :: some (.long x) :: l) (.long x :: st) h := rfl
theorem s_Sheet_wholeOfBits_48 {x y : Int64} : wps rm K Q c_Sheet_wholeOfBits_48 kc ks loc (.long y :: .long x :: st) h = wps rm K Q c_Sheet_wholeOfBits_49 kc ks loc (.long (x ||| y) :: st) h := rfl
theorem s_Sheet_wholeOfBits_49 {x : Int64} : wps rm K Q c_Sheet_wholeOfBits_49 kc ks loc (.long x :: st) h = wps rm K Q c_Sheet_wholeOfBits_51 kc ks (eg_set2 loc 5 (.long x)) (st) h := rfl
theorem s_Sheet_wholeOfBits_51  : wps rm K Q c_Sheet_wholeOfBits_51 kc ks loc (st) h = wps rm K Q c_Sheet_wholeOfBits_53 kc ks loc (.int (52) :: st) h := rfl
theorem s_Sheet_wholeOfBits_53 {x : Int32} {l0 l1 : Option Value} {l : eg_Lo} : wps rm K Q c_Sheet_wholeOfBits_53 kc ks (l0 :: l1 :: some (.int x) :: l) (st) h = wps rm K Q c_Sheet_wholeOfBits_54 kc ks (l0 :: l1 :: some (.int x) :: l) (.int x :: st) h := rfl
theorem s_Sheet_wholeOfBits_54 {x y : Int32} : wps rm K Q c_Sheet_wholeOfBits_54 kc ks loc (.int y :: .int x :: st) h = wps rm K Q c_Sheet_wholeOfBits_55 kc ks loc (.int (x - y) :: st) h := rfl
theorem s_Sheet_wholeOfBits_55 {x : Int32} : wps rm K Q c_Sheet_wholeOfBits_55 kc ks loc (.int x :: st) h = wps rm K Q c_Sheet_wholeOfBits_57 kc ks (eg_set1 loc 7 (.int x)) (st) h := rfl
theorem s_Sheet_wholeOfBits_57 {x : Int64} {l0 l1 l2 l3 l4 : Option Value} {l : eg_Lo} : wps rm K Q c_Sheet_wholeOfBits_57 kc ks (l0 :: l1 :: l2 :: l3 :: l4 :: some (.long x) :: l) (st) h = wps rm K Q c_Sheet_wholeOfBits_59 kc ks (l0 :: l1 :: l2 :: l3 :: l4 :: some (.long x) :: l) (.long x :: st) h := rfl
theorem s_Sheet_wholeOfBits_59  : wps rm K Q c_Sheet_wholeOfBits_59 kc ks loc (st) h = wps rm K Q c_Sheet_wholeOfBits_60 kc ks loc (.long (1) :: st) h := rfl
theorem s_Sheet_wholeOfBits_60 {x : Int32} {l0 l1 l2 l3 l4 l5 l6 : Option Value} {l : eg_Lo} : wps rm K Q c_Sheet_wholeOfBits_60 kc ks (l0 :: l1 :: l2 :: l3 :: l4 :: l5 :: l6 :: some (.int x) :: l) (st) h = wps rm K Q c_Sheet_wholeOfBits_62 kc ks (l0 :: l1 :: l2 :: l3 :: l4 :: l5 :: l6 :: some (.int x) :: l) (.int x :: st) h := rfl
theorem s_Sheet_wholeOfBits_62 {x : Int64} {y : Int32} : wps rm K Q c_Sheet_wholeOfBits_62 kc ks loc (.int y :: .long x :: st) h = wps rm K Q c_Sheet_wholeOfBits_63 kc ks loc (.long (x <<< (y.toInt64 &&& 63)) :: st) h := rfl
theorem s_Sheet_wholeOfBits_63  : wps rm K Q c_Sheet_wholeOfBits_63 kc ks loc (st) h = wps rm K Q c_Sheet_wholeOfBits_64 kc ks loc (.long (1) :: st) h := rfl
theorem s_Sheet_wholeOfBits_64 {x y : Int64} : wps rm K Q c_Sheet_wholeOfBits_64 kc ks loc (.long y :: .long x :: st) h = wps rm K Q c_Sheet_wholeOfBits_65 kc ks loc (.long (x - y) :: st) h := rfl
theorem s_Sheet_wholeOfBits_65 {x y : Int64} : wps rm K Q c_Sheet_wholeOfBits_65 kc ks loc (.long y :: .long x :: st) h = wps rm K Q c_Sheet_wholeOfBits_66 kc ks loc (.long (x &&& y) :: st) h := rfl
theorem s_Sheet_wholeOfBits_66 {x : Int64} : wps rm K Q c_Sheet_wholeOfBits_66 kc ks loc (.long x :: st) h = wps rm K Q c_Sheet_wholeOfBits_68 kc ks (eg_set2 loc 8 (.long x)) (st) h := rfl
theorem s_Sheet_wholeOfBits_68 {x : Int64} {l0 l1 l2 l3 l4 l5 l6 l7 : Option Value} {l : eg_Lo} : wps rm K Q c_Sheet_wholeOfBits_68 kc ks (l0 :: l1 :: l2 :: l3 :: l4 :: l5 :: l6 :: l7 :: some (.long x) :: l) (st) h = wps rm K Q c_Sheet_wholeOfBits_70 kc ks (l0 :: l1 :: l2 :: l3 :: l4 :: l5 :: l6 :: l7 :: some (.long x) :: l) (.long x :: st) h := rfl
theorem s_Sheet_wholeOfBits_70  : wps rm K Q c_Sheet_wholeOfBits_70 kc ks loc (st) h = wps rm K Q c_Sheet_wholeOfBits_71 kc ks loc (.long (0) :: st) h := rfl
theorem s_Sheet_wholeOfBits_71 {x y : Int64} : wps rm K Q c_Sheet_wholeOfBits_71 kc ks loc (.long y :: .long x :: st) h = wps rm K Q c_Sheet_wholeOfBits_72 kc ks loc (.int (lg_cmp x y) :: st) h := rfl
theorem s_Sheet_wholeOfBits_72 {x : Int32} : wps rm K Q c_Sheet_wholeOfBits_72 kc ks loc (.int x :: st) h = ((x = 0 → K 79 kc ks loc st h) ∧ (¬ x = 0 → wps rm K Q c_Sheet_wholeOfBits_75 kc ks loc (st) h)) := rfl
theorem s_Sheet_wholeOfBits_75  : wps rm K Q c_Sheet_wholeOfBits_75 kc ks loc (st) h = wps rm K Q c_Sheet_wholeOfBits_78 kc ks loc (.int (301) :: st) h := rfl
theorem s_Sheet_wholeOfBits_78 {x : Int32} : wps rm K Q c_Sheet_wholeOfBits_78 kc ks loc ([.int x]) h = (kc = rm.cells ∧ (0 = 1 → x = 0 ∨ x = 1) ∧ Q (some (.int x)) h) := rfl
theorem s_Sheet_wholeOfBits_79 {x : Int64} {l0 l1 l2 l3 l4 : Option Value} {l : eg_Lo} : wps rm K Q c_Sheet_wholeOfBits_79 kc ks (l0 :: l1 :: l2 :: l3 :: l4 :: some (.long x) :: l) (st) h = wps rm K Q c_Sheet_wholeOfBits_81 kc ks (l0 :: l1 :: l2 :: l3 :: l4 :: some (.long x) :: l) (.long x :: st) h := rfl
theorem s_Sheet_wholeOfBits_81 {x : Int32} {l0 l1 l2 l3 l4 l5 l6 : Option Value} {l : eg_Lo} : wps rm K Q c_Sheet_wholeOfBits_81 kc ks (l0 :: l1 :: l2 :: l3 :: l4 :: l5 :: l6 :: some (.int x) :: l) (st) h = wps rm K Q c_Sheet_wholeOfBits_83 kc ks (l0 :: l1 :: l2 :: l3 :: l4 :: l5 :: l6 :: some (.int x) :: l) (.int x :: st) h := rfl
theorem s_Sheet_wholeOfBits_83 {x : Int64} {y : Int32} : wps rm K Q c_Sheet_wholeOfBits_83 kc ks loc (.int y :: .long x :: st) h = wps rm K Q c_Sheet_wholeOfBits_84 kc ks loc (.long (x >>> (y.toInt64 &&& 63)) :: st) h := rfl
theorem s_Sheet_wholeOfBits_84 {x : Int64} : wps rm K Q c_Sheet_wholeOfBits_84 kc ks loc (.long x :: st) h = wps rm K Q c_Sheet_wholeOfBits_85 kc ks loc (.int (x.toInt32) :: st) h := rfl
theorem s_Sheet_wholeOfBits_85 {x : Int32} : wps rm K Q c_Sheet_wholeOfBits_85 kc ks loc (.int x :: st) h = wps rm K Q c_Sheet_wholeOfBits_87 kc ks (eg_set1 loc 10 (.int x)) (st) h := rfl
theorem s_Sheet_wholeOfBits_87 {x : Int64} {l : eg_Lo} : wps rm K Q c_Sheet_wholeOfBits_87 kc ks (some (.long x) :: l) (st) h = wps rm K Q c_Sheet_wholeOfBits_88 kc ks (some (.long x) :: l) (.long x :: st) h := rfl
theorem s_Sheet_wholeOfBits_88  : wps rm K Q c_Sheet_wholeOfBits_88 kc ks loc (st) h = wps rm K Q c_Sheet_wholeOfBits_89 kc ks loc (.long (0) :: st) h := rfl
theorem s_Sheet_wholeOfBits_89 {x y : Int64} : wps rm K Q c_Sheet_wholeOfBits_89 kc ks loc (.long y :: .long x :: st) h = wps rm K Q c_Sheet_wholeOfBits_90 kc ks loc (.int (lg_cmp x y) :: st) h := rfl
theorem s_Sheet_wholeOfBits_90 {x : Int32} : wps rm K Q c_Sheet_wholeOfBits_90 kc ks loc (.int x :: st) h = ((0 ≤ x → K 99 kc ks loc st h) ∧ (¬ 0 ≤ x → wps rm K Q c_Sheet_wholeOfBits_93 kc ks loc (st) h)) := rfl
theorem s_Sheet_wholeOfBits_93 {x : Int32} {l0 l1 l2 l3 l4 l5 l6 l7 l8 l9 : Option Value} {l : eg_Lo} : wps rm K Q c_Sheet_wholeOfBits_93 kc ks (l0 :: l1 :: l2 :: l3 :: l4 :: l5 :: l6 :: l7 :: l8 :: l9 :: some (.int x) :: l) (st) h = wps rm K Q c_Sheet_wholeOfBits_95 kc ks (l0 :: l1 :: l2 :: l3 :: l4 :: l5 :: l6 :: l7 :: l8 :: l9 :: some (.int x) :: l) (.int x :: st) h := rfl
theorem s_Sheet_wholeOfBits_95 {x : Int32} : wps rm K Q c_Sheet_wholeOfBits_95 kc ks loc (.int x :: st) h = wps rm K Q c_Sheet_wholeOfBits_96 kc ks loc (.int (-x) :: st) h := rfl
theorem s_Sheet_wholeOfBits_96  : wps rm K Q c_Sheet_wholeOfBits_96 kc ks loc (st) h = K 101 kc ks loc st h := rfl
theorem s_Sheet_wholeOfBits_99 {x : Int32} {l0 l1 l2 l3 l4 l5 l6 l7 l8 l9 : Option Value} {l : eg_Lo} : wps rm K Q c_Sheet_wholeOfBits_99 kc ks (l0 :: l1 :: l2 :: l3 :: l4 :: l5 :: l6 :: l7 :: l8 :: l9 :: some (.int x) :: l) (st) h = wps rm K Q c_Sheet_wholeOfBits_101 kc ks (l0 :: l1 :: l2 :: l3 :: l4 :: l5 :: l6 :: l7 :: l8 :: l9 :: some (.int x) :: l) (.int x :: st) h := rfl
theorem s_Sheet_wholeOfBits_101 {x : Int32} : wps rm K Q c_Sheet_wholeOfBits_101 kc ks loc ([.int x]) h = (kc = rm.cells ∧ (0 = 1 → x = 0 ∨ x = 1) ∧ Q (some (.int x)) h) := rfl
def T_Sheet_wholeOfBits : List (Nat × List eg_I) := [(10, c_Sheet_wholeOfBits_10), (34, c_Sheet_wholeOfBits_34), (38, c_Sheet_wholeOfBits_38), (79, c_Sheet_wholeOfBits_79), (99, c_Sheet_wholeOfBits_99), (101, c_Sheet_wholeOfBits_101)]
theorem j_Sheet_wholeOfBits_10 {R : Nat → Nat → Nat → eg_Lo → List Value → List eg_E → Prop} {f pc0 : Nat} : eg_run rm R Q T_Sheet_wholeOfBits (f + 1) 10 kc ks loc st h = wps rm (eg_run rm R Q T_Sheet_wholeOfBits f) Q c_Sheet_wholeOfBits_10 kc ks loc st h := rfl
theorem j_Sheet_wholeOfBits_34 {R : Nat → Nat → Nat → eg_Lo → List Value → List eg_E → Prop} {f pc0 : Nat} : eg_run rm R Q T_Sheet_wholeOfBits (f + 1) 34 kc ks loc st h = wps rm (eg_run rm R Q T_Sheet_wholeOfBits f) Q c_Sheet_wholeOfBits_34 kc ks loc st h := rfl
theorem j_Sheet_wholeOfBits_38 {R : Nat → Nat → Nat → eg_Lo → List Value → List eg_E → Prop} {f pc0 : Nat} : eg_run rm R Q T_Sheet_wholeOfBits (f + 1) 38 kc ks loc st h = wps rm (eg_run rm R Q T_Sheet_wholeOfBits f) Q c_Sheet_wholeOfBits_38 kc ks loc st h := rfl
theorem j_Sheet_wholeOfBits_79 {R : Nat → Nat → Nat → eg_Lo → List Value → List eg_E → Prop} {f pc0 : Nat} : eg_run rm R Q T_Sheet_wholeOfBits (f + 1) 79 kc ks loc st h = wps rm (eg_run rm R Q T_Sheet_wholeOfBits f) Q c_Sheet_wholeOfBits_79 kc ks loc st h := rfl
theorem j_Sheet_wholeOfBits_99 {R : Nat → Nat → Nat → eg_Lo → List Value → List eg_E → Prop} {f pc0 : Nat} : eg_run rm R Q T_Sheet_wholeOfBits (f + 1) 99 kc ks loc st h = wps rm (eg_run rm R Q T_Sheet_wholeOfBits f) Q c_Sheet_wholeOfBits_99 kc ks loc st h := rfl
theorem j_Sheet_wholeOfBits_101 {R : Nat → Nat → Nat → eg_Lo → List Value → List eg_E → Prop} {f pc0 : Nat} : eg_run rm R Q T_Sheet_wholeOfBits (f + 1) 101 kc ks loc st h = wps rm (eg_run rm R Q T_Sheet_wholeOfBits f) Q c_Sheet_wholeOfBits_101 kc ks loc st h := rfl
end
theorem q_Sheet_wholeOfBits : (T_Sheet_wholeOfBits.all fun q => eg_seq m_Sheet_wholeOfBits q.1 q.2) = true := by decide +kernel
theorem b_Sheet_wholeOfBits {as : List Value} {h : List eg_E} {Q : Option Value → List eg_E → Prop} (hf : (eg_fl as).length ≤ 11) (hw : wps (eg_rm m_Sheet_wholeOfBits) (eg_run (eg_rm m_Sheet_wholeOfBits) (eg_R m_Sheet_wholeOfBits Q (h.length + 0)) Q T_Sheet_wholeOfBits 8) Q c_Sheet_wholeOfBits_0 0 0 (eg_entry 11 as) [] h) : eg_Runs n_Sheet_wholeOfBits as h Q := eg_begin (d := m_Sheet_wholeOfBits) rfl (by decide) (by decide +kernel) q_Sheet_wholeOfBits hf hw
/-! ===== Tou_init ===== -/
def c_Tou_init_36 : List eg_I := .inl (36, 1, .return_, 0, 0) :: []
def c_Tou_init_33 : List eg_I := .inl (33, 3, .putfield 21, 10, 3) :: c_Tou_init_36
def c_Tou_init_31 : List eg_I := .inl (31, 2, .newarray .int, 0, 0) :: c_Tou_init_33
def c_Tou_init_29 : List eg_I := .inl (29, 2, .iconst (16), 0, 0) :: c_Tou_init_31
def c_Tou_init_28 : List eg_I := .inl (28, 1, .aload 0, 0, 0) :: c_Tou_init_29
def c_Tou_init_25 : List eg_I := .inl (25, 3, .putfield 18, 10, 2) :: c_Tou_init_28
def c_Tou_init_23 : List eg_I := .inl (23, 2, .newarray .int, 0, 0) :: c_Tou_init_25
def c_Tou_init_21 : List eg_I := .inl (21, 2, .iconst (16), 0, 0) :: c_Tou_init_23
def c_Tou_init_20 : List eg_I := .inl (20, 1, .aload 0, 0, 0) :: c_Tou_init_21
def c_Tou_init_17 : List eg_I := .inl (17, 3, .putfield 15, 10, 1) :: c_Tou_init_20
def c_Tou_init_15 : List eg_I := .inl (15, 2, .newarray .int, 0, 0) :: c_Tou_init_17
def c_Tou_init_13 : List eg_I := .inl (13, 2, .iconst (16), 0, 0) :: c_Tou_init_15
def c_Tou_init_12 : List eg_I := .inl (12, 1, .aload 0, 0, 0) :: c_Tou_init_13
def c_Tou_init_9 : List eg_I := .inl (9, 3, .putfield 9, 10, 0) :: c_Tou_init_12
def c_Tou_init_7 : List eg_I := .inl (7, 2, .newarray .int, 0, 0) :: c_Tou_init_9
def c_Tou_init_5 : List eg_I := .inl (5, 2, .iconst (16), 0, 0) :: c_Tou_init_7
def c_Tou_init_4 : List eg_I := .inl (4, 1, .aload 0, 0, 0) :: c_Tou_init_5
def c_Tou_init_1 : List eg_I := .inl (1, 3, .athrow, 3, 0) :: c_Tou_init_4
def c_Tou_init_0 : List eg_I := .inl (0, 1, .aload 0, 0, 0) :: c_Tou_init_1
section
variable {rm : Room} {K : Nat → Nat → Nat → eg_Lo → List Value → List eg_E → Prop} {Q : Option Value → List eg_E → Prop} {kc ks : Nat} {loc : eg_Lo} {st : List Value} {h : List eg_E}
theorem s_Tou_init_0 {x : Nat} {l : eg_Lo} : wps rm K Q c_Tou_init_0 kc ks (some (.ref x) :: l) (st) h = wps rm K Q c_Tou_init_1 kc ks (some (.ref x) :: l) (.ref x :: st) h := rfl
theorem s_Tou_init_1 {x : Nat} : wps rm K Q c_Tou_init_1 kc ks loc (.ref (x + 1) :: st) h = (st.length ≤ 4 ∧ wps rm K Q c_Tou_init_4 kc ks loc (st) h) := rfl
theorem s_Tou_init_4 {x : Nat} {l : eg_Lo} : wps rm K Q c_Tou_init_4 kc ks (some (.ref x) :: l) (st) h = wps rm K Q c_Tou_init_5 kc ks (some (.ref x) :: l) (.ref x :: st) h := rfl
theorem s_Tou_init_5  : wps rm K Q c_Tou_init_5 kc ks loc (st) h = wps rm K Q c_Tou_init_7 kc ks loc (.int (16) :: st) h := rfl
theorem s_Tou_init_7 {x : Int32} : wps rm K Q c_Tou_init_7 kc ks loc (.int x :: st) h = (¬ x < 0 ∧ x.toNatClampNeg ≤ 1000 ∧ kc + 1 ≤ rm.cells ∧ ks + x.toNatClampNeg ≤ rm.slots ∧ wps rm K Q c_Tou_init_9 (kc + 1) (ks + x.toNatClampNeg) loc (.ref (h.length + 1) :: st) (h ++ [.inl (0, eg_zero 0 x.toNatClampNeg)])) := rfl
theorem s_Tou_init_9 {x : Nat} {v : Value} : wps rm K Q c_Tou_init_9 kc ks loc (v :: .ref (x + 1) :: st) h = eg_pf h x 10 0 v (fun h9 => wps rm K Q c_Tou_init_12 kc ks loc (st) h9) := rfl
theorem s_Tou_init_12 {x : Nat} {l : eg_Lo} : wps rm K Q c_Tou_init_12 kc ks (some (.ref x) :: l) (st) h = wps rm K Q c_Tou_init_13 kc ks (some (.ref x) :: l) (.ref x :: st) h := rfl
theorem s_Tou_init_13  : wps rm K Q c_Tou_init_13 kc ks loc (st) h = wps rm K Q c_Tou_init_15 kc ks loc (.int (16) :: st) h := rfl
theorem s_Tou_init_15 {x : Int32} : wps rm K Q c_Tou_init_15 kc ks loc (.int x :: st) h = (¬ x < 0 ∧ x.toNatClampNeg ≤ 1000 ∧ kc + 1 ≤ rm.cells ∧ ks + x.toNatClampNeg ≤ rm.slots ∧ wps rm K Q c_Tou_init_17 (kc + 1) (ks + x.toNatClampNeg) loc (.ref (h.length + 1) :: st) (h ++ [.inl (0, eg_zero 0 x.toNatClampNeg)])) := rfl
theorem s_Tou_init_17 {x : Nat} {v : Value} : wps rm K Q c_Tou_init_17 kc ks loc (v :: .ref (x + 1) :: st) h = eg_pf h x 10 1 v (fun h9 => wps rm K Q c_Tou_init_20 kc ks loc (st) h9) := rfl
theorem s_Tou_init_20 {x : Nat} {l : eg_Lo} : wps rm K Q c_Tou_init_20 kc ks (some (.ref x) :: l) (st) h = wps rm K Q c_Tou_init_21 kc ks (some (.ref x) :: l) (.ref x :: st) h := rfl
theorem s_Tou_init_21  : wps rm K Q c_Tou_init_21 kc ks loc (st) h = wps rm K Q c_Tou_init_23 kc ks loc (.int (16) :: st) h := rfl
theorem s_Tou_init_23 {x : Int32} : wps rm K Q c_Tou_init_23 kc ks loc (.int x :: st) h = (¬ x < 0 ∧ x.toNatClampNeg ≤ 1000 ∧ kc + 1 ≤ rm.cells ∧ ks + x.toNatClampNeg ≤ rm.slots ∧ wps rm K Q c_Tou_init_25 (kc + 1) (ks + x.toNatClampNeg) loc (.ref (h.length + 1) :: st) (h ++ [.inl (0, eg_zero 0 x.toNatClampNeg)])) := rfl
theorem s_Tou_init_25 {x : Nat} {v : Value} : wps rm K Q c_Tou_init_25 kc ks loc (v :: .ref (x + 1) :: st) h = eg_pf h x 10 2 v (fun h9 => wps rm K Q c_Tou_init_28 kc ks loc (st) h9) := rfl
theorem s_Tou_init_28 {x : Nat} {l : eg_Lo} : wps rm K Q c_Tou_init_28 kc ks (some (.ref x) :: l) (st) h = wps rm K Q c_Tou_init_29 kc ks (some (.ref x) :: l) (.ref x :: st) h := rfl
theorem s_Tou_init_29  : wps rm K Q c_Tou_init_29 kc ks loc (st) h = wps rm K Q c_Tou_init_31 kc ks loc (.int (16) :: st) h := rfl
theorem s_Tou_init_31 {x : Int32} : wps rm K Q c_Tou_init_31 kc ks loc (.int x :: st) h = (¬ x < 0 ∧ x.toNatClampNeg ≤ 1000 ∧ kc + 1 ≤ rm.cells ∧ ks + x.toNatClampNeg ≤ rm.slots ∧ wps rm K Q c_Tou_init_33 (kc + 1) (ks + x.toNatClampNeg) loc (.ref (h.length + 1) :: st) (h ++ [.inl (0, eg_zero 0 x.toNatClampNeg)])) := rfl
theorem s_Tou_init_33 {x : Nat} {v : Value} : wps rm K Q c_Tou_init_33 kc ks loc (v :: .ref (x + 1) :: st) h = eg_pf h x 10 3 v (fun h9 => wps rm K Q c_Tou_init_36 kc ks loc (st) h9) := rfl
theorem s_Tou_init_36  : wps rm K Q c_Tou_init_36 kc ks loc ([]) h = (kc = rm.cells ∧ Q none h) := rfl
def T_Tou_init : List (Nat × List eg_I) := []
end
theorem q_Tou_init : (T_Tou_init.all fun q => eg_seq m_Tou_init q.1 q.2) = true := by decide +kernel
theorem b_Tou_init {as : List Value} {h : List eg_E} {Q : Option Value → List eg_E → Prop} (hf : (eg_fl as).length ≤ 1) (hw : wps (eg_rm m_Tou_init) (eg_run (eg_rm m_Tou_init) (eg_R m_Tou_init Q (h.length + 4)) Q T_Tou_init 2) Q c_Tou_init_0 0 0 (eg_entry 1 as) [] h) : eg_Runs n_Tou_init as h Q := eg_begin (d := m_Tou_init) rfl (by decide) (by decide +kernel) q_Tou_init hf hw
/-! ===== Tou_gather ===== -/
def c_Tou_gather_95 : List eg_I := .inl (95, 1, .return_, 0, 0) :: []
def c_Tou_gather_92 : List eg_I := .inl (92, 3, .goto (-85), 7, 0) :: []
def c_Tou_gather_89 : List eg_I := .inl (89, 3, .iinc 2 (1), 0, 0) :: c_Tou_gather_92
def c_Tou_gather_86 : List eg_I := .inl (86, 3, .putfield 24, 10, 4) :: c_Tou_gather_89
def c_Tou_gather_85 : List eg_I := .inl (85, 1, .iadd, 0, 0) :: c_Tou_gather_86
def c_Tou_gather_84 : List eg_I := .inl (84, 1, .iconst (1), 0, 0) :: c_Tou_gather_85
def c_Tou_gather_81 : List eg_I := .inl (81, 3, .getfield 24, 10, 4) :: c_Tou_gather_84
def c_Tou_gather_80 : List eg_I := .inl (80, 1, .dup, 0, 0) :: c_Tou_gather_81
def c_Tou_gather_79 : List eg_I := .inl (79, 1, .aload 0, 0, 0) :: c_Tou_gather_80
def c_Tou_gather_78 : List eg_I := .inl (78, 1, .iastore, 0, 0) :: c_Tou_gather_79
def c_Tou_gather_77 : List eg_I := .inl (77, 1, .iload 2, 0, 0) :: c_Tou_gather_78
def c_Tou_gather_74 : List eg_I := .inl (74, 3, .getfield 24, 10, 4) :: c_Tou_gather_77
def c_Tou_gather_73 : List eg_I := .inl (73, 1, .aload 0, 0, 0) :: c_Tou_gather_74
def c_Tou_gather_70 : List eg_I := .inl (70, 3, .getfield 21, 10, 3) :: c_Tou_gather_73
def c_Tou_gather_69 : List eg_I := .inl (69, 1, .aload 0, 0, 0) :: c_Tou_gather_70
def c_Tou_gather_68 : List eg_I := .inl (68, 1, .iastore, 0, 0) :: c_Tou_gather_69
def c_Tou_gather_67 : List eg_I := .inl (67, 1, .iaload, 0, 0) :: c_Tou_gather_68
def c_Tou_gather_66 : List eg_I := .inl (66, 1, .iload 2, 0, 0) :: c_Tou_gather_67
def c_Tou_gather_63 : List eg_I := .inl (63, 3, .getfield 37, 8, 2) :: c_Tou_gather_66
def c_Tou_gather_62 : List eg_I := .inl (62, 1, .aload 1, 0, 0) :: c_Tou_gather_63
def c_Tou_gather_59 : List eg_I := .inl (59, 3, .getfield 24, 10, 4) :: c_Tou_gather_62
def c_Tou_gather_58 : List eg_I := .inl (58, 1, .aload 0, 0, 0) :: c_Tou_gather_59
def c_Tou_gather_55 : List eg_I := .inl (55, 3, .getfield 18, 10, 2) :: c_Tou_gather_58
def c_Tou_gather_54 : List eg_I := .inl (54, 1, .aload 0, 0, 0) :: c_Tou_gather_55
def c_Tou_gather_53 : List eg_I := .inl (53, 1, .iastore, 0, 0) :: c_Tou_gather_54
def c_Tou_gather_52 : List eg_I := .inl (52, 1, .iaload, 0, 0) :: c_Tou_gather_53
def c_Tou_gather_51 : List eg_I := .inl (51, 1, .iload 2, 0, 0) :: c_Tou_gather_52
def c_Tou_gather_48 : List eg_I := .inl (48, 3, .getfield 36, 8, 1) :: c_Tou_gather_51
def c_Tou_gather_47 : List eg_I := .inl (47, 1, .aload 1, 0, 0) :: c_Tou_gather_48
def c_Tou_gather_44 : List eg_I := .inl (44, 3, .getfield 24, 10, 4) :: c_Tou_gather_47
def c_Tou_gather_43 : List eg_I := .inl (43, 1, .aload 0, 0, 0) :: c_Tou_gather_44
def c_Tou_gather_40 : List eg_I := .inl (40, 3, .getfield 15, 10, 1) :: c_Tou_gather_43
def c_Tou_gather_39 : List eg_I := .inl (39, 1, .aload 0, 0, 0) :: c_Tou_gather_40
def c_Tou_gather_38 : List eg_I := .inl (38, 1, .iastore, 0, 0) :: c_Tou_gather_39
def c_Tou_gather_37 : List eg_I := .inl (37, 1, .iaload, 0, 0) :: c_Tou_gather_38
def c_Tou_gather_36 : List eg_I := .inl (36, 1, .iload 2, 0, 0) :: c_Tou_gather_37
def c_Tou_gather_33 : List eg_I := .inl (33, 3, .getfield 35, 8, 0) :: c_Tou_gather_36
def c_Tou_gather_32 : List eg_I := .inl (32, 1, .aload 1, 0, 0) :: c_Tou_gather_33
def c_Tou_gather_29 : List eg_I := .inl (29, 3, .getfield 24, 10, 4) :: c_Tou_gather_32
def c_Tou_gather_28 : List eg_I := .inl (28, 1, .aload 0, 0, 0) :: c_Tou_gather_29
def c_Tou_gather_25 : List eg_I := .inl (25, 3, .getfield 9, 10, 0) :: c_Tou_gather_28
def c_Tou_gather_24 : List eg_I := .inl (24, 1, .aload 0, 0, 0) :: c_Tou_gather_25
def c_Tou_gather_21 : List eg_I := .inl (21, 3, .ifCond .ne (68), 89, 0) :: c_Tou_gather_24
def c_Tou_gather_20 : List eg_I := .inl (20, 1, .baload, 0, 0) :: c_Tou_gather_21
def c_Tou_gather_19 : List eg_I := .inl (19, 1, .iload 2, 0, 0) :: c_Tou_gather_20
def c_Tou_gather_16 : List eg_I := .inl (16, 3, .getfield 31, 8, 3) :: c_Tou_gather_19
def c_Tou_gather_15 : List eg_I := .inl (15, 1, .aload 1, 0, 0) :: c_Tou_gather_16
def c_Tou_gather_12 : List eg_I := .inl (12, 3, .if_icmp .ge (83), 95, 0) :: c_Tou_gather_15
def c_Tou_gather_9 : List eg_I := .inl (9, 3, .getfield 28, 8, 4) :: c_Tou_gather_12
def c_Tou_gather_8 : List eg_I := .inl (8, 1, .aload 1, 0, 0) :: c_Tou_gather_9
def c_Tou_gather_7 : List eg_I := .inl (7, 1, .iload 2, 0, 0) :: c_Tou_gather_8
def c_Tou_gather_6 : List eg_I := .inl (6, 1, .istore 2, 0, 0) :: [.inl (7, 0, .nop, 0, 0)]
def c_Tou_gather_5 : List eg_I := .inl (5, 1, .iconst (0), 0, 0) :: c_Tou_gather_6
def c_Tou_gather_2 : List eg_I := .inl (2, 3, .putfield 24, 10, 4) :: c_Tou_gather_5
def c_Tou_gather_1 : List eg_I := .inl (1, 1, .iconst (0), 0, 0) :: c_Tou_gather_2
def c_Tou_gather_0 : List eg_I := .inl (0, 1, .aload 0, 0, 0) :: c_Tou_gather_1
section
variable {rm : Room} {K : Nat → Nat → Nat → eg_Lo → List Value → List eg_E → Prop} {Q : Option Value → List eg_E → Prop} {kc ks : Nat} {loc : eg_Lo} {st : List Value} {h : List eg_E}
theorem s_Tou_gather_0 {x : Nat} {l : eg_Lo} : wps rm K Q c_Tou_gather_0 kc ks (some (.ref x) :: l) (st) h = wps rm K Q c_Tou_gather_1 kc ks (some (.ref x) :: l) (.ref x :: st) h := rfl
theorem s_Tou_gather_1  : wps rm K Q c_Tou_gather_1 kc ks loc (st) h = wps rm K Q c_Tou_gather_2 kc ks loc (.int (0) :: st) h := rfl
theorem s_Tou_gather_2 {x : Nat} {v : Value} : wps rm K Q c_Tou_gather_2 kc ks loc (v :: .ref (x + 1) :: st) h = eg_pf h x 10 4 v (fun h9 => wps rm K Q c_Tou_gather_5 kc ks loc (st) h9) := rfl
theorem s_Tou_gather_5  : wps rm K Q c_Tou_gather_5 kc ks loc (st) h = wps rm K Q c_Tou_gather_6 kc ks loc (.int (0) :: st) h := rfl
theorem s_Tou_gather_6 {x : Int32} : wps rm K Q c_Tou_gather_6 kc ks loc (.int x :: st) h = K 7 kc ks (eg_set1 loc 2 (.int x)) (st) h := rfl
theorem s_Tou_gather_7 {x : Int32} {l0 l1 : Option Value} {l : eg_Lo} : wps rm K Q c_Tou_gather_7 kc ks (l0 :: l1 :: some (.int x) :: l) (st) h = wps rm K Q c_Tou_gather_8 kc ks (l0 :: l1 :: some (.int x) :: l) (.int x :: st) h := rfl
theorem s_Tou_gather_8 {x : Nat} {l0 : Option Value} {l : eg_Lo} : wps rm K Q c_Tou_gather_8 kc ks (l0 :: some (.ref x) :: l) (st) h = wps rm K Q c_Tou_gather_9 kc ks (l0 :: some (.ref x) :: l) (.ref x :: st) h := rfl
theorem s_Tou_gather_9 {x : Nat} : wps rm K Q c_Tou_gather_9 kc ks loc (.ref (x + 1) :: st) h = eg_gf h x 8 4 (fun v => wps rm K Q c_Tou_gather_12 kc ks loc (v :: st) h) := rfl
theorem s_Tou_gather_12 {x y : Int32} : wps rm K Q c_Tou_gather_12 kc ks loc (.int y :: .int x :: st) h = ((y ≤ x → K 95 kc ks loc st h) ∧ (¬ y ≤ x → wps rm K Q c_Tou_gather_15 kc ks loc (st) h)) := rfl
theorem s_Tou_gather_15 {x : Nat} {l0 : Option Value} {l : eg_Lo} : wps rm K Q c_Tou_gather_15 kc ks (l0 :: some (.ref x) :: l) (st) h = wps rm K Q c_Tou_gather_16 kc ks (l0 :: some (.ref x) :: l) (.ref x :: st) h := rfl
theorem s_Tou_gather_16 {x : Nat} : wps rm K Q c_Tou_gather_16 kc ks loc (.ref (x + 1) :: st) h = eg_gf h x 8 3 (fun v => wps rm K Q c_Tou_gather_19 kc ks loc (v :: st) h) := rfl
theorem s_Tou_gather_19 {x : Int32} {l0 l1 : Option Value} {l : eg_Lo} : wps rm K Q c_Tou_gather_19 kc ks (l0 :: l1 :: some (.int x) :: l) (st) h = wps rm K Q c_Tou_gather_20 kc ks (l0 :: l1 :: some (.int x) :: l) (.int x :: st) h := rfl
theorem s_Tou_gather_20 {x : Nat} {i : Int32} : wps rm K Q c_Tou_gather_20 kc ks loc (.int i :: .ref (x + 1) :: st) h = eg_ba h x i (fun v => wps rm K Q c_Tou_gather_21 kc ks loc (.int v :: st) h) := rfl
theorem s_Tou_gather_21 {x : Int32} : wps rm K Q c_Tou_gather_21 kc ks loc (.int x :: st) h = ((¬ x = 0 → K 89 kc ks loc st h) ∧ (x = 0 → wps rm K Q c_Tou_gather_24 kc ks loc (st) h)) := rfl
theorem s_Tou_gather_24 {x : Nat} {l : eg_Lo} : wps rm K Q c_Tou_gather_24 kc ks (some (.ref x) :: l) (st) h = wps rm K Q c_Tou_gather_25 kc ks (some (.ref x) :: l) (.ref x :: st) h := rfl
theorem s_Tou_gather_25 {x : Nat} : wps rm K Q c_Tou_gather_25 kc ks loc (.ref (x + 1) :: st) h = eg_gf h x 10 0 (fun v => wps rm K Q c_Tou_gather_28 kc ks loc (v :: st) h) := rfl
theorem s_Tou_gather_28 {x : Nat} {l : eg_Lo} : wps rm K Q c_Tou_gather_28 kc ks (some (.ref x) :: l) (st) h = wps rm K Q c_Tou_gather_29 kc ks (some (.ref x) :: l) (.ref x :: st) h := rfl
theorem s_Tou_gather_29 {x : Nat} : wps rm K Q c_Tou_gather_29 kc ks loc (.ref (x + 1) :: st) h = eg_gf h x 10 4 (fun v => wps rm K Q c_Tou_gather_32 kc ks loc (v :: st) h) := rfl
theorem s_Tou_gather_32 {x : Nat} {l0 : Option Value} {l : eg_Lo} : wps rm K Q c_Tou_gather_32 kc ks (l0 :: some (.ref x) :: l) (st) h = wps rm K Q c_Tou_gather_33 kc ks (l0 :: some (.ref x) :: l) (.ref x :: st) h := rfl
theorem s_Tou_gather_33 {x : Nat} : wps rm K Q c_Tou_gather_33 kc ks loc (.ref (x + 1) :: st) h = eg_gf h x 8 0 (fun v => wps rm K Q c_Tou_gather_36 kc ks loc (v :: st) h) := rfl
theorem s_Tou_gather_36 {x : Int32} {l0 l1 : Option Value} {l : eg_Lo} : wps rm K Q c_Tou_gather_36 kc ks (l0 :: l1 :: some (.int x) :: l) (st) h = wps rm K Q c_Tou_gather_37 kc ks (l0 :: l1 :: some (.int x) :: l) (.int x :: st) h := rfl
theorem s_Tou_gather_37 {x : Nat} {i : Int32} : wps rm K Q c_Tou_gather_37 kc ks loc (.int i :: .ref (x + 1) :: st) h = eg_ia h x i (fun v => wps rm K Q c_Tou_gather_38 kc ks loc (.int v :: st) h) := rfl
theorem s_Tou_gather_38 {x : Nat} {i : Int32} {v : Int32} : wps rm K Q c_Tou_gather_38 kc ks loc (.int v :: .int i :: .ref (x + 1) :: st) h = eg_is h x i v (fun h9 => wps rm K Q c_Tou_gather_39 kc ks loc (st) h9) := rfl
theorem s_Tou_gather_39 {x : Nat} {l : eg_Lo} : wps rm K Q c_Tou_gather_39 kc ks (some (.ref x) :: l) (st) h = wps rm K Q c_Tou_gather_40 kc ks (some (.ref x) :: l) (.ref x :: st) h := rfl
theorem s_Tou_gather_40 {x : Nat} : wps rm K Q c_Tou_gather_40 kc ks loc (.ref (x + 1) :: st) h = eg_gf h x 10 1 (fun v => wps rm K Q c_Tou_gather_43 kc ks loc (v :: st) h) := rfl
theorem s_Tou_gather_43 {x : Nat} {l : eg_Lo} : wps rm K Q c_Tou_gather_43 kc ks (some (.ref x) :: l) (st) h = wps rm K Q c_Tou_gather_44 kc ks (some (.ref x) :: l) (.ref x :: st) h := rfl
theorem s_Tou_gather_44 {x : Nat} : wps rm K Q c_Tou_gather_44 kc ks loc (.ref (x + 1) :: st) h = eg_gf h x 10 4 (fun v => wps rm K Q c_Tou_gather_47 kc ks loc (v :: st) h) := rfl
theorem s_Tou_gather_47 {x : Nat} {l0 : Option Value} {l : eg_Lo} : wps rm K Q c_Tou_gather_47 kc ks (l0 :: some (.ref x) :: l) (st) h = wps rm K Q c_Tou_gather_48 kc ks (l0 :: some (.ref x) :: l) (.ref x :: st) h := rfl
theorem s_Tou_gather_48 {x : Nat} : wps rm K Q c_Tou_gather_48 kc ks loc (.ref (x + 1) :: st) h = eg_gf h x 8 1 (fun v => wps rm K Q c_Tou_gather_51 kc ks loc (v :: st) h) := rfl
theorem s_Tou_gather_51 {x : Int32} {l0 l1 : Option Value} {l : eg_Lo} : wps rm K Q c_Tou_gather_51 kc ks (l0 :: l1 :: some (.int x) :: l) (st) h = wps rm K Q c_Tou_gather_52 kc ks (l0 :: l1 :: some (.int x) :: l) (.int x :: st) h := rfl
theorem s_Tou_gather_52 {x : Nat} {i : Int32} : wps rm K Q c_Tou_gather_52 kc ks loc (.int i :: .ref (x + 1) :: st) h = eg_ia h x i (fun v => wps rm K Q c_Tou_gather_53 kc ks loc (.int v :: st) h) := rfl
theorem s_Tou_gather_53 {x : Nat} {i : Int32} {v : Int32} : wps rm K Q c_Tou_gather_53 kc ks loc (.int v :: .int i :: .ref (x + 1) :: st) h = eg_is h x i v (fun h9 => wps rm K Q c_Tou_gather_54 kc ks loc (st) h9) := rfl
theorem s_Tou_gather_54 {x : Nat} {l : eg_Lo} : wps rm K Q c_Tou_gather_54 kc ks (some (.ref x) :: l) (st) h = wps rm K Q c_Tou_gather_55 kc ks (some (.ref x) :: l) (.ref x :: st) h := rfl
theorem s_Tou_gather_55 {x : Nat} : wps rm K Q c_Tou_gather_55 kc ks loc (.ref (x + 1) :: st) h = eg_gf h x 10 2 (fun v => wps rm K Q c_Tou_gather_58 kc ks loc (v :: st) h) := rfl
theorem s_Tou_gather_58 {x : Nat} {l : eg_Lo} : wps rm K Q c_Tou_gather_58 kc ks (some (.ref x) :: l) (st) h = wps rm K Q c_Tou_gather_59 kc ks (some (.ref x) :: l) (.ref x :: st) h := rfl
theorem s_Tou_gather_59 {x : Nat} : wps rm K Q c_Tou_gather_59 kc ks loc (.ref (x + 1) :: st) h = eg_gf h x 10 4 (fun v => wps rm K Q c_Tou_gather_62 kc ks loc (v :: st) h) := rfl
theorem s_Tou_gather_62 {x : Nat} {l0 : Option Value} {l : eg_Lo} : wps rm K Q c_Tou_gather_62 kc ks (l0 :: some (.ref x) :: l) (st) h = wps rm K Q c_Tou_gather_63 kc ks (l0 :: some (.ref x) :: l) (.ref x :: st) h := rfl
theorem s_Tou_gather_63 {x : Nat} : wps rm K Q c_Tou_gather_63 kc ks loc (.ref (x + 1) :: st) h = eg_gf h x 8 2 (fun v => wps rm K Q c_Tou_gather_66 kc ks loc (v :: st) h) := rfl
theorem s_Tou_gather_66 {x : Int32} {l0 l1 : Option Value} {l : eg_Lo} : wps rm K Q c_Tou_gather_66 kc ks (l0 :: l1 :: some (.int x) :: l) (st) h = wps rm K Q c_Tou_gather_67 kc ks (l0 :: l1 :: some (.int x) :: l) (.int x :: st) h := rfl
theorem s_Tou_gather_67 {x : Nat} {i : Int32} : wps rm K Q c_Tou_gather_67 kc ks loc (.int i :: .ref (x + 1) :: st) h = eg_ia h x i (fun v => wps rm K Q c_Tou_gather_68 kc ks loc (.int v :: st) h) := rfl
theorem s_Tou_gather_68 {x : Nat} {i : Int32} {v : Int32} : wps rm K Q c_Tou_gather_68 kc ks loc (.int v :: .int i :: .ref (x + 1) :: st) h = eg_is h x i v (fun h9 => wps rm K Q c_Tou_gather_69 kc ks loc (st) h9) := rfl
theorem s_Tou_gather_69 {x : Nat} {l : eg_Lo} : wps rm K Q c_Tou_gather_69 kc ks (some (.ref x) :: l) (st) h = wps rm K Q c_Tou_gather_70 kc ks (some (.ref x) :: l) (.ref x :: st) h := rfl
theorem s_Tou_gather_70 {x : Nat} : wps rm K Q c_Tou_gather_70 kc ks loc (.ref (x + 1) :: st) h = eg_gf h x 10 3 (fun v => wps rm K Q c_Tou_gather_73 kc ks loc (v :: st) h) := rfl
theorem s_Tou_gather_73 {x : Nat} {l : eg_Lo} : wps rm K Q c_Tou_gather_73 kc ks (some (.ref x) :: l) (st) h = wps rm K Q c_Tou_gather_74 kc ks (some (.ref x) :: l) (.ref x :: st) h := rfl
theorem s_Tou_gather_74 {x : Nat} : wps rm K Q c_Tou_gather_74 kc ks loc (.ref (x + 1) :: st) h = eg_gf h x 10 4 (fun v => wps rm K Q c_Tou_gather_77 kc ks loc (v :: st) h) := rfl
theorem s_Tou_gather_77 {x : Int32} {l0 l1 : Option Value} {l : eg_Lo} : wps rm K Q c_Tou_gather_77 kc ks (l0 :: l1 :: some (.int x) :: l) (st) h = wps rm K Q c_Tou_gather_78 kc ks (l0 :: l1 :: some (.int x) :: l) (.int x :: st) h := rfl
theorem s_Tou_gather_78 {x : Nat} {i : Int32} {v : Int32} : wps rm K Q c_Tou_gather_78 kc ks loc (.int v :: .int i :: .ref (x + 1) :: st) h = eg_is h x i v (fun h9 => wps rm K Q c_Tou_gather_79 kc ks loc (st) h9) := rfl
theorem s_Tou_gather_79 {x : Nat} {l : eg_Lo} : wps rm K Q c_Tou_gather_79 kc ks (some (.ref x) :: l) (st) h = wps rm K Q c_Tou_gather_80 kc ks (some (.ref x) :: l) (.ref x :: st) h := rfl
theorem s_Tou_gather_80 {x : Nat} : wps rm K Q c_Tou_gather_80 kc ks loc (.ref x :: st) h = wps rm K Q c_Tou_gather_81 kc ks loc (.ref x :: .ref x :: st) h := rfl
theorem s_Tou_gather_81 {x : Nat} : wps rm K Q c_Tou_gather_81 kc ks loc (.ref (x + 1) :: st) h = eg_gf h x 10 4 (fun v => wps rm K Q c_Tou_gather_84 kc ks loc (v :: st) h) := rfl
theorem s_Tou_gather_84  : wps rm K Q c_Tou_gather_84 kc ks loc (st) h = wps rm K Q c_Tou_gather_85 kc ks loc (.int (1) :: st) h := rfl
theorem s_Tou_gather_85 {x y : Int32} : wps rm K Q c_Tou_gather_85 kc ks loc (.int y :: .int x :: st) h = wps rm K Q c_Tou_gather_86 kc ks loc (.int (x + y) :: st) h := rfl
theorem s_Tou_gather_86 {x : Nat} {v : Value} : wps rm K Q c_Tou_gather_86 kc ks loc (v :: .ref (x + 1) :: st) h = eg_pf h x 10 4 v (fun h9 => wps rm K Q c_Tou_gather_89 kc ks loc (st) h9) := rfl
theorem s_Tou_gather_89 {x : Int32} {l0 l1 : Option Value} {l9 : eg_Lo} : wps rm K Q c_Tou_gather_89 kc ks (l0 :: l1 :: some (.int x) :: l9) (st) h = wps rm K Q c_Tou_gather_92 kc ks (eg_set1 (l0 :: l1 :: some (.int x) :: l9) 2 (.int (x + (1)))) (st) h := rfl
theorem s_Tou_gather_92  : wps rm K Q c_Tou_gather_92 kc ks loc (st) h = K 7 kc ks loc st h := rfl
theorem s_Tou_gather_95  : wps rm K Q c_Tou_gather_95 kc ks loc ([]) h = (kc = rm.cells ∧ Q none h) := rfl
def T_Tou_gather : List (Nat × List eg_I) := [(89, c_Tou_gather_89), (95, c_Tou_gather_95)]
theorem j_Tou_gather_89 {R : Nat → Nat → Nat → eg_Lo → List Value → List eg_E → Prop} {f pc0 : Nat} : eg_run rm R Q T_Tou_gather (f + 1) 89 kc ks loc st h = wps rm (eg_run rm R Q T_Tou_gather f) Q c_Tou_gather_89 kc ks loc st h := rfl
theorem j_Tou_gather_95 {R : Nat → Nat → Nat → eg_Lo → List Value → List eg_E → Prop} {f pc0 : Nat} : eg_run rm R Q T_Tou_gather (f + 1) 95 kc ks loc st h = wps rm (eg_run rm R Q T_Tou_gather f) Q c_Tou_gather_95 kc ks loc st h := rfl
theorem j_Tou_gather_7 {R : Nat → Nat → Nat → eg_Lo → List Value → List eg_E → Prop} {f pc0 : Nat} : eg_run rm R Q T_Tou_gather (f + 1) 7 kc ks loc st h = R 7 kc ks loc st h := rfl
end
theorem q_Tou_gather : (T_Tou_gather.all fun q => eg_seq m_Tou_gather q.1 q.2) = true := by decide +kernel
theorem b_Tou_gather {as : List Value} {h : List eg_E} {Q : Option Value → List eg_E → Prop} (hf : (eg_fl as).length ≤ 3) (hw : wps (eg_rm m_Tou_gather) (eg_run (eg_rm m_Tou_gather) (eg_R m_Tou_gather Q (h.length + 0)) Q T_Tou_gather 4) Q c_Tou_gather_0 0 0 (eg_entry 3 as) [] h) : eg_Runs n_Tou_gather as h Q := eg_begin (d := m_Tou_gather) rfl (by decide) (by decide +kernel) q_Tou_gather hf hw
theorem p_Tou_gather_7 {Q : Option Value → List eg_E → Prop} {n0 kc ks : Nat} {loc : eg_Lo} {st : List Value} {h : List eg_E} (hw : wps (eg_rm m_Tou_gather) (eg_run (eg_rm m_Tou_gather) (eg_R m_Tou_gather Q n0) Q T_Tou_gather 4) Q c_Tou_gather_7 kc ks loc st h) : eg_R m_Tou_gather Q n0 7 kc ks loc st h := eg_go (by decide +kernel) q_Tou_gather hw
/-! ===== Tou_isOnePlace ===== -/
def c_Tou_isOnePlace_35 : List eg_I := .inl (35, 1, .ireturn, 0, 1) :: []
def c_Tou_isOnePlace_34 : List eg_I := .inl (34, 1, .iconst (0), 0, 0) :: c_Tou_isOnePlace_35
def c_Tou_isOnePlace_31 : List eg_I := .inl (31, 3, .goto (4), 35, 0) :: []
def c_Tou_isOnePlace_30 : List eg_I := .inl (30, 1, .iconst (1), 0, 0) :: c_Tou_isOnePlace_31
def c_Tou_isOnePlace_27 : List eg_I := .inl (27, 3, .if_icmp .ne (7), 34, 0) :: c_Tou_isOnePlace_30
def c_Tou_isOnePlace_26 : List eg_I := .inl (26, 1, .iaload, 0, 0) :: c_Tou_isOnePlace_27
def c_Tou_isOnePlace_25 : List eg_I := .inl (25, 1, .iload 2, 0, 0) :: c_Tou_isOnePlace_26
def c_Tou_isOnePlace_22 : List eg_I := .inl (22, 3, .getfield 15, 10, 1) :: c_Tou_isOnePlace_25
def c_Tou_isOnePlace_21 : List eg_I := .inl (21, 1, .aload 0, 0, 0) :: c_Tou_isOnePlace_22
def c_Tou_isOnePlace_20 : List eg_I := .inl (20, 1, .iaload, 0, 0) :: c_Tou_isOnePlace_21
def c_Tou_isOnePlace_19 : List eg_I := .inl (19, 1, .iload 1, 0, 0) :: c_Tou_isOnePlace_20
def c_Tou_isOnePlace_16 : List eg_I := .inl (16, 3, .getfield 15, 10, 1) :: c_Tou_isOnePlace_19
def c_Tou_isOnePlace_15 : List eg_I := .inl (15, 1, .aload 0, 0, 0) :: c_Tou_isOnePlace_16
def c_Tou_isOnePlace_12 : List eg_I := .inl (12, 3, .if_icmp .ne (22), 34, 0) :: c_Tou_isOnePlace_15
def c_Tou_isOnePlace_11 : List eg_I := .inl (11, 1, .iaload, 0, 0) :: c_Tou_isOnePlace_12
def c_Tou_isOnePlace_10 : List eg_I := .inl (10, 1, .iload 2, 0, 0) :: c_Tou_isOnePlace_11
def c_Tou_isOnePlace_7 : List eg_I := .inl (7, 3, .getfield 9, 10, 0) :: c_Tou_isOnePlace_10
def c_Tou_isOnePlace_6 : List eg_I := .inl (6, 1, .aload 0, 0, 0) :: c_Tou_isOnePlace_7
def c_Tou_isOnePlace_5 : List eg_I := .inl (5, 1, .iaload, 0, 0) :: c_Tou_isOnePlace_6
def c_Tou_isOnePlace_4 : List eg_I := .inl (4, 1, .iload 1, 0, 0) :: c_Tou_isOnePlace_5
def c_Tou_isOnePlace_1 : List eg_I := .inl (1, 3, .getfield 9, 10, 0) :: c_Tou_isOnePlace_4
def c_Tou_isOnePlace_0 : List eg_I := .inl (0, 1, .aload 0, 0, 0) :: c_Tou_isOnePlace_1
section
variable {rm : Room} {K : Nat → Nat → Nat → eg_Lo → List Value → List eg_E → Prop} {Q : Option Value → List eg_E → Prop} {kc ks : Nat} {loc : eg_Lo} {st : List Value} {h : List eg_E}
theorem s_Tou_isOnePlace_0 {x : Nat} {l : eg_Lo} : wps rm K Q c_Tou_isOnePlace_0 kc ks (some (.ref x) :: l) (st) h = wps rm K Q c_Tou_isOnePlace_1 kc ks (some (.ref x) :: l) (.ref x :: st) h := rfl
theorem s_Tou_isOnePlace_1 {x : Nat} : wps rm K Q c_Tou_isOnePlace_1 kc ks loc (.ref (x + 1) :: st) h = eg_gf h x 10 0 (fun v => wps rm K Q c_Tou_isOnePlace_4 kc ks loc (v :: st) h) := rfl
theorem s_Tou_isOnePlace_4 {x : Int32} {l0 : Option Value} {l : eg_Lo} : wps rm K Q c_Tou_isOnePlace_4 kc ks (l0 :: some (.int x) :: l) (st) h = wps rm K Q c_Tou_isOnePlace_5 kc ks (l0 :: some (.int x) :: l) (.int x :: st) h := rfl
theorem s_Tou_isOnePlace_5 {x : Nat} {i : Int32} : wps rm K Q c_Tou_isOnePlace_5 kc ks loc (.int i :: .ref (x + 1) :: st) h = eg_ia h x i (fun v => wps rm K Q c_Tou_isOnePlace_6 kc ks loc (.int v :: st) h) := rfl
theorem s_Tou_isOnePlace_6 {x : Nat} {l : eg_Lo} : wps rm K Q c_Tou_isOnePlace_6 kc ks (some (.ref x) :: l) (st) h = wps rm K Q c_Tou_isOnePlace_7 kc ks (some (.ref x) :: l) (.ref x :: st) h := rfl
theorem s_Tou_isOnePlace_7 {x : Nat} : wps rm K Q c_Tou_isOnePlace_7 kc ks loc (.ref (x + 1) :: st) h = eg_gf h x 10 0 (fun v => wps rm K Q c_Tou_isOnePlace_10 kc ks loc (v :: st) h) := rfl
theorem s_Tou_isOnePlace_10 {x : Int32} {l0 l1 : Option Value} {l : eg_Lo} : wps rm K Q c_Tou_isOnePlace_10 kc ks (l0 :: l1 :: some (.int x) :: l) (st) h = wps rm K Q c_Tou_isOnePlace_11 kc ks (l0 :: l1 :: some (.int x) :: l) (.int x :: st) h := rfl
theorem s_Tou_isOnePlace_11 {x : Nat} {i : Int32} : wps rm K Q c_Tou_isOnePlace_11 kc ks loc (.int i :: .ref (x + 1) :: st) h = eg_ia h x i (fun v => wps rm K Q c_Tou_isOnePlace_12 kc ks loc (.int v :: st) h) := rfl
theorem s_Tou_isOnePlace_12 {x y : Int32} : wps rm K Q c_Tou_isOnePlace_12 kc ks loc (.int y :: .int x :: st) h = ((¬ x = y → K 34 kc ks loc st h) ∧ (x = y → wps rm K Q c_Tou_isOnePlace_15 kc ks loc (st) h)) := rfl
theorem s_Tou_isOnePlace_15 {x : Nat} {l : eg_Lo} : wps rm K Q c_Tou_isOnePlace_15 kc ks (some (.ref x) :: l) (st) h = wps rm K Q c_Tou_isOnePlace_16 kc ks (some (.ref x) :: l) (.ref x :: st) h := rfl
theorem s_Tou_isOnePlace_16 {x : Nat} : wps rm K Q c_Tou_isOnePlace_16 kc ks loc (.ref (x + 1) :: st) h = eg_gf h x 10 1 (fun v => wps rm K Q c_Tou_isOnePlace_19 kc ks loc (v :: st) h) := rfl
theorem s_Tou_isOnePlace_19 {x : Int32} {l0 : Option Value} {l : eg_Lo} : wps rm K Q c_Tou_isOnePlace_19 kc ks (l0 :: some (.int x) :: l) (st) h = wps rm K Q c_Tou_isOnePlace_20 kc ks (l0 :: some (.int x) :: l) (.int x :: st) h := rfl
theorem s_Tou_isOnePlace_20 {x : Nat} {i : Int32} : wps rm K Q c_Tou_isOnePlace_20 kc ks loc (.int i :: .ref (x + 1) :: st) h = eg_ia h x i (fun v => wps rm K Q c_Tou_isOnePlace_21 kc ks loc (.int v :: st) h) := rfl
theorem s_Tou_isOnePlace_21 {x : Nat} {l : eg_Lo} : wps rm K Q c_Tou_isOnePlace_21 kc ks (some (.ref x) :: l) (st) h = wps rm K Q c_Tou_isOnePlace_22 kc ks (some (.ref x) :: l) (.ref x :: st) h := rfl
theorem s_Tou_isOnePlace_22 {x : Nat} : wps rm K Q c_Tou_isOnePlace_22 kc ks loc (.ref (x + 1) :: st) h = eg_gf h x 10 1 (fun v => wps rm K Q c_Tou_isOnePlace_25 kc ks loc (v :: st) h) := rfl
theorem s_Tou_isOnePlace_25 {x : Int32} {l0 l1 : Option Value} {l : eg_Lo} : wps rm K Q c_Tou_isOnePlace_25 kc ks (l0 :: l1 :: some (.int x) :: l) (st) h = wps rm K Q c_Tou_isOnePlace_26 kc ks (l0 :: l1 :: some (.int x) :: l) (.int x :: st) h := rfl
theorem s_Tou_isOnePlace_26 {x : Nat} {i : Int32} : wps rm K Q c_Tou_isOnePlace_26 kc ks loc (.int i :: .ref (x + 1) :: st) h = eg_ia h x i (fun v => wps rm K Q c_Tou_isOnePlace_27 kc ks loc (.int v :: st) h) := rfl
theorem s_Tou_isOnePlace_27 {x y : Int32} : wps rm K Q c_Tou_isOnePlace_27 kc ks loc (.int y :: .int x :: st) h = ((¬ x = y → K 34 kc ks loc st h) ∧ (x = y → wps rm K Q c_Tou_isOnePlace_30 kc ks loc (st) h)) := rfl
theorem s_Tou_isOnePlace_30  : wps rm K Q c_Tou_isOnePlace_30 kc ks loc (st) h = wps rm K Q c_Tou_isOnePlace_31 kc ks loc (.int (1) :: st) h := rfl
theorem s_Tou_isOnePlace_31  : wps rm K Q c_Tou_isOnePlace_31 kc ks loc (st) h = K 35 kc ks loc st h := rfl
theorem s_Tou_isOnePlace_34  : wps rm K Q c_Tou_isOnePlace_34 kc ks loc (st) h = wps rm K Q c_Tou_isOnePlace_35 kc ks loc (.int (0) :: st) h := rfl
theorem s_Tou_isOnePlace_35 {x : Int32} : wps rm K Q c_Tou_isOnePlace_35 kc ks loc ([.int x]) h = (kc = rm.cells ∧ ((1 : Nat) = 1 → x = 0 ∨ x = 1) ∧ Q (some (.int x)) h) := rfl
def T_Tou_isOnePlace : List (Nat × List eg_I) := [(34, c_Tou_isOnePlace_34), (35, c_Tou_isOnePlace_35)]
theorem j_Tou_isOnePlace_34 {R : Nat → Nat → Nat → eg_Lo → List Value → List eg_E → Prop} {f pc0 : Nat} : eg_run rm R Q T_Tou_isOnePlace (f + 1) 34 kc ks loc st h = wps rm (eg_run rm R Q T_Tou_isOnePlace f) Q c_Tou_isOnePlace_34 kc ks loc st h := rfl
theorem j_Tou_isOnePlace_35 {R : Nat → Nat → Nat → eg_Lo → List Value → List eg_E → Prop} {f pc0 : Nat} : eg_run rm R Q T_Tou_isOnePlace (f + 1) 35 kc ks loc st h = wps rm (eg_run rm R Q T_Tou_isOnePlace f) Q c_Tou_isOnePlace_35 kc ks loc st h := rfl
end
theorem q_Tou_isOnePlace : (T_Tou_isOnePlace.all fun q => eg_seq m_Tou_isOnePlace q.1 q.2) = true := by decide +kernel
theorem b_Tou_isOnePlace {as : List Value} {h : List eg_E} {Q : Option Value → List eg_E → Prop} (hf : (eg_fl as).length ≤ 3) (hw : wps (eg_rm m_Tou_isOnePlace) (eg_run (eg_rm m_Tou_isOnePlace) (eg_R m_Tou_isOnePlace Q (h.length + 0)) Q T_Tou_isOnePlace 4) Q c_Tou_isOnePlace_0 0 0 (eg_entry 3 as) [] h) : eg_Runs n_Tou_isOnePlace as h Q := eg_begin (d := m_Tou_isOnePlace) rfl (by decide) (by decide +kernel) q_Tou_isOnePlace hf hw
/-! ===== X_init ===== -/
def c_X_init_174 : List eg_I := .inl (174, 1, .return_, 0, 0) :: []
def c_X_init_171 : List eg_I := .inl (171, 3, .goto (-22), 149, 0) :: []
def c_X_init_168 : List eg_I := .inl (168, 3, .iinc 1 (1), 0, 0) :: c_X_init_171
def c_X_init_167 : List eg_I := .inl (167, 1, .aastore, 0, 0) :: c_X_init_168
def c_X_init_164 : List eg_I := .inr (164, 3, 71, n_Fig_init, 0, 2, 5, 15) :: c_X_init_167
def c_X_init_163 : List eg_I := .inl (163, 1, .dup, 0, 0) :: c_X_init_164
def c_X_init_160 : List eg_I := .inl (160, 3, .new 21, 2, 7) :: c_X_init_163
def c_X_init_159 : List eg_I := .inl (159, 1, .iload 1, 0, 0) :: c_X_init_160
def c_X_init_156 : List eg_I := .inl (156, 3, .getfield 23, 11, 2) :: c_X_init_159
def c_X_init_155 : List eg_I := .inl (155, 1, .aload 0, 0, 0) :: c_X_init_156
def c_X_init_152 : List eg_I := .inl (152, 3, .if_icmp .ge (22), 174, 0) :: c_X_init_155
def c_X_init_150 : List eg_I := .inl (150, 2, .iconst (6), 0, 0) :: c_X_init_152
def c_X_init_149 : List eg_I := .inl (149, 1, .iload 1, 0, 0) :: c_X_init_150
def c_X_init_148 : List eg_I := .inl (148, 1, .istore 1, 0, 0) :: [.inl (149, 0, .nop, 0, 0)]
def c_X_init_147 : List eg_I := .inl (147, 1, .iconst (0), 0, 0) :: c_X_init_148
def c_X_init_144 : List eg_I := .inl (144, 3, .goto (-21), 123, 0) :: []
def c_X_init_141 : List eg_I := .inl (141, 3, .iinc 1 (1), 0, 0) :: c_X_init_144
def c_X_init_140 : List eg_I := .inl (140, 1, .aastore, 0, 0) :: c_X_init_141
def c_X_init_137 : List eg_I := .inr (137, 3, 70, n_Sheet_init, 0, 9, 1, 48) :: c_X_init_140
def c_X_init_136 : List eg_I := .inl (136, 1, .dup, 0, 0) :: c_X_init_137
def c_X_init_133 : List eg_I := .inl (133, 3, .new 15, 9, 3) :: c_X_init_136
def c_X_init_132 : List eg_I := .inl (132, 1, .iload 1, 0, 0) :: c_X_init_133
def c_X_init_129 : List eg_I := .inl (129, 3, .getfield 17, 11, 1) :: c_X_init_132
def c_X_init_128 : List eg_I := .inl (128, 1, .aload 0, 0, 0) :: c_X_init_129
def c_X_init_125 : List eg_I := .inl (125, 3, .if_icmp .ge (22), 147, 0) :: c_X_init_128
def c_X_init_124 : List eg_I := .inl (124, 1, .iconst (4), 0, 0) :: c_X_init_125
def c_X_init_123 : List eg_I := .inl (123, 1, .iload 1, 0, 0) :: c_X_init_124
def c_X_init_122 : List eg_I := .inl (122, 1, .istore 1, 0, 0) :: [.inl (123, 0, .nop, 0, 0)]
def c_X_init_121 : List eg_I := .inl (121, 1, .iconst (0), 0, 0) :: c_X_init_122
def c_X_init_118 : List eg_I := .inl (118, 3, .goto (-21), 97, 0) :: []
def c_X_init_115 : List eg_I := .inl (115, 3, .iinc 1 (1), 0, 0) :: c_X_init_118
def c_X_init_114 : List eg_I := .inl (114, 1, .aastore, 0, 0) :: c_X_init_115
def c_X_init_111 : List eg_I := .inr (111, 3, 69, n_Part_init, 0, 8, 4, 64) :: c_X_init_114
def c_X_init_110 : List eg_I := .inl (110, 1, .dup, 0, 0) :: c_X_init_111
def c_X_init_107 : List eg_I := .inl (107, 3, .new 9, 8, 5) :: c_X_init_110
def c_X_init_106 : List eg_I := .inl (106, 1, .iload 1, 0, 0) :: c_X_init_107
def c_X_init_103 : List eg_I := .inl (103, 3, .getfield 11, 11, 0) :: c_X_init_106
def c_X_init_102 : List eg_I := .inl (102, 1, .aload 0, 0, 0) :: c_X_init_103
def c_X_init_99 : List eg_I := .inl (99, 3, .if_icmp .ge (22), 121, 0) :: c_X_init_102
def c_X_init_98 : List eg_I := .inl (98, 1, .iconst (4), 0, 0) :: c_X_init_99
def c_X_init_97 : List eg_I := .inl (97, 1, .iload 1, 0, 0) :: c_X_init_98
def c_X_init_96 : List eg_I := .inl (96, 1, .istore 1, 0, 0) :: [.inl (97, 0, .nop, 0, 0)]
def c_X_init_95 : List eg_I := .inl (95, 1, .iconst (0), 0, 0) :: c_X_init_96
def c_X_init_92 : List eg_I := .inl (92, 3, .putfield 65, 11, 8) :: c_X_init_95
def c_X_init_89 : List eg_I := .inr (89, 3, 64, n_Boxes_init, 0, 0, 2, 36) :: c_X_init_92
def c_X_init_88 : List eg_I := .inl (88, 1, .dup, 0, 0) :: c_X_init_89
def c_X_init_85 : List eg_I := .inl (85, 3, .new 62, 0, 7) :: c_X_init_88
def c_X_init_84 : List eg_I := .inl (84, 1, .aload 0, 0, 0) :: c_X_init_85
def c_X_init_81 : List eg_I := .inl (81, 3, .putfield 58, 11, 7) :: c_X_init_84
def c_X_init_78 : List eg_I := .inr (78, 3, 57, n_Outl_init, 0, 7, 3, 22) :: c_X_init_81
def c_X_init_77 : List eg_I := .inl (77, 1, .dup, 0, 0) :: c_X_init_78
def c_X_init_74 : List eg_I := .inl (74, 3, .new 55, 7, 6) :: c_X_init_77
def c_X_init_73 : List eg_I := .inl (73, 1, .aload 0, 0, 0) :: c_X_init_74
def c_X_init_70 : List eg_I := .inl (70, 3, .putfield 51, 11, 6) :: c_X_init_73
def c_X_init_67 : List eg_I := .inr (67, 3, 50, n_Frame_init, 0, 5, 1, 9) :: c_X_init_70
def c_X_init_66 : List eg_I := .inl (66, 1, .dup, 0, 0) :: c_X_init_67
def c_X_init_63 : List eg_I := .inl (63, 3, .new 48, 5, 5) :: c_X_init_66
def c_X_init_62 : List eg_I := .inl (62, 1, .aload 0, 0, 0) :: c_X_init_63
def c_X_init_59 : List eg_I := .inl (59, 3, .putfield 44, 11, 5) :: c_X_init_62
def c_X_init_56 : List eg_I := .inr (56, 3, 43, n_Circ_init, 0, 1, 5, 69) :: c_X_init_59
def c_X_init_55 : List eg_I := .inl (55, 1, .dup, 0, 0) :: c_X_init_56
def c_X_init_52 : List eg_I := .inl (52, 3, .new 41, 1, 5) :: c_X_init_55
def c_X_init_51 : List eg_I := .inl (51, 1, .aload 0, 0, 0) :: c_X_init_52
def c_X_init_48 : List eg_I := .inl (48, 3, .putfield 37, 11, 4) :: c_X_init_51
def c_X_init_45 : List eg_I := .inr (45, 3, 36, n_Flat_init, 0, 3, 8, 81) :: c_X_init_48
def c_X_init_44 : List eg_I := .inl (44, 1, .dup, 0, 0) :: c_X_init_45
def c_X_init_41 : List eg_I := .inl (41, 3, .new 34, 3, 9) :: c_X_init_44
def c_X_init_40 : List eg_I := .inl (40, 1, .aload 0, 0, 0) :: c_X_init_41
def c_X_init_37 : List eg_I := .inl (37, 3, .putfield 30, 11, 3) :: c_X_init_40
def c_X_init_34 : List eg_I := .inr (34, 3, 29, n_Grid_init, 0, 6, 2, 18) :: c_X_init_37
def c_X_init_33 : List eg_I := .inl (33, 1, .dup, 0, 0) :: c_X_init_34
def c_X_init_30 : List eg_I := .inl (30, 3, .new 27, 6, 2) :: c_X_init_33
def c_X_init_29 : List eg_I := .inl (29, 1, .aload 0, 0, 0) :: c_X_init_30
def c_X_init_26 : List eg_I := .inl (26, 3, .putfield 23, 11, 2) :: c_X_init_29
def c_X_init_23 : List eg_I := .inl (23, 3, .anewarray 21, 6, 0) :: c_X_init_26
def c_X_init_21 : List eg_I := .inl (21, 2, .iconst (6), 0, 0) :: c_X_init_23
def c_X_init_20 : List eg_I := .inl (20, 1, .aload 0, 0, 0) :: c_X_init_21
def c_X_init_17 : List eg_I := .inl (17, 3, .putfield 17, 11, 1) :: c_X_init_20
def c_X_init_14 : List eg_I := .inl (14, 3, .anewarray 15, 5, 0) :: c_X_init_17
def c_X_init_13 : List eg_I := .inl (13, 1, .iconst (4), 0, 0) :: c_X_init_14
def c_X_init_12 : List eg_I := .inl (12, 1, .aload 0, 0, 0) :: c_X_init_13
def c_X_init_9 : List eg_I := .inl (9, 3, .putfield 11, 11, 0) :: c_X_init_12
def c_X_init_6 : List eg_I := .inl (6, 3, .anewarray 9, 4, 0) :: c_X_init_9
def c_X_init_5 : List eg_I := .inl (5, 1, .iconst (4), 0, 0) :: c_X_init_6
def c_X_init_4 : List eg_I := .inl (4, 1, .aload 0, 0, 0) :: c_X_init_5
def c_X_init_1 : List eg_I := .inl (1, 3, .athrow, 3, 0) :: c_X_init_4
def c_X_init_0 : List eg_I := .inl (0, 1, .aload 0, 0, 0) :: c_X_init_1
section
variable {rm : Room} {K : Nat → Nat → Nat → eg_Lo → List Value → List eg_E → Prop} {Q : Option Value → List eg_E → Prop} {kc ks : Nat} {loc : eg_Lo} {st : List Value} {h : List eg_E}
theorem s_X_init_0 {x : Nat} {l : eg_Lo} : wps rm K Q c_X_init_0 kc ks (some (.ref x) :: l) (st) h = wps rm K Q c_X_init_1 kc ks (some (.ref x) :: l) (.ref x :: st) h := rfl
theorem s_X_init_1 {x : Nat} : wps rm K Q c_X_init_1 kc ks loc (.ref (x + 1) :: st) h = (st.length ≤ 4 ∧ wps rm K Q c_X_init_4 kc ks loc (st) h) := rfl
theorem s_X_init_4 {x : Nat} {l : eg_Lo} : wps rm K Q c_X_init_4 kc ks (some (.ref x) :: l) (st) h = wps rm K Q c_X_init_5 kc ks (some (.ref x) :: l) (.ref x :: st) h := rfl
theorem s_X_init_5  : wps rm K Q c_X_init_5 kc ks loc (st) h = wps rm K Q c_X_init_6 kc ks loc (.int (4) :: st) h := rfl
theorem s_X_init_6 {x : Int32} : wps rm K Q c_X_init_6 kc ks loc (.int x :: st) h = (¬ x < 0 ∧ x.toNatClampNeg ≤ 1000 ∧ kc + 1 ≤ rm.cells ∧ ks + x.toNatClampNeg ≤ rm.slots ∧ wps rm K Q c_X_init_9 (kc + 1) (ks + x.toNatClampNeg) loc (.ref (h.length + 1) :: st) (h ++ [.inl (4, x.toNatClampNeg, .inr (.inr (.inr (.inr (fun _ => none)))))])) := rfl
theorem s_X_init_9 {x : Nat} {v : Value} : wps rm K Q c_X_init_9 kc ks loc (v :: .ref (x + 1) :: st) h = eg_pf h x 11 0 v (fun h9 => wps rm K Q c_X_init_12 kc ks loc (st) h9) := rfl
theorem s_X_init_12 {x : Nat} {l : eg_Lo} : wps rm K Q c_X_init_12 kc ks (some (.ref x) :: l) (st) h = wps rm K Q c_X_init_13 kc ks (some (.ref x) :: l) (.ref x :: st) h := rfl
theorem s_X_init_13  : wps rm K Q c_X_init_13 kc ks loc (st) h = wps rm K Q c_X_init_14 kc ks loc (.int (4) :: st) h := rfl
theorem s_X_init_14 {x : Int32} : wps rm K Q c_X_init_14 kc ks loc (.int x :: st) h = (¬ x < 0 ∧ x.toNatClampNeg ≤ 1000 ∧ kc + 1 ≤ rm.cells ∧ ks + x.toNatClampNeg ≤ rm.slots ∧ wps rm K Q c_X_init_17 (kc + 1) (ks + x.toNatClampNeg) loc (.ref (h.length + 1) :: st) (h ++ [.inl (5, x.toNatClampNeg, .inr (.inr (.inr (.inr (fun _ => none)))))])) := rfl
theorem s_X_init_17 {x : Nat} {v : Value} : wps rm K Q c_X_init_17 kc ks loc (v :: .ref (x + 1) :: st) h = eg_pf h x 11 1 v (fun h9 => wps rm K Q c_X_init_20 kc ks loc (st) h9) := rfl
theorem s_X_init_20 {x : Nat} {l : eg_Lo} : wps rm K Q c_X_init_20 kc ks (some (.ref x) :: l) (st) h = wps rm K Q c_X_init_21 kc ks (some (.ref x) :: l) (.ref x :: st) h := rfl
theorem s_X_init_21  : wps rm K Q c_X_init_21 kc ks loc (st) h = wps rm K Q c_X_init_23 kc ks loc (.int (6) :: st) h := rfl
theorem s_X_init_23 {x : Int32} : wps rm K Q c_X_init_23 kc ks loc (.int x :: st) h = (¬ x < 0 ∧ x.toNatClampNeg ≤ 1000 ∧ kc + 1 ≤ rm.cells ∧ ks + x.toNatClampNeg ≤ rm.slots ∧ wps rm K Q c_X_init_26 (kc + 1) (ks + x.toNatClampNeg) loc (.ref (h.length + 1) :: st) (h ++ [.inl (6, x.toNatClampNeg, .inr (.inr (.inr (.inr (fun _ => none)))))])) := rfl
theorem s_X_init_26 {x : Nat} {v : Value} : wps rm K Q c_X_init_26 kc ks loc (v :: .ref (x + 1) :: st) h = eg_pf h x 11 2 v (fun h9 => wps rm K Q c_X_init_29 kc ks loc (st) h9) := rfl
theorem s_X_init_29 {x : Nat} {l : eg_Lo} : wps rm K Q c_X_init_29 kc ks (some (.ref x) :: l) (st) h = wps rm K Q c_X_init_30 kc ks (some (.ref x) :: l) (.ref x :: st) h := rfl
theorem s_X_init_30  : wps rm K Q c_X_init_30 kc ks loc (st) h = (kc + 1 ≤ rm.cells ∧ ks + 2 ≤ rm.slots ∧ wps rm K Q c_X_init_33 (kc + 1) (ks + 2) loc (.ref (h.length + 1) :: st) (h ++ [.inr (6, eg_df 6)])) := rfl
theorem s_X_init_33 {x : Nat} : wps rm K Q c_X_init_33 kc ks loc (.ref x :: st) h = wps rm K Q c_X_init_34 kc ks loc (.ref x :: .ref x :: st) h := rfl
theorem s_X_init_34  {x : Nat} : wps rm K Q c_X_init_34 kc ks loc (.ref (x + 1) :: st) h = (st.length ≤ 4 ∧ kc + 2 ≤ rm.cells ∧ ks + 18 ≤ rm.slots ∧ eg_Cs n_Grid_init [.ref (x + 1)] h (fun v h9 => wps rm K Q c_X_init_37 (kc + 2) (ks + 18) loc (v.toList ++ st) h9)) := eg_c3_0
theorem s_X_init_37 {x : Nat} {v : Value} : wps rm K Q c_X_init_37 kc ks loc (v :: .ref (x + 1) :: st) h = eg_pf h x 11 3 v (fun h9 => wps rm K Q c_X_init_40 kc ks loc (st) h9) := rfl
theorem s_X_init_40 {x : Nat} {l : eg_Lo} : wps rm K Q c_X_init_40 kc ks (some (.ref x) :: l) (st) h = wps rm K Q c_X_init_41 kc ks (some (.ref x) :: l) (.ref x :: st) h := rfl
theorem s_X_init_41  : wps rm K Q c_X_init_41 kc ks loc (st) h = (kc + 1 ≤ rm.cells ∧ ks + 9 ≤ rm.slots ∧ wps rm K Q c_X_init_44 (kc + 1) (ks + 9) loc (.ref (h.length + 1) :: st) (h ++ [.inr (3, eg_df 3)])) := rfl
theorem s_X_init_44 {x : Nat} : wps rm K Q c_X_init_44 kc ks loc (.ref x :: st) h = wps rm K Q c_X_init_45 kc ks loc (.ref x :: .ref x :: st) h := rfl
theorem s_X_init_45  {x : Nat} : wps rm K Q c_X_init_45 kc ks loc (.ref (x + 1) :: st) h = (st.length ≤ 4 ∧ kc + 8 ≤ rm.cells ∧ ks + 81 ≤ rm.slots ∧ eg_Cs n_Flat_init [.ref (x + 1)] h (fun v h9 => wps rm K Q c_X_init_48 (kc + 8) (ks + 81) loc (v.toList ++ st) h9)) := eg_c3_0
theorem s_X_init_48 {x : Nat} {v : Value} : wps rm K Q c_X_init_48 kc ks loc (v :: .ref (x + 1) :: st) h = eg_pf h x 11 4 v (fun h9 => wps rm K Q c_X_init_51 kc ks loc (st) h9) := rfl
theorem s_X_init_51 {x : Nat} {l : eg_Lo} : wps rm K Q c_X_init_51 kc ks (some (.ref x) :: l) (st) h = wps rm K Q c_X_init_52 kc ks (some (.ref x) :: l) (.ref x :: st) h := rfl
theorem s_X_init_52  : wps rm K Q c_X_init_52 kc ks loc (st) h = (kc + 1 ≤ rm.cells ∧ ks + 5 ≤ rm.slots ∧ wps rm K Q c_X_init_55 (kc + 1) (ks + 5) loc (.ref (h.length + 1) :: st) (h ++ [.inr (1, eg_df 1)])) := rfl
theorem s_X_init_55 {x : Nat} : wps rm K Q c_X_init_55 kc ks loc (.ref x :: st) h = wps rm K Q c_X_init_56 kc ks loc (.ref x :: .ref x :: st) h := rfl
theorem s_X_init_56  {x : Nat} : wps rm K Q c_X_init_56 kc ks loc (.ref (x + 1) :: st) h = (st.length ≤ 4 ∧ kc + 5 ≤ rm.cells ∧ ks + 69 ≤ rm.slots ∧ eg_Cs n_Circ_init [.ref (x + 1)] h (fun v h9 => wps rm K Q c_X_init_59 (kc + 5) (ks + 69) loc (v.toList ++ st) h9)) := eg_c3_0
theorem s_X_init_59 {x : Nat} {v : Value} : wps rm K Q c_X_init_59 kc ks loc (v :: .ref (x + 1) :: st) h = eg_pf h x 11 5 v (fun h9 => wps rm K Q c_X_init_62 kc ks loc (st) h9) := rfl
theorem s_X_init_62 {x : Nat} {l : eg_Lo} : wps rm K Q c_X_init_62 kc ks (some (.ref x) :: l) (st) h = wps rm K Q c_X_init_63 kc ks (some (.ref x) :: l) (.ref x :: st) h := rfl
theorem s_X_init_63  : wps rm K Q c_X_init_63 kc ks loc (st) h = (kc + 1 ≤ rm.cells ∧ ks + 5 ≤ rm.slots ∧ wps rm K Q c_X_init_66 (kc + 1) (ks + 5) loc (.ref (h.length + 1) :: st) (h ++ [.inr (5, eg_df 5)])) := rfl
theorem s_X_init_66 {x : Nat} : wps rm K Q c_X_init_66 kc ks loc (.ref x :: st) h = wps rm K Q c_X_init_67 kc ks loc (.ref x :: .ref x :: st) h := rfl
theorem s_X_init_67  {x : Nat} : wps rm K Q c_X_init_67 kc ks loc (.ref (x + 1) :: st) h = (st.length ≤ 4 ∧ kc + 1 ≤ rm.cells ∧ ks + 9 ≤ rm.slots ∧ eg_Cs n_Frame_init [.ref (x + 1)] h (fun v h9 => wps rm K Q c_X_init_70 (kc + 1) (ks + 9) loc (v.toList ++ st) h9)) := eg_c3_0
theorem s_X_init_70 {x : Nat} {v : Value} : wps rm K Q c_X_init_70 kc ks loc (v :: .ref (x + 1) :: st) h = eg_pf h x 11 6 v (fun h9 => wps rm K Q c_X_init_73 kc ks loc (st) h9) := rfl
theorem s_X_init_73 {x : Nat} {l : eg_Lo} : wps rm K Q c_X_init_73 kc ks (some (.ref x) :: l) (st) h = wps rm K Q c_X_init_74 kc ks (some (.ref x) :: l) (.ref x :: st) h := rfl
theorem s_X_init_74  : wps rm K Q c_X_init_74 kc ks loc (st) h = (kc + 1 ≤ rm.cells ∧ ks + 6 ≤ rm.slots ∧ wps rm K Q c_X_init_77 (kc + 1) (ks + 6) loc (.ref (h.length + 1) :: st) (h ++ [.inr (7, eg_df 7)])) := rfl
theorem s_X_init_77 {x : Nat} : wps rm K Q c_X_init_77 kc ks loc (.ref x :: st) h = wps rm K Q c_X_init_78 kc ks loc (.ref x :: .ref x :: st) h := rfl
theorem s_X_init_78  {x : Nat} : wps rm K Q c_X_init_78 kc ks loc (.ref (x + 1) :: st) h = (st.length ≤ 4 ∧ kc + 3 ≤ rm.cells ∧ ks + 22 ≤ rm.slots ∧ eg_Cs n_Outl_init [.ref (x + 1)] h (fun v h9 => wps rm K Q c_X_init_81 (kc + 3) (ks + 22) loc (v.toList ++ st) h9)) := eg_c3_0
theorem s_X_init_81 {x : Nat} {v : Value} : wps rm K Q c_X_init_81 kc ks loc (v :: .ref (x + 1) :: st) h = eg_pf h x 11 7 v (fun h9 => wps rm K Q c_X_init_84 kc ks loc (st) h9) := rfl
theorem s_X_init_84 {x : Nat} {l : eg_Lo} : wps rm K Q c_X_init_84 kc ks (some (.ref x) :: l) (st) h = wps rm K Q c_X_init_85 kc ks (some (.ref x) :: l) (.ref x :: st) h := rfl
theorem s_X_init_85  : wps rm K Q c_X_init_85 kc ks loc (st) h = (kc + 1 ≤ rm.cells ∧ ks + 7 ≤ rm.slots ∧ wps rm K Q c_X_init_88 (kc + 1) (ks + 7) loc (.ref (h.length + 1) :: st) (h ++ [.inr (0, eg_df 0)])) := rfl
theorem s_X_init_88 {x : Nat} : wps rm K Q c_X_init_88 kc ks loc (.ref x :: st) h = wps rm K Q c_X_init_89 kc ks loc (.ref x :: .ref x :: st) h := rfl
theorem s_X_init_89  {x : Nat} : wps rm K Q c_X_init_89 kc ks loc (.ref (x + 1) :: st) h = (st.length ≤ 4 ∧ kc + 2 ≤ rm.cells ∧ ks + 36 ≤ rm.slots ∧ eg_Cs n_Boxes_init [.ref (x + 1)] h (fun v h9 => wps rm K Q c_X_init_92 (kc + 2) (ks + 36) loc (v.toList ++ st) h9)) := eg_c3_0
theorem s_X_init_92 {x : Nat} {v : Value} : wps rm K Q c_X_init_92 kc ks loc (v :: .ref (x + 1) :: st) h = eg_pf h x 11 8 v (fun h9 => wps rm K Q c_X_init_95 kc ks loc (st) h9) := rfl
theorem s_X_init_95  : wps rm K Q c_X_init_95 kc ks loc (st) h = wps rm K Q c_X_init_96 kc ks loc (.int (0) :: st) h := rfl
theorem s_X_init_96 {x : Int32} : wps rm K Q c_X_init_96 kc ks loc (.int x :: st) h = K 97 kc ks (eg_set1 loc 1 (.int x)) (st) h := rfl
theorem s_X_init_97 {x : Int32} {l0 : Option Value} {l : eg_Lo} : wps rm K Q c_X_init_97 kc ks (l0 :: some (.int x) :: l) (st) h = wps rm K Q c_X_init_98 kc ks (l0 :: some (.int x) :: l) (.int x :: st) h := rfl
theorem s_X_init_98  : wps rm K Q c_X_init_98 kc ks loc (st) h = wps rm K Q c_X_init_99 kc ks loc (.int (4) :: st) h := rfl
theorem s_X_init_99 {x y : Int32} : wps rm K Q c_X_init_99 kc ks loc (.int y :: .int x :: st) h = ((y ≤ x → K 121 kc ks loc st h) ∧ (¬ y ≤ x → wps rm K Q c_X_init_102 kc ks loc (st) h)) := rfl
theorem s_X_init_102 {x : Nat} {l : eg_Lo} : wps rm K Q c_X_init_102 kc ks (some (.ref x) :: l) (st) h = wps rm K Q c_X_init_103 kc ks (some (.ref x) :: l) (.ref x :: st) h := rfl
theorem s_X_init_103 {x : Nat} : wps rm K Q c_X_init_103 kc ks loc (.ref (x + 1) :: st) h = eg_gf h x 11 0 (fun v => wps rm K Q c_X_init_106 kc ks loc (v :: st) h) := rfl
theorem s_X_init_106 {x : Int32} {l0 : Option Value} {l : eg_Lo} : wps rm K Q c_X_init_106 kc ks (l0 :: some (.int x) :: l) (st) h = wps rm K Q c_X_init_107 kc ks (l0 :: some (.int x) :: l) (.int x :: st) h := rfl
theorem s_X_init_107  : wps rm K Q c_X_init_107 kc ks loc (st) h = (kc + 1 ≤ rm.cells ∧ ks + 5 ≤ rm.slots ∧ wps rm K Q c_X_init_110 (kc + 1) (ks + 5) loc (.ref (h.length + 1) :: st) (h ++ [.inr (8, eg_df 8)])) := rfl
theorem s_X_init_110 {x : Nat} : wps rm K Q c_X_init_110 kc ks loc (.ref x :: st) h = wps rm K Q c_X_init_111 kc ks loc (.ref x :: .ref x :: st) h := rfl
theorem s_X_init_111  {x : Nat} : wps rm K Q c_X_init_111 kc ks loc (.ref (x + 1) :: st) h = (st.length ≤ 4 ∧ kc + 4 ≤ rm.cells ∧ ks + 64 ≤ rm.slots ∧ eg_Cs n_Part_init [.ref (x + 1)] h (fun v h9 => wps rm K Q c_X_init_114 (kc + 4) (ks + 64) loc (v.toList ++ st) h9)) := eg_c3_0
theorem s_X_init_114 {x v : Nat} {i : Int32} : wps rm K Q c_X_init_114 kc ks loc (.ref (v + 1) :: .int i :: .ref (x + 1) :: st) h = eg_as h x v i (fun h9 => wps rm K Q c_X_init_115 kc ks loc (st) h9) := rfl
theorem s_X_init_115 {x : Int32} {l0 : Option Value} {l9 : eg_Lo} : wps rm K Q c_X_init_115 kc ks (l0 :: some (.int x) :: l9) (st) h = wps rm K Q c_X_init_118 kc ks (eg_set1 (l0 :: some (.int x) :: l9) 1 (.int (x + (1)))) (st) h := rfl
theorem s_X_init_118  : wps rm K Q c_X_init_118 kc ks loc (st) h = K 97 kc ks loc st h := rfl
theorem s_X_init_121  : wps rm K Q c_X_init_121 kc ks loc (st) h = wps rm K Q c_X_init_122 kc ks loc (.int (0) :: st) h := rfl
theorem s_X_init_122 {x : Int32} : wps rm K Q c_X_init_122 kc ks loc (.int x :: st) h = K 123 kc ks (eg_set1 loc 1 (.int x)) (st) h := rfl
theorem s_X_init_123 {x : Int32} {l0 : Option Value} {l : eg_Lo} : wps rm K Q c_X_init_123 kc ks (l0 :: some (.int x) :: l) (st) h = wps rm K Q c_X_init_124 kc ks (l0 :: some (.int x) :: l) (.int x :: st) h := rfl
theorem s_X_init_124  : wps rm K Q c_X_init_124 kc ks loc (st) h = wps rm K Q c_X_init_125 kc ks loc (.int (4) :: st) h := rfl
theorem s_X_init_125 {x y : Int32} : wps rm K Q c_X_init_125 kc ks loc (.int y :: .int x :: st) h = ((y ≤ x → K 147 kc ks loc st h) ∧ (¬ y ≤ x → wps rm K Q c_X_init_128 kc ks loc (st) h)) := rfl
theorem s_X_init_128 {x : Nat} {l : eg_Lo} : wps rm K Q c_X_init_128 kc ks (some (.ref x) :: l) (st) h = wps rm K Q c_X_init_129 kc ks (some (.ref x) :: l) (.ref x :: st) h := rfl
theorem s_X_init_129 {x : Nat} : wps rm K Q c_X_init_129 kc ks loc (.ref (x + 1) :: st) h = eg_gf h x 11 1 (fun v => wps rm K Q c_X_init_132 kc ks loc (v :: st) h) := rfl
theorem s_X_init_132 {x : Int32} {l0 : Option Value} {l : eg_Lo} : wps rm K Q c_X_init_132 kc ks (l0 :: some (.int x) :: l) (st) h = wps rm K Q c_X_init_133 kc ks (l0 :: some (.int x) :: l) (.int x :: st) h := rfl
theorem s_X_init_133  : wps rm K Q c_X_init_133 kc ks loc (st) h = (kc + 1 ≤ rm.cells ∧ ks + 3 ≤ rm.slots ∧ wps rm K Q c_X_init_136 (kc + 1) (ks + 3) loc (.ref (h.length + 1) :: st) (h ++ [.inr (9, eg_df 9)])) := rfl
theorem s_X_init_136 {x : Nat} : wps rm K Q c_X_init_136 kc ks loc (.ref x :: st) h = wps rm K Q c_X_init_137 kc ks loc (.ref x :: .ref x :: st) h := rfl
theorem s_X_init_137  {x : Nat} : wps rm K Q c_X_init_137 kc ks loc (.ref (x + 1) :: st) h = (st.length ≤ 4 ∧ kc + 1 ≤ rm.cells ∧ ks + 48 ≤ rm.slots ∧ eg_Cs n_Sheet_init [.ref (x + 1)] h (fun v h9 => wps rm K Q c_X_init_140 (kc + 1) (ks + 48) loc (v.toList ++ st) h9)) := eg_c3_0
theorem s_X_init_140 {x v : Nat} {i : Int32} : wps rm K Q c_X_init_140 kc ks loc (.ref (v + 1) :: .int i :: .ref (x + 1) :: st) h = eg_as h x v i (fun h9 => wps rm K Q c_X_init_141 kc ks loc (st) h9) := rfl
theorem s_X_init_141 {x : Int32} {l0 : Option Value} {l9 : eg_Lo} : wps rm K Q c_X_init_141 kc ks (l0 :: some (.int x) :: l9) (st) h = wps rm K Q c_X_init_144 kc ks (eg_set1 (l0 :: some (.int x) :: l9) 1 (.int (x + (1)))) (st) h := rfl
theorem s_X_init_144  : wps rm K Q c_X_init_144 kc ks loc (st) h = K 123 kc ks loc st h := rfl
theorem s_X_init_147  : wps rm K Q c_X_init_147 kc ks loc (st) h = wps rm K Q c_X_init_148 kc ks loc (.int (0) :: st) h := rfl
theorem s_X_init_148 {x : Int32} : wps rm K Q c_X_init_148 kc ks loc (.int x :: st) h = K 149 kc ks (eg_set1 loc 1 (.int x)) (st) h := rfl
theorem s_X_init_149 {x : Int32} {l0 : Option Value} {l : eg_Lo} : wps rm K Q c_X_init_149 kc ks (l0 :: some (.int x) :: l) (st) h = wps rm K Q c_X_init_150 kc ks (l0 :: some (.int x) :: l) (.int x :: st) h := rfl
theorem s_X_init_150  : wps rm K Q c_X_init_150 kc ks loc (st) h = wps rm K Q c_X_init_152 kc ks loc (.int (6) :: st) h := rfl
theorem s_X_init_152 {x y : Int32} : wps rm K Q c_X_init_152 kc ks loc (.int y :: .int x :: st) h = ((y ≤ x → K 174 kc ks loc st h) ∧ (¬ y ≤ x → wps rm K Q c_X_init_155 kc ks loc (st) h)) := rfl
theorem s_X_init_155 {x : Nat} {l : eg_Lo} : wps rm K Q c_X_init_155 kc ks (some (.ref x) :: l) (st) h = wps rm K Q c_X_init_156 kc ks (some (.ref x) :: l) (.ref x :: st) h := rfl
theorem s_X_init_156 {x : Nat} : wps rm K Q c_X_init_156 kc ks loc (.ref (x + 1) :: st) h = eg_gf h x 11 2 (fun v => wps rm K Q c_X_init_159 kc ks loc (v :: st) h) := rfl
theorem s_X_init_159 {x : Int32} {l0 : Option Value} {l : eg_Lo} : wps rm K Q c_X_init_159 kc ks (l0 :: some (.int x) :: l) (st) h = wps rm K Q c_X_init_160 kc ks (l0 :: some (.int x) :: l) (.int x :: st) h := rfl
theorem s_X_init_160  : wps rm K Q c_X_init_160 kc ks loc (st) h = (kc + 1 ≤ rm.cells ∧ ks + 7 ≤ rm.slots ∧ wps rm K Q c_X_init_163 (kc + 1) (ks + 7) loc (.ref (h.length + 1) :: st) (h ++ [.inr (2, eg_df 2)])) := rfl
theorem s_X_init_163 {x : Nat} : wps rm K Q c_X_init_163 kc ks loc (.ref x :: st) h = wps rm K Q c_X_init_164 kc ks loc (.ref x :: .ref x :: st) h := rfl
theorem s_X_init_164  {x : Nat} : wps rm K Q c_X_init_164 kc ks loc (.ref (x + 1) :: st) h = (st.length ≤ 4 ∧ kc + 5 ≤ rm.cells ∧ ks + 15 ≤ rm.slots ∧ eg_Cs n_Fig_init [.ref (x + 1)] h (fun v h9 => wps rm K Q c_X_init_167 (kc + 5) (ks + 15) loc (v.toList ++ st) h9)) := eg_c3_0
theorem s_X_init_167 {x v : Nat} {i : Int32} : wps rm K Q c_X_init_167 kc ks loc (.ref (v + 1) :: .int i :: .ref (x + 1) :: st) h = eg_as h x v i (fun h9 => wps rm K Q c_X_init_168 kc ks loc (st) h9) := rfl
theorem s_X_init_168 {x : Int32} {l0 : Option Value} {l9 : eg_Lo} : wps rm K Q c_X_init_168 kc ks (l0 :: some (.int x) :: l9) (st) h = wps rm K Q c_X_init_171 kc ks (eg_set1 (l0 :: some (.int x) :: l9) 1 (.int (x + (1)))) (st) h := rfl
theorem s_X_init_171  : wps rm K Q c_X_init_171 kc ks loc (st) h = K 149 kc ks loc st h := rfl
theorem s_X_init_174  : wps rm K Q c_X_init_174 kc ks loc ([]) h = (kc = rm.cells ∧ Q none h) := rfl
def T_X_init : List (Nat × List eg_I) := [(121, c_X_init_121), (147, c_X_init_147), (174, c_X_init_174)]
theorem j_X_init_121 {R : Nat → Nat → Nat → eg_Lo → List Value → List eg_E → Prop} {f pc0 : Nat} : eg_run rm R Q T_X_init (f + 1) 121 kc ks loc st h = wps rm (eg_run rm R Q T_X_init f) Q c_X_init_121 kc ks loc st h := rfl
theorem j_X_init_147 {R : Nat → Nat → Nat → eg_Lo → List Value → List eg_E → Prop} {f pc0 : Nat} : eg_run rm R Q T_X_init (f + 1) 147 kc ks loc st h = wps rm (eg_run rm R Q T_X_init f) Q c_X_init_147 kc ks loc st h := rfl
theorem j_X_init_174 {R : Nat → Nat → Nat → eg_Lo → List Value → List eg_E → Prop} {f pc0 : Nat} : eg_run rm R Q T_X_init (f + 1) 174 kc ks loc st h = wps rm (eg_run rm R Q T_X_init f) Q c_X_init_174 kc ks loc st h := rfl
theorem j_X_init_97 {R : Nat → Nat → Nat → eg_Lo → List Value → List eg_E → Prop} {f pc0 : Nat} : eg_run rm R Q T_X_init (f + 1) 97 kc ks loc st h = R 97 kc ks loc st h := rfl
theorem j_X_init_123 {R : Nat → Nat → Nat → eg_Lo → List Value → List eg_E → Prop} {f pc0 : Nat} : eg_run rm R Q T_X_init (f + 1) 123 kc ks loc st h = R 123 kc ks loc st h := rfl
theorem j_X_init_149 {R : Nat → Nat → Nat → eg_Lo → List Value → List eg_E → Prop} {f pc0 : Nat} : eg_run rm R Q T_X_init (f + 1) 149 kc ks loc st h = R 149 kc ks loc st h := rfl
end
theorem q_X_init : (T_X_init.all fun q => eg_seq m_X_init q.1 q.2) = true := by decide +kernel
theorem b_X_init {as : List Value} {h : List eg_E} {Q : Option Value → List eg_E → Prop} (hf : (eg_fl as).length ≤ 2) (hw : wps (eg_rm m_X_init) (eg_run (eg_rm m_X_init) (eg_R m_X_init Q (h.length + 94)) Q T_X_init 5) Q c_X_init_0 0 0 (eg_entry 2 as) [] h) : eg_Runs n_X_init as h Q := eg_begin (d := m_X_init) rfl (by decide) (by decide +kernel) q_X_init hf hw
theorem p_X_init_97 {Q : Option Value → List eg_E → Prop} {n0 kc ks : Nat} {loc : eg_Lo} {st : List Value} {h : List eg_E} (hw : wps (eg_rm m_X_init) (eg_run (eg_rm m_X_init) (eg_R m_X_init Q n0) Q T_X_init 5) Q c_X_init_97 kc ks loc st h) : eg_R m_X_init Q n0 97 kc ks loc st h := eg_go (by decide +kernel) q_X_init hw
theorem p_X_init_123 {Q : Option Value → List eg_E → Prop} {n0 kc ks : Nat} {loc : eg_Lo} {st : List Value} {h : List eg_E} (hw : wps (eg_rm m_X_init) (eg_run (eg_rm m_X_init) (eg_R m_X_init Q n0) Q T_X_init 5) Q c_X_init_123 kc ks loc st h) : eg_R m_X_init Q n0 123 kc ks loc st h := eg_go (by decide +kernel) q_X_init hw
theorem p_X_init_149 {Q : Option Value → List eg_E → Prop} {n0 kc ks : Nat} {loc : eg_Lo} {st : List Value} {h : List eg_E} (hw : wps (eg_rm m_X_init) (eg_run (eg_rm m_X_init) (eg_R m_X_init Q n0) Q T_X_init 5) Q c_X_init_149 kc ks loc st h) : eg_R m_X_init Q n0 149 kc ks loc st h := eg_go (by decide +kernel) q_X_init hw
/-! ===== X_point ===== -/
def c_X_point_72 : List eg_I := .inl (72, 1, .lreturn, 0, 0) :: []
def c_X_point_71 : List eg_I := .inl (71, 1, .i2l, 0, 0) :: c_X_point_72
def c_X_point_68 : List eg_I := .inr (68, 1, 96, n_Part_add, 3, 8, 0, 0) :: c_X_point_71
def c_X_point_66 : List eg_I := .inl (66, 2, .iload 4, 0, 0) :: c_X_point_68
def c_X_point_65 : List eg_I := .inl (65, 1, .iload 3, 0, 0) :: c_X_point_66
def c_X_point_64 : List eg_I := .inl (64, 1, .iload 2, 0, 0) :: c_X_point_65
def c_X_point_63 : List eg_I := .inl (63, 1, .aaload, 0, 0) :: c_X_point_64
def c_X_point_62 : List eg_I := .inl (62, 1, .iload 1, 0, 0) :: c_X_point_63
def c_X_point_59 : List eg_I := .inl (59, 3, .getfield 11, 11, 0) :: c_X_point_62
def c_X_point_58 : List eg_I := .inl (58, 1, .aload 0, 0, 0) :: c_X_point_59
def c_X_point_57 : List eg_I := .inl (57, 1, .lreturn, 0, 0) :: []
def c_X_point_54 : List eg_I := .inr (54, 1, 86, n_X_found, 1, 11, 0, 0) :: c_X_point_57
def c_X_point_51 : List eg_I := .inl (51, 3, .sipush (-1000000000000000005), 94, 0) :: c_X_point_54
def c_X_point_50 : List eg_I := .inl (50, 1, .aload 0, 0, 0) :: c_X_point_51
def c_X_point_47 : List eg_I := .inl (47, 3, .if_icmp .ge (11), 58, 0) :: c_X_point_50
def c_X_point_46 : List eg_I := .inl (46, 1, .iconst (1), 0, 0) :: c_X_point_47
def c_X_point_43 : List eg_I := .inr (43, 1, 90, n_Part_room, 0, 8, 0, 0) :: c_X_point_46
def c_X_point_42 : List eg_I := .inl (42, 1, .aaload, 0, 0) :: c_X_point_43
def c_X_point_41 : List eg_I := .inl (41, 1, .iload 1, 0, 0) :: c_X_point_42
def c_X_point_38 : List eg_I := .inl (38, 3, .getfield 11, 11, 0) :: c_X_point_41
def c_X_point_37 : List eg_I := .inl (37, 1, .aload 0, 0, 0) :: c_X_point_38
def c_X_point_36 : List eg_I := .inl (36, 1, .lreturn, 0, 0) :: []
def c_X_point_33 : List eg_I := .inr (33, 1, 86, n_X_found, 1, 11, 0, 0) :: c_X_point_36
def c_X_point_30 : List eg_I := .inl (30, 3, .sipush (-1000000000000000001), 84, 0) :: c_X_point_33
def c_X_point_29 : List eg_I := .inl (29, 1, .aload 0, 0, 0) :: c_X_point_30
def c_X_point_26 : List eg_I := .inl (26, 3, .ifCond .ne (11), 37, 0) :: c_X_point_29
def c_X_point_23 : List eg_I := .inr (23, 0, 80, n_X_isWithin, 3, 11, 0, 0) :: c_X_point_26
def c_X_point_20 : List eg_I := .inl (20, 3, .iconst (300), 0, 0) :: c_X_point_23
def c_X_point_17 : List eg_I := .inl (17, 3, .iconst (-300), 0, 0) :: c_X_point_20
def c_X_point_15 : List eg_I := .inl (15, 2, .iload 4, 0, 0) :: c_X_point_17
def c_X_point_12 : List eg_I := .inl (12, 3, .ifCond .eq (17), 29, 0) :: c_X_point_15
def c_X_point_9 : List eg_I := .inr (9, 0, 76, n_X_isPlace, 2, 11, 0, 0) :: c_X_point_12
def c_X_point_8 : List eg_I := .inl (8, 1, .iload 3, 0, 0) :: c_X_point_9
def c_X_point_7 : List eg_I := .inl (7, 1, .iload 2, 0, 0) :: c_X_point_8
def c_X_point_4 : List eg_I := .inl (4, 3, .ifCond .eq (25), 29, 0) :: c_X_point_7
def c_X_point_1 : List eg_I := .inr (1, 0, 72, n_X_isPart, 1, 11, 0, 0) :: c_X_point_4
def c_X_point_0 : List eg_I := .inl (0, 1, .iload 1, 0, 0) :: c_X_point_1
section
variable {rm : Room} {K : Nat → Nat → Nat → eg_Lo → List Value → List eg_E → Prop} {Q : Option Value → List eg_E → Prop} {kc ks : Nat} {loc : eg_Lo} {st : List Value} {h : List eg_E}
theorem s_X_point_0 {x : Int32} {l0 : Option Value} {l : eg_Lo} : wps rm K Q c_X_point_0 kc ks (l0 :: some (.int x) :: l) (st) h = wps rm K Q c_X_point_1 kc ks (l0 :: some (.int x) :: l) (.int x :: st) h := rfl
theorem s_X_point_1  {a1 : Value} : wps rm K Q c_X_point_1 kc ks loc (a1 :: st) h = (st.length ≤ 4 ∧ eg_Cs n_X_isPart [a1] h (fun v h9 => wps rm K Q c_X_point_4 kc ks loc (v.toList ++ st) h9)) := eg_c0_1
theorem s_X_point_4 {x : Int32} : wps rm K Q c_X_point_4 kc ks loc (.int x :: st) h = ((x = 0 → K 29 kc ks loc st h) ∧ (¬ x = 0 → wps rm K Q c_X_point_7 kc ks loc (st) h)) := rfl
theorem s_X_point_7 {x : Int32} {l0 l1 : Option Value} {l : eg_Lo} : wps rm K Q c_X_point_7 kc ks (l0 :: l1 :: some (.int x) :: l) (st) h = wps rm K Q c_X_point_8 kc ks (l0 :: l1 :: some (.int x) :: l) (.int x :: st) h := rfl
theorem s_X_point_8 {x : Int32} {l0 l1 l2 : Option Value} {l : eg_Lo} : wps rm K Q c_X_point_8 kc ks (l0 :: l1 :: l2 :: some (.int x) :: l) (st) h = wps rm K Q c_X_point_9 kc ks (l0 :: l1 :: l2 :: some (.int x) :: l) (.int x :: st) h := rfl
theorem s_X_point_9  {a1 : Value} {a2 : Value} : wps rm K Q c_X_point_9 kc ks loc (a2 :: a1 :: st) h = (st.length ≤ 4 ∧ eg_Cs n_X_isPlace [a1, a2] h (fun v h9 => wps rm K Q c_X_point_12 kc ks loc (v.toList ++ st) h9)) := eg_c0_2
theorem s_X_point_12 {x : Int32} : wps rm K Q c_X_point_12 kc ks loc (.int x :: st) h = ((x = 0 → K 29 kc ks loc st h) ∧ (¬ x = 0 → wps rm K Q c_X_point_15 kc ks loc (st) h)) := rfl
theorem s_X_point_15 {x : Int32} {l0 l1 l2 l3 : Option Value} {l : eg_Lo} : wps rm K Q c_X_point_15 kc ks (l0 :: l1 :: l2 :: l3 :: some (.int x) :: l) (st) h = wps rm K Q c_X_point_17 kc ks (l0 :: l1 :: l2 :: l3 :: some (.int x) :: l) (.int x :: st) h := rfl
theorem s_X_point_17  : wps rm K Q c_X_point_17 kc ks loc (st) h = wps rm K Q c_X_point_20 kc ks loc (.int (-300) :: st) h := rfl
theorem s_X_point_20  : wps rm K Q c_X_point_20 kc ks loc (st) h = wps rm K Q c_X_point_23 kc ks loc (.int (300) :: st) h := rfl
theorem s_X_point_23  {a1 : Value} {a2 : Value} {a3 : Value} : wps rm K Q c_X_point_23 kc ks loc (a3 :: a2 :: a1 :: st) h = (st.length ≤ 4 ∧ eg_Cs n_X_isWithin [a1, a2, a3] h (fun v h9 => wps rm K Q c_X_point_26 kc ks loc (v.toList ++ st) h9)) := eg_c0_3
theorem s_X_point_26 {x : Int32} : wps rm K Q c_X_point_26 kc ks loc (.int x :: st) h = ((¬ x = 0 → K 37 kc ks loc st h) ∧ (x = 0 → wps rm K Q c_X_point_29 kc ks loc (st) h)) := rfl
theorem s_X_point_29 {x : Nat} {l : eg_Lo} : wps rm K Q c_X_point_29 kc ks (some (.ref x) :: l) (st) h = wps rm K Q c_X_point_30 kc ks (some (.ref x) :: l) (.ref x :: st) h := rfl
theorem s_X_point_30  : wps rm K Q c_X_point_30 kc ks loc (st) h = wps rm K Q c_X_point_33 kc ks loc (.long (-1000000000000000001) :: st) h := rfl
theorem s_X_point_33  {a1 : Value} {x : Nat} : wps rm K Q c_X_point_33 kc ks loc (a1 :: .ref (x + 1) :: st) h = (eg_cls h x 11 ∧ st.length ≤ 4 ∧ eg_Cs n_X_found (.ref (x + 1) :: [a1]) h (fun v h9 => wps rm K Q c_X_point_36 kc ks loc (v.toList ++ st) h9)) := eg_c1_1
theorem s_X_point_36 {x : Int64} : wps rm K Q c_X_point_36 kc ks loc ([.long x]) h = (kc = rm.cells ∧ Q (some (.long x)) h) := rfl
theorem s_X_point_37 {x : Nat} {l : eg_Lo} : wps rm K Q c_X_point_37 kc ks (some (.ref x) :: l) (st) h = wps rm K Q c_X_point_38 kc ks (some (.ref x) :: l) (.ref x :: st) h := rfl
theorem s_X_point_38 {x : Nat} : wps rm K Q c_X_point_38 kc ks loc (.ref (x + 1) :: st) h = eg_gf h x 11 0 (fun v => wps rm K Q c_X_point_41 kc ks loc (v :: st) h) := rfl
theorem s_X_point_41 {x : Int32} {l0 : Option Value} {l : eg_Lo} : wps rm K Q c_X_point_41 kc ks (l0 :: some (.int x) :: l) (st) h = wps rm K Q c_X_point_42 kc ks (l0 :: some (.int x) :: l) (.int x :: st) h := rfl
theorem s_X_point_42 {x : Nat} {i : Int32} : wps rm K Q c_X_point_42 kc ks loc (.int i :: .ref (x + 1) :: st) h = eg_aa h x i (fun v => wps rm K Q c_X_point_43 kc ks loc (v :: st) h) := rfl
theorem s_X_point_43  {x : Nat} : wps rm K Q c_X_point_43 kc ks loc (.ref (x + 1) :: st) h = (eg_cls h x 8 ∧ st.length ≤ 4 ∧ eg_Cs n_Part_room (.ref (x + 1) :: []) h (fun v h9 => wps rm K Q c_X_point_46 kc ks loc (v.toList ++ st) h9)) := eg_c1_0
theorem s_X_point_46  : wps rm K Q c_X_point_46 kc ks loc (st) h = wps rm K Q c_X_point_47 kc ks loc (.int (1) :: st) h := rfl
theorem s_X_point_47 {x y : Int32} : wps rm K Q c_X_point_47 kc ks loc (.int y :: .int x :: st) h = ((y ≤ x → K 58 kc ks loc st h) ∧ (¬ y ≤ x → wps rm K Q c_X_point_50 kc ks loc (st) h)) := rfl
theorem s_X_point_50 {x : Nat} {l : eg_Lo} : wps rm K Q c_X_point_50 kc ks (some (.ref x) :: l) (st) h = wps rm K Q c_X_point_51 kc ks (some (.ref x) :: l) (.ref x :: st) h := rfl
theorem s_X_point_51  : wps rm K Q c_X_point_51 kc ks loc (st) h = wps rm K Q c_X_point_54 kc ks loc (.long (-1000000000000000005) :: st) h := rfl
theorem s_X_point_54  {a1 : Value} {x : Nat} : wps rm K Q c_X_point_54 kc ks loc (a1 :: .ref (x + 1) :: st) h = (eg_cls h x 11 ∧ st.length ≤ 4 ∧ eg_Cs n_X_found (.ref (x + 1) :: [a1]) h (fun v h9 => wps rm K Q c_X_point_57 kc ks loc (v.toList ++ st) h9)) := eg_c1_1
theorem s_X_point_57 {x : Int64} : wps rm K Q c_X_point_57 kc ks loc ([.long x]) h = (kc = rm.cells ∧ Q (some (.long x)) h) := rfl
theorem s_X_point_58 {x : Nat} {l : eg_Lo} : wps rm K Q c_X_point_58 kc ks (some (.ref x) :: l) (st) h = wps rm K Q c_X_point_59 kc ks (some (.ref x) :: l) (.ref x :: st) h := rfl
theorem s_X_point_59 {x : Nat} : wps rm K Q c_X_point_59 kc ks loc (.ref (x + 1) :: st) h = eg_gf h x 11 0 (fun v => wps rm K Q c_X_point_62 kc ks loc (v :: st) h) := rfl
theorem s_X_point_62 {x : Int32} {l0 : Option Value} {l : eg_Lo} : wps rm K Q c_X_point_62 kc ks (l0 :: some (.int x) :: l) (st) h = wps rm K Q c_X_point_63 kc ks (l0 :: some (.int x) :: l) (.int x :: st) h := rfl
theorem s_X_point_63 {x : Nat} {i : Int32} : wps rm K Q c_X_point_63 kc ks loc (.int i :: .ref (x + 1) :: st) h = eg_aa h x i (fun v => wps rm K Q c_X_point_64 kc ks loc (v :: st) h) := rfl
theorem s_X_point_64 {x : Int32} {l0 l1 : Option Value} {l : eg_Lo} : wps rm K Q c_X_point_64 kc ks (l0 :: l1 :: some (.int x) :: l) (st) h = wps rm K Q c_X_point_65 kc ks (l0 :: l1 :: some (.int x) :: l) (.int x :: st) h := rfl
theorem s_X_point_65 {x : Int32} {l0 l1 l2 : Option Value} {l : eg_Lo} : wps rm K Q c_X_point_65 kc ks (l0 :: l1 :: l2 :: some (.int x) :: l) (st) h = wps rm K Q c_X_point_66 kc ks (l0 :: l1 :: l2 :: some (.int x) :: l) (.int x :: st) h := rfl
theorem s_X_point_66 {x : Int32} {l0 l1 l2 l3 : Option Value} {l : eg_Lo} : wps rm K Q c_X_point_66 kc ks (l0 :: l1 :: l2 :: l3 :: some (.int x) :: l) (st) h = wps rm K Q c_X_point_68 kc ks (l0 :: l1 :: l2 :: l3 :: some (.int x) :: l) (.int x :: st) h := rfl
theorem s_X_point_68  {a1 : Value} {a2 : Value} {a3 : Value} {x : Nat} : wps rm K Q c_X_point_68 kc ks loc (a3 :: a2 :: a1 :: .ref (x + 1) :: st) h = (eg_cls h x 8 ∧ st.length ≤ 4 ∧ eg_Cs n_Part_add (.ref (x + 1) :: [a1, a2, a3]) h (fun v h9 => wps rm K Q c_X_point_71 kc ks loc (v.toList ++ st) h9)) := eg_c1_3
theorem s_X_point_71 {x : Int32} : wps rm K Q c_X_point_71 kc ks loc (.int x :: st) h = wps rm K Q c_X_point_72 kc ks loc (.long (x.toInt64) :: st) h := rfl
theorem s_X_point_72 {x : Int64} : wps rm K Q c_X_point_72 kc ks loc ([.long x]) h = (kc = rm.cells ∧ Q (some (.long x)) h) := rfl
def T_X_point : List (Nat × List eg_I) := [(29, c_X_point_29), (37, c_X_point_37), (58, c_X_point_58)]
theorem j_X_point_29 {R : Nat → Nat → Nat → eg_Lo → List Value → List eg_E → Prop} {f pc0 : Nat} : eg_run rm R Q T_X_point (f + 1) 29 kc ks loc st h = wps rm (eg_run rm R Q T_X_point f) Q c_X_point_29 kc ks loc st h := rfl
theorem j_X_point_37 {R : Nat → Nat → Nat → eg_Lo → List Value → List eg_E → Prop} {f pc0 : Nat} : eg_run rm R Q T_X_point (f + 1) 37 kc ks loc st h = wps rm (eg_run rm R Q T_X_point f) Q c_X_point_37 kc ks loc st h := rfl
theorem j_X_point_58 {R : Nat → Nat → Nat → eg_Lo → List Value → List eg_E → Prop} {f pc0 : Nat} : eg_run rm R Q T_X_point (f + 1) 58 kc ks loc st h = wps rm (eg_run rm R Q T_X_point f) Q c_X_point_58 kc ks loc st h := rfl
end
theorem q_X_point : (T_X_point.all fun q => eg_seq m_X_point q.1 q.2) = true := by decide +kernel
theorem b_X_point {as : List Value} {h : List eg_E} {Q : Option Value → List eg_E → Prop} (hf : (eg_fl as).length ≤ 5) (hw : wps (eg_rm m_X_point) (eg_run (eg_rm m_X_point) (eg_R m_X_point Q (h.length + 0)) Q T_X_point 5) Q c_X_point_0 0 0 (eg_entry 5 as) [] h) : eg_Runs n_X_point as h Q := eg_begin (d := m_X_point) rfl (by decide) (by decide +kernel) q_X_point hf hw
/-! ===== X_miss ===== -/
def c_X_miss_46 : List eg_I := .inl (46, 1, .lreturn, 0, 0) :: []
def c_X_miss_45 : List eg_I := .inl (45, 1, .i2l, 0, 0) :: c_X_miss_46
def c_X_miss_42 : List eg_I := .inr (42, 1, 100, n_Part_addMissed, 0, 8, 0, 0) :: c_X_miss_45
def c_X_miss_41 : List eg_I := .inl (41, 1, .aaload, 0, 0) :: c_X_miss_42
def c_X_miss_40 : List eg_I := .inl (40, 1, .iload 1, 0, 0) :: c_X_miss_41
def c_X_miss_37 : List eg_I := .inl (37, 3, .getfield 11, 11, 0) :: c_X_miss_40
def c_X_miss_36 : List eg_I := .inl (36, 1, .aload 0, 0, 0) :: c_X_miss_37
def c_X_miss_35 : List eg_I := .inl (35, 1, .lreturn, 0, 0) :: []
def c_X_miss_32 : List eg_I := .inr (32, 1, 86, n_X_found, 1, 11, 0, 0) :: c_X_miss_35
def c_X_miss_29 : List eg_I := .inl (29, 3, .sipush (-1000000000000000005), 94, 0) :: c_X_miss_32
def c_X_miss_28 : List eg_I := .inl (28, 1, .aload 0, 0, 0) :: c_X_miss_29
def c_X_miss_25 : List eg_I := .inl (25, 3, .if_icmp .ge (11), 36, 0) :: c_X_miss_28
def c_X_miss_24 : List eg_I := .inl (24, 1, .iconst (1), 0, 0) :: c_X_miss_25
def c_X_miss_21 : List eg_I := .inr (21, 1, 90, n_Part_room, 0, 8, 0, 0) :: c_X_miss_24
def c_X_miss_20 : List eg_I := .inl (20, 1, .aaload, 0, 0) :: c_X_miss_21
def c_X_miss_19 : List eg_I := .inl (19, 1, .iload 1, 0, 0) :: c_X_miss_20
def c_X_miss_16 : List eg_I := .inl (16, 3, .getfield 11, 11, 0) :: c_X_miss_19
def c_X_miss_15 : List eg_I := .inl (15, 1, .aload 0, 0, 0) :: c_X_miss_16
def c_X_miss_14 : List eg_I := .inl (14, 1, .lreturn, 0, 0) :: []
def c_X_miss_11 : List eg_I := .inr (11, 1, 86, n_X_found, 1, 11, 0, 0) :: c_X_miss_14
def c_X_miss_8 : List eg_I := .inl (8, 3, .sipush (-1000000000000000001), 84, 0) :: c_X_miss_11
def c_X_miss_7 : List eg_I := .inl (7, 1, .aload 0, 0, 0) :: c_X_miss_8
def c_X_miss_4 : List eg_I := .inl (4, 3, .ifCond .ne (11), 15, 0) :: c_X_miss_7
def c_X_miss_1 : List eg_I := .inr (1, 0, 72, n_X_isPart, 1, 11, 0, 0) :: c_X_miss_4
def c_X_miss_0 : List eg_I := .inl (0, 1, .iload 1, 0, 0) :: c_X_miss_1
section
variable {rm : Room} {K : Nat → Nat → Nat → eg_Lo → List Value → List eg_E → Prop} {Q : Option Value → List eg_E → Prop} {kc ks : Nat} {loc : eg_Lo} {st : List Value} {h : List eg_E}
theorem s_X_miss_0 {x : Int32} {l0 : Option Value} {l : eg_Lo} : wps rm K Q c_X_miss_0 kc ks (l0 :: some (.int x) :: l) (st) h = wps rm K Q c_X_miss_1 kc ks (l0 :: some (.int x) :: l) (.int x :: st) h := rfl
theorem s_X_miss_1  {a1 : Value} : wps rm K Q c_X_miss_1 kc ks loc (a1 :: st) h = (st.length ≤ 4 ∧ eg_Cs n_X_isPart [a1] h (fun v h9 => wps rm K Q c_X_miss_4 kc ks loc (v.toList ++ st) h9)) := eg_c0_1
theorem s_X_miss_4 {x : Int32} : wps rm K Q c_X_miss_4 kc ks loc (.int x :: st) h = ((¬ x = 0 → K 15 kc ks loc st h) ∧ (x = 0 → wps rm K Q c_X_miss_7 kc ks loc (st) h)) := rfl
theorem s_X_miss_7 {x : Nat} {l : eg_Lo} : wps rm K Q c_X_miss_7 kc ks (some (.ref x) :: l) (st) h = wps rm K Q c_X_miss_8 kc ks (some (.ref x) :: l) (.ref x :: st) h := rfl
theorem s_X_miss_8  : wps rm K Q c_X_miss_8 kc ks loc (st) h = wps rm K Q c_X_miss_11 kc ks loc (.long (-1000000000000000001) :: st) h := rfl
theorem s_X_miss_11  {a1 : Value} {x : Nat} : wps rm K Q c_X_miss_11 kc ks loc (a1 :: .ref (x + 1) :: st) h = (eg_cls h x 11 ∧ st.length ≤ 4 ∧ eg_Cs n_X_found (.ref (x + 1) :: [a1]) h (fun v h9 => wps rm K Q c_X_miss_14 kc ks loc (v.toList ++ st) h9)) := eg_c1_1
theorem s_X_miss_14 {x : Int64} : wps rm K Q c_X_miss_14 kc ks loc ([.long x]) h = (kc = rm.cells ∧ Q (some (.long x)) h) := rfl
theorem s_X_miss_15 {x : Nat} {l : eg_Lo} : wps rm K Q c_X_miss_15 kc ks (some (.ref x) :: l) (st) h = wps rm K Q c_X_miss_16 kc ks (some (.ref x) :: l) (.ref x :: st) h := rfl
theorem s_X_miss_16 {x : Nat} : wps rm K Q c_X_miss_16 kc ks loc (.ref (x + 1) :: st) h = eg_gf h x 11 0 (fun v => wps rm K Q c_X_miss_19 kc ks loc (v :: st) h) := rfl
theorem s_X_miss_19 {x : Int32} {l0 : Option Value} {l : eg_Lo} : wps rm K Q c_X_miss_19 kc ks (l0 :: some (.int x) :: l) (st) h = wps rm K Q c_X_miss_20 kc ks (l0 :: some (.int x) :: l) (.int x :: st) h := rfl
theorem s_X_miss_20 {x : Nat} {i : Int32} : wps rm K Q c_X_miss_20 kc ks loc (.int i :: .ref (x + 1) :: st) h = eg_aa h x i (fun v => wps rm K Q c_X_miss_21 kc ks loc (v :: st) h) := rfl
theorem s_X_miss_21  {x : Nat} : wps rm K Q c_X_miss_21 kc ks loc (.ref (x + 1) :: st) h = (eg_cls h x 8 ∧ st.length ≤ 4 ∧ eg_Cs n_Part_room (.ref (x + 1) :: []) h (fun v h9 => wps rm K Q c_X_miss_24 kc ks loc (v.toList ++ st) h9)) := eg_c1_0
theorem s_X_miss_24  : wps rm K Q c_X_miss_24 kc ks loc (st) h = wps rm K Q c_X_miss_25 kc ks loc (.int (1) :: st) h := rfl
theorem s_X_miss_25 {x y : Int32} : wps rm K Q c_X_miss_25 kc ks loc (.int y :: .int x :: st) h = ((y ≤ x → K 36 kc ks loc st h) ∧ (¬ y ≤ x → wps rm K Q c_X_miss_28 kc ks loc (st) h)) := rfl
theorem s_X_miss_28 {x : Nat} {l : eg_Lo} : wps rm K Q c_X_miss_28 kc ks (some (.ref x) :: l) (st) h = wps rm K Q c_X_miss_29 kc ks (some (.ref x) :: l) (.ref x :: st) h := rfl
theorem s_X_miss_29  : wps rm K Q c_X_miss_29 kc ks loc (st) h = wps rm K Q c_X_miss_32 kc ks loc (.long (-1000000000000000005) :: st) h := rfl
theorem s_X_miss_32  {a1 : Value} {x : Nat} : wps rm K Q c_X_miss_32 kc ks loc (a1 :: .ref (x + 1) :: st) h = (eg_cls h x 11 ∧ st.length ≤ 4 ∧ eg_Cs n_X_found (.ref (x + 1) :: [a1]) h (fun v h9 => wps rm K Q c_X_miss_35 kc ks loc (v.toList ++ st) h9)) := eg_c1_1
theorem s_X_miss_35 {x : Int64} : wps rm K Q c_X_miss_35 kc ks loc ([.long x]) h = (kc = rm.cells ∧ Q (some (.long x)) h) := rfl
theorem s_X_miss_36 {x : Nat} {l : eg_Lo} : wps rm K Q c_X_miss_36 kc ks (some (.ref x) :: l) (st) h = wps rm K Q c_X_miss_37 kc ks (some (.ref x) :: l) (.ref x :: st) h := rfl
theorem s_X_miss_37 {x : Nat} : wps rm K Q c_X_miss_37 kc ks loc (.ref (x + 1) :: st) h = eg_gf h x 11 0 (fun v => wps rm K Q c_X_miss_40 kc ks loc (v :: st) h) := rfl
theorem s_X_miss_40 {x : Int32} {l0 : Option Value} {l : eg_Lo} : wps rm K Q c_X_miss_40 kc ks (l0 :: some (.int x) :: l) (st) h = wps rm K Q c_X_miss_41 kc ks (l0 :: some (.int x) :: l) (.int x :: st) h := rfl
theorem s_X_miss_41 {x : Nat} {i : Int32} : wps rm K Q c_X_miss_41 kc ks loc (.int i :: .ref (x + 1) :: st) h = eg_aa h x i (fun v => wps rm K Q c_X_miss_42 kc ks loc (v :: st) h) := rfl
theorem s_X_miss_42  {x : Nat} : wps rm K Q c_X_miss_42 kc ks loc (.ref (x + 1) :: st) h = (eg_cls h x 8 ∧ st.length ≤ 4 ∧ eg_Cs n_Part_addMissed (.ref (x + 1) :: []) h (fun v h9 => wps rm K Q c_X_miss_45 kc ks loc (v.toList ++ st) h9)) := eg_c1_0
theorem s_X_miss_45 {x : Int32} : wps rm K Q c_X_miss_45 kc ks loc (.int x :: st) h = wps rm K Q c_X_miss_46 kc ks loc (.long (x.toInt64) :: st) h := rfl
theorem s_X_miss_46 {x : Int64} : wps rm K Q c_X_miss_46 kc ks loc ([.long x]) h = (kc = rm.cells ∧ Q (some (.long x)) h) := rfl
def T_X_miss : List (Nat × List eg_I) := [(15, c_X_miss_15), (36, c_X_miss_36)]
theorem j_X_miss_15 {R : Nat → Nat → Nat → eg_Lo → List Value → List eg_E → Prop} {f pc0 : Nat} : eg_run rm R Q T_X_miss (f + 1) 15 kc ks loc st h = wps rm (eg_run rm R Q T_X_miss f) Q c_X_miss_15 kc ks loc st h := rfl
theorem j_X_miss_36 {R : Nat → Nat → Nat → eg_Lo → List Value → List eg_E → Prop} {f pc0 : Nat} : eg_run rm R Q T_X_miss (f + 1) 36 kc ks loc st h = wps rm (eg_run rm R Q T_X_miss f) Q c_X_miss_36 kc ks loc st h := rfl
end
theorem q_X_miss : (T_X_miss.all fun q => eg_seq m_X_miss q.1 q.2) = true := by decide +kernel
theorem b_X_miss {as : List Value} {h : List eg_E} {Q : Option Value → List eg_E → Prop} (hf : (eg_fl as).length ≤ 2) (hw : wps (eg_rm m_X_miss) (eg_run (eg_rm m_X_miss) (eg_R m_X_miss Q (h.length + 0)) Q T_X_miss 4) Q c_X_miss_0 0 0 (eg_entry 2 as) [] h) : eg_Runs n_X_miss as h Q := eg_begin (d := m_X_miss) rfl (by decide) (by decide +kernel) q_X_miss hf hw
/-! ===== X_clear ===== -/
def c_X_clear_25 : List eg_I := .inl (25, 1, .lreturn, 0, 0) :: []
def c_X_clear_24 : List eg_I := .inl (24, 1, .i2l, 0, 0) :: c_X_clear_25
def c_X_clear_21 : List eg_I := .inr (21, 1, 103, n_Part_empty, 0, 8, 0, 0) :: c_X_clear_24
def c_X_clear_20 : List eg_I := .inl (20, 1, .aaload, 0, 0) :: c_X_clear_21
def c_X_clear_19 : List eg_I := .inl (19, 1, .iload 1, 0, 0) :: c_X_clear_20
def c_X_clear_16 : List eg_I := .inl (16, 3, .getfield 11, 11, 0) :: c_X_clear_19
def c_X_clear_15 : List eg_I := .inl (15, 1, .aload 0, 0, 0) :: c_X_clear_16
def c_X_clear_14 : List eg_I := .inl (14, 1, .lreturn, 0, 0) :: []
def c_X_clear_11 : List eg_I := .inr (11, 1, 86, n_X_found, 1, 11, 0, 0) :: c_X_clear_14
def c_X_clear_8 : List eg_I := .inl (8, 3, .sipush (-1000000000000000001), 84, 0) :: c_X_clear_11
def c_X_clear_7 : List eg_I := .inl (7, 1, .aload 0, 0, 0) :: c_X_clear_8
def c_X_clear_4 : List eg_I := .inl (4, 3, .ifCond .ne (11), 15, 0) :: c_X_clear_7
def c_X_clear_1 : List eg_I := .inr (1, 0, 72, n_X_isPart, 1, 11, 0, 0) :: c_X_clear_4
def c_X_clear_0 : List eg_I := .inl (0, 1, .iload 1, 0, 0) :: c_X_clear_1
section
variable {rm : Room} {K : Nat → Nat → Nat → eg_Lo → List Value → List eg_E → Prop} {Q : Option Value → List eg_E → Prop} {kc ks : Nat} {loc : eg_Lo} {st : List Value} {h : List eg_E}
theorem s_X_clear_0 {x : Int32} {l0 : Option Value} {l : eg_Lo} : wps rm K Q c_X_clear_0 kc ks (l0 :: some (.int x) :: l) (st) h = wps rm K Q c_X_clear_1 kc ks (l0 :: some (.int x) :: l) (.int x :: st) h := rfl
theorem s_X_clear_1  {a1 : Value} : wps rm K Q c_X_clear_1 kc ks loc (a1 :: st) h = (st.length ≤ 4 ∧ eg_Cs n_X_isPart [a1] h (fun v h9 => wps rm K Q c_X_clear_4 kc ks loc (v.toList ++ st) h9)) := eg_c0_1
theorem s_X_clear_4 {x : Int32} : wps rm K Q c_X_clear_4 kc ks loc (.int x :: st) h = ((¬ x = 0 → K 15 kc ks loc st h) ∧ (x = 0 → wps rm K Q c_X_clear_7 kc ks loc (st) h)) := rfl
theorem s_X_clear_7 {x : Nat} {l : eg_Lo} : wps rm K Q c_X_clear_7 kc ks (some (.ref x) :: l) (st) h = wps rm K Q c_X_clear_8 kc ks (some (.ref x) :: l) (.ref x :: st) h := rfl
theorem s_X_clear_8  : wps rm K Q c_X_clear_8 kc ks loc (st) h = wps rm K Q c_X_clear_11 kc ks loc (.long (-1000000000000000001) :: st) h := rfl
theorem s_X_clear_11  {a1 : Value} {x : Nat} : wps rm K Q c_X_clear_11 kc ks loc (a1 :: .ref (x + 1) :: st) h = (eg_cls h x 11 ∧ st.length ≤ 4 ∧ eg_Cs n_X_found (.ref (x + 1) :: [a1]) h (fun v h9 => wps rm K Q c_X_clear_14 kc ks loc (v.toList ++ st) h9)) := eg_c1_1
theorem s_X_clear_14 {x : Int64} : wps rm K Q c_X_clear_14 kc ks loc ([.long x]) h = (kc = rm.cells ∧ Q (some (.long x)) h) := rfl
theorem s_X_clear_15 {x : Nat} {l : eg_Lo} : wps rm K Q c_X_clear_15 kc ks (some (.ref x) :: l) (st) h = wps rm K Q c_X_clear_16 kc ks (some (.ref x) :: l) (.ref x :: st) h := rfl
theorem s_X_clear_16 {x : Nat} : wps rm K Q c_X_clear_16 kc ks loc (.ref (x + 1) :: st) h = eg_gf h x 11 0 (fun v => wps rm K Q c_X_clear_19 kc ks loc (v :: st) h) := rfl
theorem s_X_clear_19 {x : Int32} {l0 : Option Value} {l : eg_Lo} : wps rm K Q c_X_clear_19 kc ks (l0 :: some (.int x) :: l) (st) h = wps rm K Q c_X_clear_20 kc ks (l0 :: some (.int x) :: l) (.int x :: st) h := rfl
theorem s_X_clear_20 {x : Nat} {i : Int32} : wps rm K Q c_X_clear_20 kc ks loc (.int i :: .ref (x + 1) :: st) h = eg_aa h x i (fun v => wps rm K Q c_X_clear_21 kc ks loc (v :: st) h) := rfl
theorem s_X_clear_21  {x : Nat} : wps rm K Q c_X_clear_21 kc ks loc (.ref (x + 1) :: st) h = (eg_cls h x 8 ∧ st.length ≤ 4 ∧ eg_Cs n_Part_empty (.ref (x + 1) :: []) h (fun v h9 => wps rm K Q c_X_clear_24 kc ks loc (v.toList ++ st) h9)) := eg_c1_0
theorem s_X_clear_24 {x : Int32} : wps rm K Q c_X_clear_24 kc ks loc (.int x :: st) h = wps rm K Q c_X_clear_25 kc ks loc (.long (x.toInt64) :: st) h := rfl
theorem s_X_clear_25 {x : Int64} : wps rm K Q c_X_clear_25 kc ks loc ([.long x]) h = (kc = rm.cells ∧ Q (some (.long x)) h) := rfl
def T_X_clear : List (Nat × List eg_I) := [(15, c_X_clear_15)]
theorem j_X_clear_15 {R : Nat → Nat → Nat → eg_Lo → List Value → List eg_E → Prop} {f pc0 : Nat} : eg_run rm R Q T_X_clear (f + 1) 15 kc ks loc st h = wps rm (eg_run rm R Q T_X_clear f) Q c_X_clear_15 kc ks loc st h := rfl
end
theorem q_X_clear : (T_X_clear.all fun q => eg_seq m_X_clear q.1 q.2) = true := by decide +kernel
theorem b_X_clear {as : List Value} {h : List eg_E} {Q : Option Value → List eg_E → Prop} (hf : (eg_fl as).length ≤ 2) (hw : wps (eg_rm m_X_clear) (eg_run (eg_rm m_X_clear) (eg_R m_X_clear Q (h.length + 0)) Q T_X_clear 3) Q c_X_clear_0 0 0 (eg_entry 2 as) [] h) : eg_Runs n_X_clear as h Q := eg_begin (d := m_X_clear) rfl (by decide) (by decide +kernel) q_X_clear hf hw
/-! ===== X_at ===== -/
def c_X_at_91 : List eg_I := .inl (91, 1, .lreturn, 0, 0) :: []
def c_X_at_90 : List eg_I := .inl (90, 1, .i2l, 0, 0) :: c_X_at_91
def c_X_at_89 : List eg_I := .inl (89, 1, .iaload, 0, 0) :: c_X_at_90
def c_X_at_88 : List eg_I := .inl (88, 1, .iload 2, 0, 0) :: c_X_at_89
def c_X_at_85 : List eg_I := .inl (85, 3, .getfield 122, 8, 2) :: c_X_at_88
def c_X_at_83 : List eg_I := .inl (83, 2, .aload 4, 0, 0) :: c_X_at_85
def c_X_at_80 : List eg_I := .inl (80, 3, .goto (11), 91, 0) :: []
def c_X_at_79 : List eg_I := .inl (79, 1, .i2l, 0, 0) :: c_X_at_80
def c_X_at_78 : List eg_I := .inl (78, 1, .iaload, 0, 0) :: c_X_at_79
def c_X_at_77 : List eg_I := .inl (77, 1, .iload 2, 0, 0) :: c_X_at_78
def c_X_at_74 : List eg_I := .inl (74, 3, .getfield 119, 8, 1) :: c_X_at_77
def c_X_at_72 : List eg_I := .inl (72, 2, .aload 4, 0, 0) :: c_X_at_74
def c_X_at_69 : List eg_I := .inl (69, 3, .if_icmp .ne (14), 83, 0) :: c_X_at_72
def c_X_at_68 : List eg_I := .inl (68, 1, .iconst (1), 0, 0) :: c_X_at_69
def c_X_at_67 : List eg_I := .inl (67, 1, .iload 3, 0, 0) :: c_X_at_68
def c_X_at_64 : List eg_I := .inl (64, 3, .goto (27), 91, 0) :: []
def c_X_at_63 : List eg_I := .inl (63, 1, .i2l, 0, 0) :: c_X_at_64
def c_X_at_62 : List eg_I := .inl (62, 1, .iaload, 0, 0) :: c_X_at_63
def c_X_at_61 : List eg_I := .inl (61, 1, .iload 2, 0, 0) :: c_X_at_62
def c_X_at_58 : List eg_I := .inl (58, 3, .getfield 115, 8, 0) :: c_X_at_61
def c_X_at_56 : List eg_I := .inl (56, 2, .aload 4, 0, 0) :: c_X_at_58
def c_X_at_53 : List eg_I := .inl (53, 3, .ifCond .ne (14), 67, 0) :: c_X_at_56
def c_X_at_52 : List eg_I := .inl (52, 1, .iload 3, 0, 0) :: c_X_at_53
def c_X_at_51 : List eg_I := .inl (51, 1, .lreturn, 0, 0) :: []
def c_X_at_48 : List eg_I := .inr (48, 1, 86, n_X_found, 1, 11, 0, 0) :: c_X_at_51
def c_X_at_45 : List eg_I := .inl (45, 3, .sipush (-1000000000000000007), 113, 0) :: c_X_at_48
def c_X_at_44 : List eg_I := .inl (44, 1, .aload 0, 0, 0) :: c_X_at_45
def c_X_at_41 : List eg_I := .inl (41, 3, .ifCond .eq (11), 52, 0) :: c_X_at_44
def c_X_at_40 : List eg_I := .inl (40, 1, .baload, 0, 0) :: c_X_at_41
def c_X_at_39 : List eg_I := .inl (39, 1, .iload 2, 0, 0) :: c_X_at_40
def c_X_at_36 : List eg_I := .inl (36, 3, .getfield 109, 8, 3) :: c_X_at_39
def c_X_at_34 : List eg_I := .inl (34, 2, .aload 4, 0, 0) :: c_X_at_36
def c_X_at_32 : List eg_I := .inl (32, 2, .astore 4, 0, 0) :: c_X_at_34
def c_X_at_31 : List eg_I := .inl (31, 1, .aaload, 0, 0) :: c_X_at_32
def c_X_at_30 : List eg_I := .inl (30, 1, .iload 1, 0, 0) :: c_X_at_31
def c_X_at_27 : List eg_I := .inl (27, 3, .getfield 11, 11, 0) :: c_X_at_30
def c_X_at_26 : List eg_I := .inl (26, 1, .aload 0, 0, 0) :: c_X_at_27
def c_X_at_25 : List eg_I := .inl (25, 1, .lreturn, 0, 0) :: []
def c_X_at_22 : List eg_I := .inr (22, 1, 86, n_X_found, 1, 11, 0, 0) :: c_X_at_25
def c_X_at_19 : List eg_I := .inl (19, 3, .sipush (-1000000000000000001), 84, 0) :: c_X_at_22
def c_X_at_18 : List eg_I := .inl (18, 1, .aload 0, 0, 0) :: c_X_at_19
def c_X_at_15 : List eg_I := .inl (15, 3, .ifCond .ne (11), 26, 0) :: c_X_at_18
def c_X_at_12 : List eg_I := .inr (12, 0, 80, n_X_isWithin, 3, 11, 0, 0) :: c_X_at_15
def c_X_at_11 : List eg_I := .inl (11, 1, .iconst (2), 0, 0) :: c_X_at_12
def c_X_at_10 : List eg_I := .inl (10, 1, .iconst (0), 0, 0) :: c_X_at_11
def c_X_at_9 : List eg_I := .inl (9, 1, .iload 3, 0, 0) :: c_X_at_10
def c_X_at_6 : List eg_I := .inl (6, 3, .ifCond .eq (12), 18, 0) :: c_X_at_9
def c_X_at_3 : List eg_I := .inr (3, 1, 106, n_X_isPoint, 2, 11, 0, 0) :: c_X_at_6
def c_X_at_2 : List eg_I := .inl (2, 1, .iload 2, 0, 0) :: c_X_at_3
def c_X_at_1 : List eg_I := .inl (1, 1, .iload 1, 0, 0) :: c_X_at_2
def c_X_at_0 : List eg_I := .inl (0, 1, .aload 0, 0, 0) :: c_X_at_1
section
variable {rm : Room} {K : Nat → Nat → Nat → eg_Lo → List Value → List eg_E → Prop} {Q : Option Value → List eg_E → Prop} {kc ks : Nat} {loc : eg_Lo} {st : List Value} {h : List eg_E}
theorem s_X_at_0 {x : Nat} {l : eg_Lo} : wps rm K Q c_X_at_0 kc ks (some (.ref x) :: l) (st) h = wps rm K Q c_X_at_1 kc ks (some (.ref x) :: l) (.ref x :: st) h := rfl
theorem s_X_at_1 {x : Int32} {l0 : Option Value} {l : eg_Lo} : wps rm K Q c_X_at_1 kc ks (l0 :: some (.int x) :: l) (st) h = wps rm K Q c_X_at_2 kc ks (l0 :: some (.int x) :: l) (.int x :: st) h := rfl
theorem s_X_at_2 {x : Int32} {l0 l1 : Option Value} {l : eg_Lo} : wps rm K Q c_X_at_2 kc ks (l0 :: l1 :: some (.int x) :: l) (st) h = wps rm K Q c_X_at_3 kc ks (l0 :: l1 :: some (.int x) :: l) (.int x :: st) h := rfl
theorem s_X_at_3  {a1 : Value} {a2 : Value} {x : Nat} : wps rm K Q c_X_at_3 kc ks loc (a2 :: a1 :: .ref (x + 1) :: st) h = (eg_cls h x 11 ∧ st.length ≤ 4 ∧ eg_Cs n_X_isPoint (.ref (x + 1) :: [a1, a2]) h (fun v h9 => wps rm K Q c_X_at_6 kc ks loc (v.toList ++ st) h9)) := eg_c1_2
theorem s_X_at_6 {x : Int32} : wps rm K Q c_X_at_6 kc ks loc (.int x :: st) h = ((x = 0 → K 18 kc ks loc st h) ∧ (¬ x = 0 → wps rm K Q c_X_at_9 kc ks loc (st) h)) := rfl
theorem s_X_at_9 {x : Int32} {l0 l1 l2 : Option Value} {l : eg_Lo} : wps rm K Q c_X_at_9 kc ks (l0 :: l1 :: l2 :: some (.int x) :: l) (st) h = wps rm K Q c_X_at_10 kc ks (l0 :: l1 :: l2 :: some (.int x) :: l) (.int x :: st) h := rfl
theorem s_X_at_10  : wps rm K Q c_X_at_10 kc ks loc (st) h = wps rm K Q c_X_at_11 kc ks loc (.int (0) :: st) h := rfl
theorem s_X_at_11  : wps rm K Q c_X_at_11 kc ks loc (st) h = wps rm K Q c_X_at_12 kc ks loc (.int (2) :: st) h := rfl
theorem s_X_at_12  {a1 : Value} {a2 : Value} {a3 : Value} : wps rm K Q c_X_at_12 kc ks loc (a3 :: a2 :: a1 :: st) h = (st.length ≤ 4 ∧ eg_Cs n_X_isWithin [a1, a2, a3] h (fun v h9 => wps rm K Q c_X_at_15 kc ks loc (v.toList ++ st) h9)) := eg_c0_3
theorem s_X_at_15 {x : Int32} : wps rm K Q c_X_at_15 kc ks loc (.int x :: st) h = ((¬ x = 0 → K 26 kc ks loc st h) ∧ (x = 0 → wps rm K Q c_X_at_18 kc ks loc (st) h)) := rfl
theorem s_X_at_18 {x : Nat} {l : eg_Lo} : wps rm K Q c_X_at_18 kc ks (some (.ref x) :: l) (st) h = wps rm K Q c_X_at_19 kc ks (some (.ref x) :: l) (.ref x :: st) h := rfl
theorem s_X_at_19  : wps rm K Q c_X_at_19 kc ks loc (st) h = wps rm K Q c_X_at_22 kc ks loc (.long (-1000000000000000001) :: st) h := rfl
theorem s_X_at_22  {a1 : Value} {x : Nat} : wps rm K Q c_X_at_22 kc ks loc (a1 :: .ref (x + 1) :: st) h = (eg_cls h x 11 ∧ st.length ≤ 4 ∧ eg_Cs n_X_found (.ref (x + 1) :: [a1]) h (fun v h9 => wps rm K Q c_X_at_25 kc ks loc (v.toList ++ st) h9)) := eg_c1_1
theorem s_X_at_25 {x : Int64} : wps rm K Q c_X_at_25 kc ks loc ([.long x]) h = (kc = rm.cells ∧ Q (some (.long x)) h) := rfl
theorem s_X_at_26 {x : Nat} {l : eg_Lo} : wps rm K Q c_X_at_26 kc ks (some (.ref x) :: l) (st) h = wps rm K Q c_X_at_27 kc ks (some (.ref x) :: l) (.ref x :: st) h := rfl
theorem s_X_at_27 {x : Nat} : wps rm K Q c_X_at_27 kc ks loc (.ref (x + 1) :: st) h = eg_gf h x 11 0 (fun v => wps rm K Q c_X_at_30 kc ks loc (v :: st) h) := rfl
theorem s_X_at_30 {x : Int32} {l0 : Option Value} {l : eg_Lo} : wps rm K Q c_X_at_30 kc ks (l0 :: some (.int x) :: l) (st) h = wps rm K Q c_X_at_31 kc ks (l0 :: some (.int x) :: l) (.int x :: st) h := rfl
theorem s_X_at_31 {x : Nat} {i : Int32} : wps rm K Q c_X_at_31 kc ks loc (.int i :: .ref (x + 1) :: st) h = eg_aa h x i (fun v => wps rm K Q c_X_at_32 kc ks loc (v :: st) h) := rfl
theorem s_X_at_32 {x : Nat} : wps rm K Q c_X_at_32 kc ks loc (.ref x :: st) h = wps rm K Q c_X_at_34 kc ks (eg_set1 loc 4 (.ref x)) (st) h := rfl
theorem s_X_at_34 {x : Nat} {l0 l1 l2 l3 : Option Value} {l : eg_Lo} : wps rm K Q c_X_at_34 kc ks (l0 :: l1 :: l2 :: l3 :: some (.ref x) :: l) (st) h = wps rm K Q c_X_at_36 kc ks (l0 :: l1 :: l2 :: l3 :: some (.ref x) :: l) (.ref x :: st) h := rfl
theorem s_X_at_36 {x : Nat} : wps rm K Q c_X_at_36 kc ks loc (.ref (x + 1) :: st) h = eg_gf h x 8 3 (fun v => wps rm K Q c_X_at_39 kc ks loc (v :: st) h) := rfl
theorem s_X_at_39 {x : Int32} {l0 l1 : Option Value} {l : eg_Lo} : wps rm K Q c_X_at_39 kc ks (l0 :: l1 :: some (.int x) :: l) (st) h = wps rm K Q c_X_at_40 kc ks (l0 :: l1 :: some (.int x) :: l) (.int x :: st) h := rfl
theorem s_X_at_40 {x : Nat} {i : Int32} : wps rm K Q c_X_at_40 kc ks loc (.int i :: .ref (x + 1) :: st) h = eg_ba h x i (fun v => wps rm K Q c_X_at_41 kc ks loc (.int v :: st) h) := rfl
theorem s_X_at_41 {x : Int32} : wps rm K Q c_X_at_41 kc ks loc (.int x :: st) h = ((x = 0 → K 52 kc ks loc st h) ∧ (¬ x = 0 → wps rm K Q c_X_at_44 kc ks loc (st) h)) := rfl
theorem s_X_at_44 {x : Nat} {l : eg_Lo} : wps rm K Q c_X_at_44 kc ks (some (.ref x) :: l) (st) h = wps rm K Q c_X_at_45 kc ks (some (.ref x) :: l) (.ref x :: st) h := rfl
theorem s_X_at_45  : wps rm K Q c_X_at_45 kc ks loc (st) h = wps rm K Q c_X_at_48 kc ks loc (.long (-1000000000000000007) :: st) h := rfl
theorem s_X_at_48  {a1 : Value} {x : Nat} : wps rm K Q c_X_at_48 kc ks loc (a1 :: .ref (x + 1) :: st) h = (eg_cls h x 11 ∧ st.length ≤ 4 ∧ eg_Cs n_X_found (.ref (x + 1) :: [a1]) h (fun v h9 => wps rm K Q c_X_at_51 kc ks loc (v.toList ++ st) h9)) := eg_c1_1
theorem s_X_at_51 {x : Int64} : wps rm K Q c_X_at_51 kc ks loc ([.long x]) h = (kc = rm.cells ∧ Q (some (.long x)) h) := rfl
theorem s_X_at_52 {x : Int32} {l0 l1 l2 : Option Value} {l : eg_Lo} : wps rm K Q c_X_at_52 kc ks (l0 :: l1 :: l2 :: some (.int x) :: l) (st) h = wps rm K Q c_X_at_53 kc ks (l0 :: l1 :: l2 :: some (.int x) :: l) (.int x :: st) h := rfl
theorem s_X_at_53 {x : Int32} : wps rm K Q c_X_at_53 kc ks loc (.int x :: st) h = ((¬ x = 0 → K 67 kc ks loc st h) ∧ (x = 0 → wps rm K Q c_X_at_56 kc ks loc (st) h)) := rfl
theorem s_X_at_56 {x : Nat} {l0 l1 l2 l3 : Option Value} {l : eg_Lo} : wps rm K Q c_X_at_56 kc ks (l0 :: l1 :: l2 :: l3 :: some (.ref x) :: l) (st) h = wps rm K Q c_X_at_58 kc ks (l0 :: l1 :: l2 :: l3 :: some (.ref x) :: l) (.ref x :: st) h := rfl
theorem s_X_at_58 {x : Nat} : wps rm K Q c_X_at_58 kc ks loc (.ref (x + 1) :: st) h = eg_gf h x 8 0 (fun v => wps rm K Q c_X_at_61 kc ks loc (v :: st) h) := rfl
theorem s_X_at_61 {x : Int32} {l0 l1 : Option Value} {l : eg_Lo} : wps rm K Q c_X_at_61 kc ks (l0 :: l1 :: some (.int x) :: l) (st) h = wps rm K Q c_X_at_62 kc ks (l0 :: l1 :: some (.int x) :: l) (.int x :: st) h := rfl
theorem s_X_at_62 {x : Nat} {i : Int32} : wps rm K Q c_X_at_62 kc ks loc (.int i :: .ref (x + 1) :: st) h = eg_ia h x i (fun v => wps rm K Q c_X_at_63 kc ks loc (.int v :: st) h) := rfl
theorem s_X_at_63 {x : Int32} : wps rm K Q c_X_at_63 kc ks loc (.int x :: st) h = wps rm K Q c_X_at_64 kc ks loc (.long (x.toInt64) :: st) h := rfl
theorem s_X_at_64  : wps rm K Q c_X_at_64 kc ks loc (st) h = K 91 kc ks loc st h := rfl
theorem s_X_at_67 {x : Int32} {l0 l1 l2 : Option Value} {l : eg_Lo} : wps rm K Q c_X_at_67 kc ks (l0 :: l1 :: l2 :: some (.int x) :: l) (st) h = wps rm K Q c_X_at_68 kc ks (l0 :: l1 :: l2 :: some (.int x) :: l) (.int x :: st) h := rfl
theorem s_X_at_68  : wps rm K Q c_X_at_68 kc ks loc (st) h = wps rm K Q c_X_at_69 kc ks loc (.int (1) :: st) h := rfl
theorem s_X_at_69 {x y : Int32} : wps rm K Q c_X_at_69 kc ks loc (.int y :: .int x :: st) h = ((¬ x = y → K 83 kc ks loc st h) ∧ (x = y → wps rm K Q c_X_at_72 kc ks loc (st) h)) := rfl
theorem s_X_at_72 {x : Nat} {l0 l1 l2 l3 : Option Value} {l : eg_Lo} : wps rm K Q c_X_at_72 kc ks (l0 :: l1 :: l2 :: l3 :: some (.ref x) :: l) (st) h = wps rm K Q c_X_at_74 kc ks (l0 :: l1 :: l2 :: l3 :: some (.ref x) :: l) (.ref x :: st) h := rfl
theorem s_X_at_74 {x : Nat} : wps rm K Q c_X_at_74 kc ks loc (.ref (x + 1) :: st) h = eg_gf h x 8 1 (fun v => wps rm K Q c_X_at_77 kc ks loc (v :: st) h) := rfl
theorem s_X_at_77 {x : Int32} {l0 l1 : Option Value} {l : eg_Lo} : wps rm K Q c_X_at_77 kc ks (l0 :: l1 :: some (.int x) :: l) (st) h = wps rm K Q c_X_at_78 kc ks (l0 :: l1 :: some (.int x) :: l) (.int x :: st) h := rfl
theorem s_X_at_78 {x : Nat} {i : Int32} : wps rm K Q c_X_at_78 kc ks loc (.int i :: .ref (x + 1) :: st) h = eg_ia h x i (fun v => wps rm K Q c_X_at_79 kc ks loc (.int v :: st) h) := rfl
theorem s_X_at_79 {x : Int32} : wps rm K Q c_X_at_79 kc ks loc (.int x :: st) h = wps rm K Q c_X_at_80 kc ks loc (.long (x.toInt64) :: st) h := rfl
theorem s_X_at_80  : wps rm K Q c_X_at_80 kc ks loc (st) h = K 91 kc ks loc st h := rfl
theorem s_X_at_83 {x : Nat} {l0 l1 l2 l3 : Option Value} {l : eg_Lo} : wps rm K Q c_X_at_83 kc ks (l0 :: l1 :: l2 :: l3 :: some (.ref x) :: l) (st) h = wps rm K Q c_X_at_85 kc ks (l0 :: l1 :: l2 :: l3 :: some (.ref x) :: l) (.ref x :: st) h := rfl
theorem s_X_at_85 {x : Nat} : wps rm K Q c_X_at_85 kc ks loc (.ref (x + 1) :: st) h = eg_gf h x 8 2 (fun v => wps rm K Q c_X_at_88 kc ks loc (v :: st) h) := rfl
theorem s_X_at_88 {x : Int32} {l0 l1 : Option Value} {l : eg_Lo} : wps rm K Q c_X_at_88 kc ks (l0 :: l1 :: some (.int x) :: l) (st) h = wps rm K Q c_X_at_89 kc ks (l0 :: l1 :: some (.int x) :: l) (.int x :: st) h := rfl
theorem s_X_at_89 {x : Nat} {i : Int32} : wps rm K Q c_X_at_89 kc ks loc (.int i :: .ref (x + 1) :: st) h = eg_ia h x i (fun v => wps rm K Q c_X_at_90 kc ks loc (.int v :: st) h) := rfl
theorem s_X_at_90 {x : Int32} : wps rm K Q c_X_at_90 kc ks loc (.int x :: st) h = wps rm K Q c_X_at_91 kc ks loc (.long (x.toInt64) :: st) h := rfl
theorem s_X_at_91 {x : Int64} : wps rm K Q c_X_at_91 kc ks loc ([.long x]) h = (kc = rm.cells ∧ Q (some (.long x)) h) := rfl
def T_X_at : List (Nat × List eg_I) := [(18, c_X_at_18), (26, c_X_at_26), (52, c_X_at_52), (67, c_X_at_67), (83, c_X_at_83), (91, c_X_at_91)]
theorem j_X_at_18 {R : Nat → Nat → Nat → eg_Lo → List Value → List eg_E → Prop} {f pc0 : Nat} : eg_run rm R Q T_X_at (f + 1) 18 kc ks loc st h = wps rm (eg_run rm R Q T_X_at f) Q c_X_at_18 kc ks loc st h := rfl
theorem j_X_at_26 {R : Nat → Nat → Nat → eg_Lo → List Value → List eg_E → Prop} {f pc0 : Nat} : eg_run rm R Q T_X_at (f + 1) 26 kc ks loc st h = wps rm (eg_run rm R Q T_X_at f) Q c_X_at_26 kc ks loc st h := rfl
theorem j_X_at_52 {R : Nat → Nat → Nat → eg_Lo → List Value → List eg_E → Prop} {f pc0 : Nat} : eg_run rm R Q T_X_at (f + 1) 52 kc ks loc st h = wps rm (eg_run rm R Q T_X_at f) Q c_X_at_52 kc ks loc st h := rfl
theorem j_X_at_67 {R : Nat → Nat → Nat → eg_Lo → List Value → List eg_E → Prop} {f pc0 : Nat} : eg_run rm R Q T_X_at (f + 1) 67 kc ks loc st h = wps rm (eg_run rm R Q T_X_at f) Q c_X_at_67 kc ks loc st h := rfl
theorem j_X_at_83 {R : Nat → Nat → Nat → eg_Lo → List Value → List eg_E → Prop} {f pc0 : Nat} : eg_run rm R Q T_X_at (f + 1) 83 kc ks loc st h = wps rm (eg_run rm R Q T_X_at f) Q c_X_at_83 kc ks loc st h := rfl
theorem j_X_at_91 {R : Nat → Nat → Nat → eg_Lo → List Value → List eg_E → Prop} {f pc0 : Nat} : eg_run rm R Q T_X_at (f + 1) 91 kc ks loc st h = wps rm (eg_run rm R Q T_X_at f) Q c_X_at_91 kc ks loc st h := rfl
end
theorem q_X_at : (T_X_at.all fun q => eg_seq m_X_at q.1 q.2) = true := by decide +kernel
theorem b_X_at {as : List Value} {h : List eg_E} {Q : Option Value → List eg_E → Prop} (hf : (eg_fl as).length ≤ 5) (hw : wps (eg_rm m_X_at) (eg_run (eg_rm m_X_at) (eg_R m_X_at Q (h.length + 0)) Q T_X_at 8) Q c_X_at_0 0 0 (eg_entry 5 as) [] h) : eg_Runs n_X_at as h Q := eg_begin (d := m_X_at) rfl (by decide) (by decide +kernel) q_X_at hf hw
/-! ===== X_points ===== -/
def c_X_points_42 : List eg_I := .inl (42, 1, .lreturn, 0, 0) :: []
def c_X_points_41 : List eg_I := .inl (41, 1, .i2l, 0, 0) :: c_X_points_42
def c_X_points_38 : List eg_I := .inl (38, 3, .getfield 128, 8, 4) :: c_X_points_41
def c_X_points_37 : List eg_I := .inl (37, 1, .aaload, 0, 0) :: c_X_points_38
def c_X_points_36 : List eg_I := .inl (36, 1, .iload 1, 0, 0) :: c_X_points_37
def c_X_points_33 : List eg_I := .inl (33, 3, .getfield 11, 11, 0) :: c_X_points_36
def c_X_points_32 : List eg_I := .inl (32, 1, .aload 0, 0, 0) :: c_X_points_33
def c_X_points_29 : List eg_I := .inl (29, 3, .goto (13), 42, 0) :: []
def c_X_points_28 : List eg_I := .inl (28, 1, .i2l, 0, 0) :: c_X_points_29
def c_X_points_25 : List eg_I := .inr (25, 1, 125, n_Part_touchedCount, 0, 8, 0, 0) :: c_X_points_28
def c_X_points_24 : List eg_I := .inl (24, 1, .aaload, 0, 0) :: c_X_points_25
def c_X_points_23 : List eg_I := .inl (23, 1, .iload 1, 0, 0) :: c_X_points_24
def c_X_points_20 : List eg_I := .inl (20, 3, .getfield 11, 11, 0) :: c_X_points_23
def c_X_points_19 : List eg_I := .inl (19, 1, .aload 0, 0, 0) :: c_X_points_20
def c_X_points_16 : List eg_I := .inl (16, 3, .ifCond .eq (16), 32, 0) :: c_X_points_19
def c_X_points_15 : List eg_I := .inl (15, 1, .iload 2, 0, 0) :: c_X_points_16
def c_X_points_14 : List eg_I := .inl (14, 1, .lreturn, 0, 0) :: []
def c_X_points_11 : List eg_I := .inr (11, 1, 86, n_X_found, 1, 11, 0, 0) :: c_X_points_14
def c_X_points_8 : List eg_I := .inl (8, 3, .sipush (-1000000000000000001), 84, 0) :: c_X_points_11
def c_X_points_7 : List eg_I := .inl (7, 1, .aload 0, 0, 0) :: c_X_points_8
def c_X_points_4 : List eg_I := .inl (4, 3, .ifCond .ne (11), 15, 0) :: c_X_points_7
def c_X_points_1 : List eg_I := .inr (1, 0, 72, n_X_isPart, 1, 11, 0, 0) :: c_X_points_4
def c_X_points_0 : List eg_I := .inl (0, 1, .iload 1, 0, 0) :: c_X_points_1
section
variable {rm : Room} {K : Nat → Nat → Nat → eg_Lo → List Value → List eg_E → Prop} {Q : Option Value → List eg_E → Prop} {kc ks : Nat} {loc : eg_Lo} {st : List Value} {h : List eg_E}
theorem s_X_points_0 {x : Int32} {l0 : Option Value} {l : eg_Lo} : wps rm K Q c_X_points_0 kc ks (l0 :: some (.int x) :: l) (st) h = wps rm K Q c_X_points_1 kc ks (l0 :: some (.int x) :: l) (.int x :: st) h := rfl
theorem s_X_points_1  {a1 : Value} : wps rm K Q c_X_points_1 kc ks loc (a1 :: st) h = (st.length ≤ 4 ∧ eg_Cs n_X_isPart [a1] h (fun v h9 => wps rm K Q c_X_points_4 kc ks loc (v.toList ++ st) h9)) := eg_c0_1
theorem s_X_points_4 {x : Int32} : wps rm K Q c_X_points_4 kc ks loc (.int x :: st) h = ((¬ x = 0 → K 15 kc ks loc st h) ∧ (x = 0 → wps rm K Q c_X_points_7 kc ks loc (st) h)) := rfl
theorem s_X_points_7 {x : Nat} {l : eg_Lo} : wps rm K Q c_X_points_7 kc ks (some (.ref x) :: l) (st) h = wps rm K Q c_X_points_8 kc ks (some (.ref x) :: l) (.ref x :: st) h := rfl
theorem s_X_points_8  : wps rm K Q c_X_points_8 kc ks loc (st) h = wps rm K Q c_X_points_11 kc ks loc (.long (-1000000000000000001) :: st) h := rfl
theorem s_X_points_11  {a1 : Value} {x : Nat} : wps rm K Q c_X_points_11 kc ks loc (a1 :: .ref (x + 1) :: st) h = (eg_cls h x 11 ∧ st.length ≤ 4 ∧ eg_Cs n_X_found (.ref (x + 1) :: [a1]) h (fun v h9 => wps rm K Q c_X_points_14 kc ks loc (v.toList ++ st) h9)) := eg_c1_1
theorem s_X_points_14 {x : Int64} : wps rm K Q c_X_points_14 kc ks loc ([.long x]) h = (kc = rm.cells ∧ Q (some (.long x)) h) := rfl
theorem s_X_points_15 {x : Int32} {l0 l1 : Option Value} {l : eg_Lo} : wps rm K Q c_X_points_15 kc ks (l0 :: l1 :: some (.int x) :: l) (st) h = wps rm K Q c_X_points_16 kc ks (l0 :: l1 :: some (.int x) :: l) (.int x :: st) h := rfl
theorem s_X_points_16 {x : Int32} : wps rm K Q c_X_points_16 kc ks loc (.int x :: st) h = ((x = 0 → K 32 kc ks loc st h) ∧ (¬ x = 0 → wps rm K Q c_X_points_19 kc ks loc (st) h)) := rfl
theorem s_X_points_19 {x : Nat} {l : eg_Lo} : wps rm K Q c_X_points_19 kc ks (some (.ref x) :: l) (st) h = wps rm K Q c_X_points_20 kc ks (some (.ref x) :: l) (.ref x :: st) h := rfl
theorem s_X_points_20 {x : Nat} : wps rm K Q c_X_points_20 kc ks loc (.ref (x + 1) :: st) h = eg_gf h x 11 0 (fun v => wps rm K Q c_X_points_23 kc ks loc (v :: st) h) := rfl
theorem s_X_points_23 {x : Int32} {l0 : Option Value} {l : eg_Lo} : wps rm K Q c_X_points_23 kc ks (l0 :: some (.int x) :: l) (st) h = wps rm K Q c_X_points_24 kc ks (l0 :: some (.int x) :: l) (.int x :: st) h := rfl
theorem s_X_points_24 {x : Nat} {i : Int32} : wps rm K Q c_X_points_24 kc ks loc (.int i :: .ref (x + 1) :: st) h = eg_aa h x i (fun v => wps rm K Q c_X_points_25 kc ks loc (v :: st) h) := rfl
theorem s_X_points_25  {x : Nat} : wps rm K Q c_X_points_25 kc ks loc (.ref (x + 1) :: st) h = (eg_cls h x 8 ∧ st.length ≤ 4 ∧ eg_Cs n_Part_touchedCount (.ref (x + 1) :: []) h (fun v h9 => wps rm K Q c_X_points_28 kc ks loc (v.toList ++ st) h9)) := eg_c1_0
theorem s_X_points_28 {x : Int32} : wps rm K Q c_X_points_28 kc ks loc (.int x :: st) h = wps rm K Q c_X_points_29 kc ks loc (.long (x.toInt64) :: st) h := rfl
theorem s_X_points_29  : wps rm K Q c_X_points_29 kc ks loc (st) h = K 42 kc ks loc st h := rfl
theorem s_X_points_32 {x : Nat} {l : eg_Lo} : wps rm K Q c_X_points_32 kc ks (some (.ref x) :: l) (st) h = wps rm K Q c_X_points_33 kc ks (some (.ref x) :: l) (.ref x :: st) h := rfl
theorem s_X_points_33 {x : Nat} : wps rm K Q c_X_points_33 kc ks loc (.ref (x + 1) :: st) h = eg_gf h x 11 0 (fun v => wps rm K Q c_X_points_36 kc ks loc (v :: st) h) := rfl
theorem s_X_points_36 {x : Int32} {l0 : Option Value} {l : eg_Lo} : wps rm K Q c_X_points_36 kc ks (l0 :: some (.int x) :: l) (st) h = wps rm K Q c_X_points_37 kc ks (l0 :: some (.int x) :: l) (.int x :: st) h := rfl
theorem s_X_points_37 {x : Nat} {i : Int32} : wps rm K Q c_X_points_37 kc ks loc (.int i :: .ref (x + 1) :: st) h = eg_aa h x i (fun v => wps rm K Q c_X_points_38 kc ks loc (v :: st) h) := rfl
theorem s_X_points_38 {x : Nat} : wps rm K Q c_X_points_38 kc ks loc (.ref (x + 1) :: st) h = eg_gf h x 8 4 (fun v => wps rm K Q c_X_points_41 kc ks loc (v :: st) h) := rfl
theorem s_X_points_41 {x : Int32} : wps rm K Q c_X_points_41 kc ks loc (.int x :: st) h = wps rm K Q c_X_points_42 kc ks loc (.long (x.toInt64) :: st) h := rfl
theorem s_X_points_42 {x : Int64} : wps rm K Q c_X_points_42 kc ks loc ([.long x]) h = (kc = rm.cells ∧ Q (some (.long x)) h) := rfl
def T_X_points : List (Nat × List eg_I) := [(15, c_X_points_15), (32, c_X_points_32), (42, c_X_points_42)]
theorem j_X_points_15 {R : Nat → Nat → Nat → eg_Lo → List Value → List eg_E → Prop} {f pc0 : Nat} : eg_run rm R Q T_X_points (f + 1) 15 kc ks loc st h = wps rm (eg_run rm R Q T_X_points f) Q c_X_points_15 kc ks loc st h := rfl
theorem j_X_points_32 {R : Nat → Nat → Nat → eg_Lo → List Value → List eg_E → Prop} {f pc0 : Nat} : eg_run rm R Q T_X_points (f + 1) 32 kc ks loc st h = wps rm (eg_run rm R Q T_X_points f) Q c_X_points_32 kc ks loc st h := rfl
theorem j_X_points_42 {R : Nat → Nat → Nat → eg_Lo → List Value → List eg_E → Prop} {f pc0 : Nat} : eg_run rm R Q T_X_points (f + 1) 42 kc ks loc st h = wps rm (eg_run rm R Q T_X_points f) Q c_X_points_42 kc ks loc st h := rfl
end
theorem q_X_points : (T_X_points.all fun q => eg_seq m_X_points q.1 q.2) = true := by decide +kernel
theorem b_X_points {as : List Value} {h : List eg_E} {Q : Option Value → List eg_E → Prop} (hf : (eg_fl as).length ≤ 3) (hw : wps (eg_rm m_X_points) (eg_run (eg_rm m_X_points) (eg_R m_X_points Q (h.length + 0)) Q T_X_points 5) Q c_X_points_0 0 0 (eg_entry 3 as) [] h) : eg_Runs n_X_points as h Q := eg_begin (d := m_X_points) rfl (by decide) (by decide +kernel) q_X_points hf hw
/-! ===== X_mend ===== -/
def c_X_mend_67 : List eg_I := .inl (67, 1, .lreturn, 0, 0) :: []
def c_X_mend_66 : List eg_I := .inl (66, 1, .i2l, 0, 0) :: c_X_mend_67
def c_X_mend_65 : List eg_I := .inl (65, 1, .iload 3, 0, 0) :: c_X_mend_66
def c_X_mend_62 : List eg_I := .inl (62, 3, .goto (-35), 27, 0) :: []
def c_X_mend_59 : List eg_I := .inl (59, 3, .iinc 4 (1), 0, 0) :: c_X_mend_62
def c_X_mend_56 : List eg_I := .inl (56, 3, .iinc 3 (1), 0, 0) :: c_X_mend_59
def c_X_mend_53 : List eg_I := .inl (53, 3, .ifCond .eq (6), 59, 0) :: c_X_mend_56
def c_X_mend_50 : List eg_I := .inr (50, 1, 132, n_X_mendPoint, 2, 11, 0, 0) :: c_X_mend_53
def c_X_mend_48 : List eg_I := .inl (48, 2, .iload 4, 0, 0) :: c_X_mend_50
def c_X_mend_47 : List eg_I := .inl (47, 1, .aload 2, 0, 0) :: c_X_mend_48
def c_X_mend_46 : List eg_I := .inl (46, 1, .aload 0, 0, 0) :: c_X_mend_47
def c_X_mend_43 : List eg_I := .inl (43, 3, .ifCond .ne (16), 59, 0) :: c_X_mend_46
def c_X_mend_42 : List eg_I := .inl (42, 1, .baload, 0, 0) :: c_X_mend_43
def c_X_mend_40 : List eg_I := .inl (40, 2, .iload 4, 0, 0) :: c_X_mend_42
def c_X_mend_37 : List eg_I := .inl (37, 3, .getfield 109, 8, 3) :: c_X_mend_40
def c_X_mend_36 : List eg_I := .inl (36, 1, .aload 2, 0, 0) :: c_X_mend_37
def c_X_mend_33 : List eg_I := .inl (33, 3, .if_icmp .ge (32), 65, 0) :: c_X_mend_36
def c_X_mend_30 : List eg_I := .inl (30, 3, .getfield 128, 8, 4) :: c_X_mend_33
def c_X_mend_29 : List eg_I := .inl (29, 1, .aload 2, 0, 0) :: c_X_mend_30
def c_X_mend_27 : List eg_I := .inl (27, 2, .iload 4, 0, 0) :: c_X_mend_29
def c_X_mend_25 : List eg_I := .inl (25, 2, .istore 4, 0, 0) :: [.inl (27, 0, .nop, 0, 0)]
def c_X_mend_24 : List eg_I := .inl (24, 1, .iconst (0), 0, 0) :: c_X_mend_25
def c_X_mend_23 : List eg_I := .inl (23, 1, .istore 3, 0, 0) :: c_X_mend_24
def c_X_mend_22 : List eg_I := .inl (22, 1, .iconst (0), 0, 0) :: c_X_mend_23
def c_X_mend_21 : List eg_I := .inl (21, 1, .astore 2, 0, 0) :: c_X_mend_22
def c_X_mend_20 : List eg_I := .inl (20, 1, .aaload, 0, 0) :: c_X_mend_21
def c_X_mend_19 : List eg_I := .inl (19, 1, .iload 1, 0, 0) :: c_X_mend_20
def c_X_mend_16 : List eg_I := .inl (16, 3, .getfield 11, 11, 0) :: c_X_mend_19
def c_X_mend_15 : List eg_I := .inl (15, 1, .aload 0, 0, 0) :: c_X_mend_16
def c_X_mend_14 : List eg_I := .inl (14, 1, .lreturn, 0, 0) :: []
def c_X_mend_11 : List eg_I := .inr (11, 1, 86, n_X_found, 1, 11, 0, 0) :: c_X_mend_14
def c_X_mend_8 : List eg_I := .inl (8, 3, .sipush (-1000000000000000001), 84, 0) :: c_X_mend_11
def c_X_mend_7 : List eg_I := .inl (7, 1, .aload 0, 0, 0) :: c_X_mend_8
def c_X_mend_4 : List eg_I := .inl (4, 3, .ifCond .ne (11), 15, 0) :: c_X_mend_7
def c_X_mend_1 : List eg_I := .inr (1, 0, 72, n_X_isPart, 1, 11, 0, 0) :: c_X_mend_4
def c_X_mend_0 : List eg_I := .inl (0, 1, .iload 1, 0, 0) :: c_X_mend_1
section
variable {rm : Room} {K : Nat → Nat → Nat → eg_Lo → List Value → List eg_E → Prop} {Q : Option Value → List eg_E → Prop} {kc ks : Nat} {loc : eg_Lo} {st : List Value} {h : List eg_E}
theorem s_X_mend_0 {x : Int32} {l0 : Option Value} {l : eg_Lo} : wps rm K Q c_X_mend_0 kc ks (l0 :: some (.int x) :: l) (st) h = wps rm K Q c_X_mend_1 kc ks (l0 :: some (.int x) :: l) (.int x :: st) h := rfl
theorem s_X_mend_1  {a1 : Value} : wps rm K Q c_X_mend_1 kc ks loc (a1 :: st) h = (st.length ≤ 4 ∧ eg_Cs n_X_isPart [a1] h (fun v h9 => wps rm K Q c_X_mend_4 kc ks loc (v.toList ++ st) h9)) := eg_c0_1
theorem s_X_mend_4 {x : Int32} : wps rm K Q c_X_mend_4 kc ks loc (.int x :: st) h = ((¬ x = 0 → K 15 kc ks loc st h) ∧ (x = 0 → wps rm K Q c_X_mend_7 kc ks loc (st) h)) := rfl
theorem s_X_mend_7 {x : Nat} {l : eg_Lo} : wps rm K Q c_X_mend_7 kc ks (some (.ref x) :: l) (st) h = wps rm K Q c_X_mend_8 kc ks (some (.ref x) :: l) (.ref x :: st) h := rfl
theorem s_X_mend_8  : wps rm K Q c_X_mend_8 kc ks loc (st) h = wps rm K Q c_X_mend_11 kc ks loc (.long (-1000000000000000001) :: st) h := rfl
theorem s_X_mend_11  {a1 : Value} {x : Nat} : wps rm K Q c_X_mend_11 kc ks loc (a1 :: .ref (x + 1) :: st) h = (eg_cls h x 11 ∧ st.length ≤ 4 ∧ eg_Cs n_X_found (.ref (x + 1) :: [a1]) h (fun v h9 => wps rm K Q c_X_mend_14 kc ks loc (v.toList ++ st) h9)) := eg_c1_1
theorem s_X_mend_14 {x : Int64} : wps rm K Q c_X_mend_14 kc ks loc ([.long x]) h = (kc = rm.cells ∧ Q (some (.long x)) h) := rfl
theorem s_X_mend_15 {x : Nat} {l : eg_Lo} : wps rm K Q c_X_mend_15 kc ks (some (.ref x) :: l) (st) h = wps rm K Q c_X_mend_16 kc ks (some (.ref x) :: l) (.ref x :: st) h := rfl
theorem s_X_mend_16 {x : Nat} : wps rm K Q c_X_mend_16 kc ks loc (.ref (x + 1) :: st) h = eg_gf h x 11 0 (fun v => wps rm K Q c_X_mend_19 kc ks loc (v :: st) h) := rfl
theorem s_X_mend_19 {x : Int32} {l0 : Option Value} {l : eg_Lo} : wps rm K Q c_X_mend_19 kc ks (l0 :: some (.int x) :: l) (st) h = wps rm K Q c_X_mend_20 kc ks (l0 :: some (.int x) :: l) (.int x :: st) h := rfl
theorem s_X_mend_20 {x : Nat} {i : Int32} : wps rm K Q c_X_mend_20 kc ks loc (.int i :: .ref (x + 1) :: st) h = eg_aa h x i (fun v => wps rm K Q c_X_mend_21 kc ks loc (v :: st) h) := rfl
theorem s_X_mend_21 {x : Nat} : wps rm K Q c_X_mend_21 kc ks loc (.ref x :: st) h = wps rm K Q c_X_mend_22 kc ks (eg_set1 loc 2 (.ref x)) (st) h := rfl
theorem s_X_mend_22  : wps rm K Q c_X_mend_22 kc ks loc (st) h = wps rm K Q c_X_mend_23 kc ks loc (.int (0) :: st) h := rfl
theorem s_X_mend_23 {x : Int32} : wps rm K Q c_X_mend_23 kc ks loc (.int x :: st) h = wps rm K Q c_X_mend_24 kc ks (eg_set1 loc 3 (.int x)) (st) h := rfl
theorem s_X_mend_24  : wps rm K Q c_X_mend_24 kc ks loc (st) h = wps rm K Q c_X_mend_25 kc ks loc (.int (0) :: st) h := rfl
theorem s_X_mend_25 {x : Int32} : wps rm K Q c_X_mend_25 kc ks loc (.int x :: st) h = K 27 kc ks (eg_set1 loc 4 (.int x)) (st) h := rfl
theorem s_X_mend_27 {x : Int32} {l0 l1 l2 l3 : Option Value} {l : eg_Lo} : wps rm K Q c_X_mend_27 kc ks (l0 :: l1 :: l2 :: l3 :: some (.int x) :: l) (st) h = wps rm K Q c_X_mend_29 kc ks (l0 :: l1 :: l2 :: l3 :: some (.int x) :: l) (.int x :: st) h := rfl
theorem s_X_mend_29 {x : Nat} {l0 l1 : Option Value} {l : eg_Lo} : wps rm K Q c_X_mend_29 kc ks (l0 :: l1 :: some (.ref x) :: l) (st) h = wps rm K Q c_X_mend_30 kc ks (l0 :: l1 :: some (.ref x) :: l) (.ref x :: st) h := rfl
theorem s_X_mend_30 {x : Nat} : wps rm K Q c_X_mend_30 kc ks loc (.ref (x + 1) :: st) h = eg_gf h x 8 4 (fun v => wps rm K Q c_X_mend_33 kc ks loc (v :: st) h) := rfl
theorem s_X_mend_33 {x y : Int32} : wps rm K Q c_X_mend_33 kc ks loc (.int y :: .int x :: st) h = ((y ≤ x → K 65 kc ks loc st h) ∧ (¬ y ≤ x → wps rm K Q c_X_mend_36 kc ks loc (st) h)) := rfl
theorem s_X_mend_36 {x : Nat} {l0 l1 : Option Value} {l : eg_Lo} : wps rm K Q c_X_mend_36 kc ks (l0 :: l1 :: some (.ref x) :: l) (st) h = wps rm K Q c_X_mend_37 kc ks (l0 :: l1 :: some (.ref x) :: l) (.ref x :: st) h := rfl
theorem s_X_mend_37 {x : Nat} : wps rm K Q c_X_mend_37 kc ks loc (.ref (x + 1) :: st) h = eg_gf h x 8 3 (fun v => wps rm K Q c_X_mend_40 kc ks loc (v :: st) h) := rfl
theorem s_X_mend_40 {x : Int32} {l0 l1 l2 l3 : Option Value} {l : eg_Lo} : wps rm K Q c_X_mend_40 kc ks (l0 :: l1 :: l2 :: l3 :: some (.int x) :: l) (st) h = wps rm K Q c_X_mend_42 kc ks (l0 :: l1 :: l2 :: l3 :: some (.int x) :: l) (.int x :: st) h := rfl
theorem s_X_mend_42 {x : Nat} {i : Int32} : wps rm K Q c_X_mend_42 kc ks loc (.int i :: .ref (x + 1) :: st) h = eg_ba h x i (fun v => wps rm K Q c_X_mend_43 kc ks loc (.int v :: st) h) := rfl
theorem s_X_mend_43 {x : Int32} : wps rm K Q c_X_mend_43 kc ks loc (.int x :: st) h = ((¬ x = 0 → K 59 kc ks loc st h) ∧ (x = 0 → wps rm K Q c_X_mend_46 kc ks loc (st) h)) := rfl
theorem s_X_mend_46 {x : Nat} {l : eg_Lo} : wps rm K Q c_X_mend_46 kc ks (some (.ref x) :: l) (st) h = wps rm K Q c_X_mend_47 kc ks (some (.ref x) :: l) (.ref x :: st) h := rfl
theorem s_X_mend_47 {x : Nat} {l0 l1 : Option Value} {l : eg_Lo} : wps rm K Q c_X_mend_47 kc ks (l0 :: l1 :: some (.ref x) :: l) (st) h = wps rm K Q c_X_mend_48 kc ks (l0 :: l1 :: some (.ref x) :: l) (.ref x :: st) h := rfl
theorem s_X_mend_48 {x : Int32} {l0 l1 l2 l3 : Option Value} {l : eg_Lo} : wps rm K Q c_X_mend_48 kc ks (l0 :: l1 :: l2 :: l3 :: some (.int x) :: l) (st) h = wps rm K Q c_X_mend_50 kc ks (l0 :: l1 :: l2 :: l3 :: some (.int x) :: l) (.int x :: st) h := rfl
theorem s_X_mend_50  {a1 : Value} {a2 : Value} {x : Nat} : wps rm K Q c_X_mend_50 kc ks loc (a2 :: a1 :: .ref (x + 1) :: st) h = (eg_cls h x 11 ∧ st.length ≤ 4 ∧ eg_Cs n_X_mendPoint (.ref (x + 1) :: [a1, a2]) h (fun v h9 => wps rm K Q c_X_mend_53 kc ks loc (v.toList ++ st) h9)) := eg_c1_2
theorem s_X_mend_53 {x : Int32} : wps rm K Q c_X_mend_53 kc ks loc (.int x :: st) h = ((x = 0 → K 59 kc ks loc st h) ∧ (¬ x = 0 → wps rm K Q c_X_mend_56 kc ks loc (st) h)) := rfl
theorem s_X_mend_56 {x : Int32} {l0 l1 l2 : Option Value} {l9 : eg_Lo} : wps rm K Q c_X_mend_56 kc ks (l0 :: l1 :: l2 :: some (.int x) :: l9) (st) h = wps rm K Q c_X_mend_59 kc ks (eg_set1 (l0 :: l1 :: l2 :: some (.int x) :: l9) 3 (.int (x + (1)))) (st) h := rfl
theorem s_X_mend_59 {x : Int32} {l0 l1 l2 l3 : Option Value} {l9 : eg_Lo} : wps rm K Q c_X_mend_59 kc ks (l0 :: l1 :: l2 :: l3 :: some (.int x) :: l9) (st) h = wps rm K Q c_X_mend_62 kc ks (eg_set1 (l0 :: l1 :: l2 :: l3 :: some (.int x) :: l9) 4 (.int (x + (1)))) (st) h := rfl
theorem s_X_mend_62  : wps rm K Q c_X_mend_62 kc ks loc (st) h = K 27 kc ks loc st h := rfl
theorem s_X_mend_65 {x : Int32} {l0 l1 l2 : Option Value} {l : eg_Lo} : wps rm K Q c_X_mend_65 kc ks (l0 :: l1 :: l2 :: some (.int x) :: l) (st) h = wps rm K Q c_X_mend_66 kc ks (l0 :: l1 :: l2 :: some (.int x) :: l) (.int x :: st) h := rfl
theorem s_X_mend_66 {x : Int32} : wps rm K Q c_X_mend_66 kc ks loc (.int x :: st) h = wps rm K Q c_X_mend_67 kc ks loc (.long (x.toInt64) :: st) h := rfl
theorem s_X_mend_67 {x : Int64} : wps rm K Q c_X_mend_67 kc ks loc ([.long x]) h = (kc = rm.cells ∧ Q (some (.long x)) h) := rfl
def T_X_mend : List (Nat × List eg_I) := [(15, c_X_mend_15), (59, c_X_mend_59), (65, c_X_mend_65)]
theorem j_X_mend_15 {R : Nat → Nat → Nat → eg_Lo → List Value → List eg_E → Prop} {f pc0 : Nat} : eg_run rm R Q T_X_mend (f + 1) 15 kc ks loc st h = wps rm (eg_run rm R Q T_X_mend f) Q c_X_mend_15 kc ks loc st h := rfl
theorem j_X_mend_59 {R : Nat → Nat → Nat → eg_Lo → List Value → List eg_E → Prop} {f pc0 : Nat} : eg_run rm R Q T_X_mend (f + 1) 59 kc ks loc st h = wps rm (eg_run rm R Q T_X_mend f) Q c_X_mend_59 kc ks loc st h := rfl
theorem j_X_mend_65 {R : Nat → Nat → Nat → eg_Lo → List Value → List eg_E → Prop} {f pc0 : Nat} : eg_run rm R Q T_X_mend (f + 1) 65 kc ks loc st h = wps rm (eg_run rm R Q T_X_mend f) Q c_X_mend_65 kc ks loc st h := rfl
theorem j_X_mend_27 {R : Nat → Nat → Nat → eg_Lo → List Value → List eg_E → Prop} {f pc0 : Nat} : eg_run rm R Q T_X_mend (f + 1) 27 kc ks loc st h = R 27 kc ks loc st h := rfl
end
theorem q_X_mend : (T_X_mend.all fun q => eg_seq m_X_mend q.1 q.2) = true := by decide +kernel
theorem b_X_mend {as : List Value} {h : List eg_E} {Q : Option Value → List eg_E → Prop} (hf : (eg_fl as).length ≤ 5) (hw : wps (eg_rm m_X_mend) (eg_run (eg_rm m_X_mend) (eg_R m_X_mend Q (h.length + 0)) Q T_X_mend 5) Q c_X_mend_0 0 0 (eg_entry 5 as) [] h) : eg_Runs n_X_mend as h Q := eg_begin (d := m_X_mend) rfl (by decide) (by decide +kernel) q_X_mend hf hw
theorem p_X_mend_27 {Q : Option Value → List eg_E → Prop} {n0 kc ks : Nat} {loc : eg_Lo} {st : List Value} {h : List eg_E} (hw : wps (eg_rm m_X_mend) (eg_run (eg_rm m_X_mend) (eg_R m_X_mend Q n0) Q T_X_mend 5) Q c_X_mend_27 kc ks loc st h) : eg_R m_X_mend Q n0 27 kc ks loc st h := eg_go (by decide +kernel) q_X_mend hw
/-! ===== X_grid ===== -/
def c_X_grid_61 : List eg_I := .inl (61, 1, .lreturn, 0, 0) :: []
def c_X_grid_60 : List eg_I := .inl (60, 1, .sipush (1), 0, 0) :: c_X_grid_61
def c_X_grid_59 : List eg_I := .inl (59, 1, .iastore, 0, 0) :: c_X_grid_60
def c_X_grid_58 : List eg_I := .inl (58, 1, .iload 3, 0, 0) :: c_X_grid_59
def c_X_grid_57 : List eg_I := .inl (57, 1, .iload 1, 0, 0) :: c_X_grid_58
def c_X_grid_54 : List eg_I := .inl (54, 3, .getfield 139, 6, 1) :: c_X_grid_57
def c_X_grid_51 : List eg_I := .inl (51, 3, .getfield 30, 11, 3) :: c_X_grid_54
def c_X_grid_50 : List eg_I := .inl (50, 1, .aload 0, 0, 0) :: c_X_grid_51
def c_X_grid_49 : List eg_I := .inl (49, 1, .iastore, 0, 0) :: c_X_grid_50
def c_X_grid_48 : List eg_I := .inl (48, 1, .iload 2, 0, 0) :: c_X_grid_49
def c_X_grid_47 : List eg_I := .inl (47, 1, .iload 1, 0, 0) :: c_X_grid_48
def c_X_grid_44 : List eg_I := .inl (44, 3, .getfield 136, 6, 0) :: c_X_grid_47
def c_X_grid_41 : List eg_I := .inl (41, 3, .getfield 30, 11, 3) :: c_X_grid_44
def c_X_grid_40 : List eg_I := .inl (40, 1, .aload 0, 0, 0) :: c_X_grid_41
def c_X_grid_39 : List eg_I := .inl (39, 1, .lreturn, 0, 0) :: []
def c_X_grid_36 : List eg_I := .inr (36, 1, 86, n_X_found, 1, 11, 0, 0) :: c_X_grid_39
def c_X_grid_33 : List eg_I := .inl (33, 3, .sipush (-1000000000000000001), 84, 0) :: c_X_grid_36
def c_X_grid_32 : List eg_I := .inl (32, 1, .aload 0, 0, 0) :: c_X_grid_33
def c_X_grid_29 : List eg_I := .inl (29, 3, .ifCond .ne (11), 40, 0) :: c_X_grid_32
def c_X_grid_26 : List eg_I := .inr (26, 0, 80, n_X_isWithin, 3, 11, 0, 0) :: c_X_grid_29
def c_X_grid_24 : List eg_I := .inl (24, 2, .iconst (50), 0, 0) :: c_X_grid_26
def c_X_grid_22 : List eg_I := .inl (22, 2, .iconst (-50), 0, 0) :: c_X_grid_24
def c_X_grid_21 : List eg_I := .inl (21, 1, .iload 3, 0, 0) :: c_X_grid_22
def c_X_grid_18 : List eg_I := .inl (18, 3, .ifCond .eq (14), 32, 0) :: c_X_grid_21
def c_X_grid_15 : List eg_I := .inr (15, 0, 80, n_X_isWithin, 3, 11, 0, 0) :: c_X_grid_18
def c_X_grid_13 : List eg_I := .inl (13, 2, .iconst (50), 0, 0) :: c_X_grid_15
def c_X_grid_11 : List eg_I := .inl (11, 2, .iconst (-50), 0, 0) :: c_X_grid_13
def c_X_grid_10 : List eg_I := .inl (10, 1, .iload 2, 0, 0) :: c_X_grid_11
def c_X_grid_7 : List eg_I := .inl (7, 3, .ifCond .eq (25), 32, 0) :: c_X_grid_10
def c_X_grid_4 : List eg_I := .inr (4, 0, 80, n_X_isWithin, 3, 11, 0, 0) :: c_X_grid_7
def c_X_grid_2 : List eg_I := .inl (2, 2, .iconst (8), 0, 0) :: c_X_grid_4
def c_X_grid_1 : List eg_I := .inl (1, 1, .iconst (0), 0, 0) :: c_X_grid_2
def c_X_grid_0 : List eg_I := .inl (0, 1, .iload 1, 0, 0) :: c_X_grid_1
section
variable {rm : Room} {K : Nat → Nat → Nat → eg_Lo → List Value → List eg_E → Prop} {Q : Option Value → List eg_E → Prop} {kc ks : Nat} {loc : eg_Lo} {st : List Value} {h : List eg_E}
theorem s_X_grid_0 {x : Int32} {l0 : Option Value} {l : eg_Lo} : wps rm K Q c_X_grid_0 kc ks (l0 :: some (.int x) :: l) (st) h = wps rm K Q c_X_grid_1 kc ks (l0 :: some (.int x) :: l) (.int x :: st) h := rfl
theorem s_X_grid_1  : wps rm K Q c_X_grid_1 kc ks loc (st) h = wps rm K Q c_X_grid_2 kc ks loc (.int (0) :: st) h := rfl
theorem s_X_grid_2  : wps rm K Q c_X_grid_2 kc ks loc (st) h = wps rm K Q c_X_grid_4 kc ks loc (.int (8) :: st) h := rfl
theorem s_X_grid_4  {a1 : Value} {a2 : Value} {a3 : Value} : wps rm K Q c_X_grid_4 kc ks loc (a3 :: a2 :: a1 :: st) h = (st.length ≤ 4 ∧ eg_Cs n_X_isWithin [a1, a2, a3] h (fun v h9 => wps rm K Q c_X_grid_7 kc ks loc (v.toList ++ st) h9)) := eg_c0_3
theorem s_X_grid_7 {x : Int32} : wps rm K Q c_X_grid_7 kc ks loc (.int x :: st) h = ((x = 0 → K 32 kc ks loc st h) ∧ (¬ x = 0 → wps rm K Q c_X_grid_10 kc ks loc (st) h)) := rfl
theorem s_X_grid_10 {x : Int32} {l0 l1 : Option Value} {l : eg_Lo} : wps rm K Q c_X_grid_10 kc ks (l0 :: l1 :: some (.int x) :: l) (st) h = wps rm K Q c_X_grid_11 kc ks (l0 :: l1 :: some (.int x) :: l) (.int x :: st) h := rfl
theorem s_X_grid_11  : wps rm K Q c_X_grid_11 kc ks loc (st) h = wps rm K Q c_X_grid_13 kc ks loc (.int (-50) :: st) h := rfl
theorem s_X_grid_13  : wps rm K Q c_X_grid_13 kc ks loc (st) h = wps rm K Q c_X_grid_15 kc ks loc (.int (50) :: st) h := rfl
theorem s_X_grid_15  {a1 : Value} {a2 : Value} {a3 : Value} : wps rm K Q c_X_grid_15 kc ks loc (a3 :: a2 :: a1 :: st) h = (st.length ≤ 4 ∧ eg_Cs n_X_isWithin [a1, a2, a3] h (fun v h9 => wps rm K Q c_X_grid_18 kc ks loc (v.toList ++ st) h9)) := eg_c0_3
theorem s_X_grid_18 {x : Int32} : wps rm K Q c_X_grid_18 kc ks loc (.int x :: st) h = ((x = 0 → K 32 kc ks loc st h) ∧ (¬ x = 0 → wps rm K Q c_X_grid_21 kc ks loc (st) h)) := rfl
theorem s_X_grid_21 {x : Int32} {l0 l1 l2 : Option Value} {l : eg_Lo} : wps rm K Q c_X_grid_21 kc ks (l0 :: l1 :: l2 :: some (.int x) :: l) (st) h = wps rm K Q c_X_grid_22 kc ks (l0 :: l1 :: l2 :: some (.int x) :: l) (.int x :: st) h := rfl
theorem s_X_grid_22  : wps rm K Q c_X_grid_22 kc ks loc (st) h = wps rm K Q c_X_grid_24 kc ks loc (.int (-50) :: st) h := rfl
theorem s_X_grid_24  : wps rm K Q c_X_grid_24 kc ks loc (st) h = wps rm K Q c_X_grid_26 kc ks loc (.int (50) :: st) h := rfl
theorem s_X_grid_26  {a1 : Value} {a2 : Value} {a3 : Value} : wps rm K Q c_X_grid_26 kc ks loc (a3 :: a2 :: a1 :: st) h = (st.length ≤ 4 ∧ eg_Cs n_X_isWithin [a1, a2, a3] h (fun v h9 => wps rm K Q c_X_grid_29 kc ks loc (v.toList ++ st) h9)) := eg_c0_3
theorem s_X_grid_29 {x : Int32} : wps rm K Q c_X_grid_29 kc ks loc (.int x :: st) h = ((¬ x = 0 → K 40 kc ks loc st h) ∧ (x = 0 → wps rm K Q c_X_grid_32 kc ks loc (st) h)) := rfl
theorem s_X_grid_32 {x : Nat} {l : eg_Lo} : wps rm K Q c_X_grid_32 kc ks (some (.ref x) :: l) (st) h = wps rm K Q c_X_grid_33 kc ks (some (.ref x) :: l) (.ref x :: st) h := rfl
theorem s_X_grid_33  : wps rm K Q c_X_grid_33 kc ks loc (st) h = wps rm K Q c_X_grid_36 kc ks loc (.long (-1000000000000000001) :: st) h := rfl
theorem s_X_grid_36  {a1 : Value} {x : Nat} : wps rm K Q c_X_grid_36 kc ks loc (a1 :: .ref (x + 1) :: st) h = (eg_cls h x 11 ∧ st.length ≤ 4 ∧ eg_Cs n_X_found (.ref (x + 1) :: [a1]) h (fun v h9 => wps rm K Q c_X_grid_39 kc ks loc (v.toList ++ st) h9)) := eg_c1_1
theorem s_X_grid_39 {x : Int64} : wps rm K Q c_X_grid_39 kc ks loc ([.long x]) h = (kc = rm.cells ∧ Q (some (.long x)) h) := rfl
theorem s_X_grid_40 {x : Nat} {l : eg_Lo} : wps rm K Q c_X_grid_40 kc ks (some (.ref x) :: l) (st) h = wps rm K Q c_X_grid_41 kc ks (some (.ref x) :: l) (.ref x :: st) h := rfl
theorem s_X_grid_41 {x : Nat} : wps rm K Q c_X_grid_41 kc ks loc (.ref (x + 1) :: st) h = eg_gf h x 11 3 (fun v => wps rm K Q c_X_grid_44 kc ks loc (v :: st) h) := rfl
theorem s_X_grid_44 {x : Nat} : wps rm K Q c_X_grid_44 kc ks loc (.ref (x + 1) :: st) h = eg_gf h x 6 0 (fun v => wps rm K Q c_X_grid_47 kc ks loc (v :: st) h) := rfl
theorem s_X_grid_47 {x : Int32} {l0 : Option Value} {l : eg_Lo} : wps rm K Q c_X_grid_47 kc ks (l0 :: some (.int x) :: l) (st) h = wps rm K Q c_X_grid_48 kc ks (l0 :: some (.int x) :: l) (.int x :: st) h := rfl
theorem s_X_grid_48 {x : Int32} {l0 l1 : Option Value} {l : eg_Lo} : wps rm K Q c_X_grid_48 kc ks (l0 :: l1 :: some (.int x) :: l) (st) h = wps rm K Q c_X_grid_49 kc ks (l0 :: l1 :: some (.int x) :: l) (.int x :: st) h := rfl
theorem s_X_grid_49 {x : Nat} {i : Int32} {v : Int32} : wps rm K Q c_X_grid_49 kc ks loc (.int v :: .int i :: .ref (x + 1) :: st) h = eg_is h x i v (fun h9 => wps rm K Q c_X_grid_50 kc ks loc (st) h9) := rfl
theorem s_X_grid_50 {x : Nat} {l : eg_Lo} : wps rm K Q c_X_grid_50 kc ks (some (.ref x) :: l) (st) h = wps rm K Q c_X_grid_51 kc ks (some (.ref x) :: l) (.ref x :: st) h := rfl
theorem s_X_grid_51 {x : Nat} : wps rm K Q c_X_grid_51 kc ks loc (.ref (x + 1) :: st) h = eg_gf h x 11 3 (fun v => wps rm K Q c_X_grid_54 kc ks loc (v :: st) h) := rfl
theorem s_X_grid_54 {x : Nat} : wps rm K Q c_X_grid_54 kc ks loc (.ref (x + 1) :: st) h = eg_gf h x 6 1 (fun v => wps rm K Q c_X_grid_57 kc ks loc (v :: st) h) := rfl
theorem s_X_grid_57 {x : Int32} {l0 : Option Value} {l : eg_Lo} : wps rm K Q c_X_grid_57 kc ks (l0 :: some (.int x) :: l) (st) h = wps rm K Q c_X_grid_58 kc ks (l0 :: some (.int x) :: l) (.int x :: st) h := rfl
theorem s_X_grid_58 {x : Int32} {l0 l1 l2 : Option Value} {l : eg_Lo} : wps rm K Q c_X_grid_58 kc ks (l0 :: l1 :: l2 :: some (.int x) :: l) (st) h = wps rm K Q c_X_grid_59 kc ks (l0 :: l1 :: l2 :: some (.int x) :: l) (.int x :: st) h := rfl
theorem s_X_grid_59 {x : Nat} {i : Int32} {v : Int32} : wps rm K Q c_X_grid_59 kc ks loc (.int v :: .int i :: .ref (x + 1) :: st) h = eg_is h x i v (fun h9 => wps rm K Q c_X_grid_60 kc ks loc (st) h9) := rfl
theorem s_X_grid_60  : wps rm K Q c_X_grid_60 kc ks loc (st) h = wps rm K Q c_X_grid_61 kc ks loc (.long (1) :: st) h := rfl
theorem s_X_grid_61 {x : Int64} : wps rm K Q c_X_grid_61 kc ks loc ([.long x]) h = (kc = rm.cells ∧ Q (some (.long x)) h) := rfl
def T_X_grid : List (Nat × List eg_I) := [(32, c_X_grid_32), (40, c_X_grid_40)]
theorem j_X_grid_32 {R : Nat → Nat → Nat → eg_Lo → List Value → List eg_E → Prop} {f pc0 : Nat} : eg_run rm R Q T_X_grid (f + 1) 32 kc ks loc st h = wps rm (eg_run rm R Q T_X_grid f) Q c_X_grid_32 kc ks loc st h := rfl
theorem j_X_grid_40 {R : Nat → Nat → Nat → eg_Lo → List Value → List eg_E → Prop} {f pc0 : Nat} : eg_run rm R Q T_X_grid (f + 1) 40 kc ks loc st h = wps rm (eg_run rm R Q T_X_grid f) Q c_X_grid_40 kc ks loc st h := rfl
end
theorem q_X_grid : (T_X_grid.all fun q => eg_seq m_X_grid q.1 q.2) = true := by decide +kernel
theorem b_X_grid {as : List Value} {h : List eg_E} {Q : Option Value → List eg_E → Prop} (hf : (eg_fl as).length ≤ 4) (hw : wps (eg_rm m_X_grid) (eg_run (eg_rm m_X_grid) (eg_R m_X_grid Q (h.length + 0)) Q T_X_grid 4) Q c_X_grid_0 0 0 (eg_entry 4 as) [] h) : eg_Runs n_X_grid as h Q := eg_begin (d := m_X_grid) rfl (by decide) (by decide +kernel) q_X_grid hf hw
/-! ===== X_off ===== -/
def c_X_off_43 : List eg_I := .inl (43, 1, .lreturn, 0, 0) :: []
def c_X_off_42 : List eg_I := .inl (42, 1, .i2l, 0, 0) :: c_X_off_43
def c_X_off_39 : List eg_I := .inr (39, 0, 142, n_Grid_tooGreat, 3, 6, 0, 0) :: c_X_off_42
def c_X_off_38 : List eg_I := .inl (38, 1, .iload 2, 0, 0) :: c_X_off_39
def c_X_off_37 : List eg_I := .inl (37, 1, .iload 1, 0, 0) :: c_X_off_38
def c_X_off_34 : List eg_I := .inl (34, 3, .getfield 136, 6, 0) :: c_X_off_37
def c_X_off_31 : List eg_I := .inl (31, 3, .getfield 30, 11, 3) :: c_X_off_34
def c_X_off_30 : List eg_I := .inl (30, 1, .aload 0, 0, 0) :: c_X_off_31
def c_X_off_27 : List eg_I := .inl (27, 3, .goto (10), 37, 0) :: []
def c_X_off_24 : List eg_I := .inl (24, 3, .getfield 139, 6, 1) :: c_X_off_27
def c_X_off_21 : List eg_I := .inl (21, 3, .getfield 30, 11, 3) :: c_X_off_24
def c_X_off_20 : List eg_I := .inl (20, 1, .aload 0, 0, 0) :: c_X_off_21
def c_X_off_17 : List eg_I := .inl (17, 3, .ifCond .eq (13), 30, 0) :: c_X_off_20
def c_X_off_16 : List eg_I := .inl (16, 1, .iload 3, 0, 0) :: c_X_off_17
def c_X_off_15 : List eg_I := .inl (15, 1, .lreturn, 0, 0) :: []
def c_X_off_12 : List eg_I := .inr (12, 1, 86, n_X_found, 1, 11, 0, 0) :: c_X_off_15
def c_X_off_9 : List eg_I := .inl (9, 3, .sipush (-1000000000000000001), 84, 0) :: c_X_off_12
def c_X_off_8 : List eg_I := .inl (8, 1, .aload 0, 0, 0) :: c_X_off_9
def c_X_off_5 : List eg_I := .inl (5, 3, .ifCond .ne (11), 16, 0) :: c_X_off_8
def c_X_off_2 : List eg_I := .inr (2, 0, 76, n_X_isPlace, 2, 11, 0, 0) :: c_X_off_5
def c_X_off_1 : List eg_I := .inl (1, 1, .iload 2, 0, 0) :: c_X_off_2
def c_X_off_0 : List eg_I := .inl (0, 1, .iload 1, 0, 0) :: c_X_off_1
section
variable {rm : Room} {K : Nat → Nat → Nat → eg_Lo → List Value → List eg_E → Prop} {Q : Option Value → List eg_E → Prop} {kc ks : Nat} {loc : eg_Lo} {st : List Value} {h : List eg_E}
theorem s_X_off_0 {x : Int32} {l0 : Option Value} {l : eg_Lo} : wps rm K Q c_X_off_0 kc ks (l0 :: some (.int x) :: l) (st) h = wps rm K Q c_X_off_1 kc ks (l0 :: some (.int x) :: l) (.int x :: st) h := rfl
theorem s_X_off_1 {x : Int32} {l0 l1 : Option Value} {l : eg_Lo} : wps rm K Q c_X_off_1 kc ks (l0 :: l1 :: some (.int x) :: l) (st) h = wps rm K Q c_X_off_2 kc ks (l0 :: l1 :: some (.int x) :: l) (.int x :: st) h := rfl
theorem s_X_off_2  {a1 : Value} {a2 : Value} : wps rm K Q c_X_off_2 kc ks loc (a2 :: a1 :: st) h = (st.length ≤ 4 ∧ eg_Cs n_X_isPlace [a1, a2] h (fun v h9 => wps rm K Q c_X_off_5 kc ks loc (v.toList ++ st) h9)) := eg_c0_2
theorem s_X_off_5 {x : Int32} : wps rm K Q c_X_off_5 kc ks loc (.int x :: st) h = ((¬ x = 0 → K 16 kc ks loc st h) ∧ (x = 0 → wps rm K Q c_X_off_8 kc ks loc (st) h)) := rfl
theorem s_X_off_8 {x : Nat} {l : eg_Lo} : wps rm K Q c_X_off_8 kc ks (some (.ref x) :: l) (st) h = wps rm K Q c_X_off_9 kc ks (some (.ref x) :: l) (.ref x :: st) h := rfl
theorem s_X_off_9  : wps rm K Q c_X_off_9 kc ks loc (st) h = wps rm K Q c_X_off_12 kc ks loc (.long (-1000000000000000001) :: st) h := rfl
theorem s_X_off_12  {a1 : Value} {x : Nat} : wps rm K Q c_X_off_12 kc ks loc (a1 :: .ref (x + 1) :: st) h = (eg_cls h x 11 ∧ st.length ≤ 4 ∧ eg_Cs n_X_found (.ref (x + 1) :: [a1]) h (fun v h9 => wps rm K Q c_X_off_15 kc ks loc (v.toList ++ st) h9)) := eg_c1_1
theorem s_X_off_15 {x : Int64} : wps rm K Q c_X_off_15 kc ks loc ([.long x]) h = (kc = rm.cells ∧ Q (some (.long x)) h) := rfl
theorem s_X_off_16 {x : Int32} {l0 l1 l2 : Option Value} {l : eg_Lo} : wps rm K Q c_X_off_16 kc ks (l0 :: l1 :: l2 :: some (.int x) :: l) (st) h = wps rm K Q c_X_off_17 kc ks (l0 :: l1 :: l2 :: some (.int x) :: l) (.int x :: st) h := rfl
theorem s_X_off_17 {x : Int32} : wps rm K Q c_X_off_17 kc ks loc (.int x :: st) h = ((x = 0 → K 30 kc ks loc st h) ∧ (¬ x = 0 → wps rm K Q c_X_off_20 kc ks loc (st) h)) := rfl
theorem s_X_off_20 {x : Nat} {l : eg_Lo} : wps rm K Q c_X_off_20 kc ks (some (.ref x) :: l) (st) h = wps rm K Q c_X_off_21 kc ks (some (.ref x) :: l) (.ref x :: st) h := rfl
theorem s_X_off_21 {x : Nat} : wps rm K Q c_X_off_21 kc ks loc (.ref (x + 1) :: st) h = eg_gf h x 11 3 (fun v => wps rm K Q c_X_off_24 kc ks loc (v :: st) h) := rfl
theorem s_X_off_24 {x : Nat} : wps rm K Q c_X_off_24 kc ks loc (.ref (x + 1) :: st) h = eg_gf h x 6 1 (fun v => wps rm K Q c_X_off_27 kc ks loc (v :: st) h) := rfl
theorem s_X_off_27  : wps rm K Q c_X_off_27 kc ks loc (st) h = K 37 kc ks loc st h := rfl
theorem s_X_off_30 {x : Nat} {l : eg_Lo} : wps rm K Q c_X_off_30 kc ks (some (.ref x) :: l) (st) h = wps rm K Q c_X_off_31 kc ks (some (.ref x) :: l) (.ref x :: st) h := rfl
theorem s_X_off_31 {x : Nat} : wps rm K Q c_X_off_31 kc ks loc (.ref (x + 1) :: st) h = eg_gf h x 11 3 (fun v => wps rm K Q c_X_off_34 kc ks loc (v :: st) h) := rfl
theorem s_X_off_34 {x : Nat} : wps rm K Q c_X_off_34 kc ks loc (.ref (x + 1) :: st) h = eg_gf h x 6 0 (fun v => wps rm K Q c_X_off_37 kc ks loc (v :: st) h) := rfl
theorem s_X_off_37 {x : Int32} {l0 : Option Value} {l : eg_Lo} : wps rm K Q c_X_off_37 kc ks (l0 :: some (.int x) :: l) (st) h = wps rm K Q c_X_off_38 kc ks (l0 :: some (.int x) :: l) (.int x :: st) h := rfl
theorem s_X_off_38 {x : Int32} {l0 l1 : Option Value} {l : eg_Lo} : wps rm K Q c_X_off_38 kc ks (l0 :: l1 :: some (.int x) :: l) (st) h = wps rm K Q c_X_off_39 kc ks (l0 :: l1 :: some (.int x) :: l) (.int x :: st) h := rfl
theorem s_X_off_39  {a1 : Value} {a2 : Value} {a3 : Value} : wps rm K Q c_X_off_39 kc ks loc (a3 :: a2 :: a1 :: st) h = (st.length ≤ 4 ∧ eg_Cs n_Grid_tooGreat [a1, a2, a3] h (fun v h9 => wps rm K Q c_X_off_42 kc ks loc (v.toList ++ st) h9)) := eg_c0_3
theorem s_X_off_42 {x : Int32} : wps rm K Q c_X_off_42 kc ks loc (.int x :: st) h = wps rm K Q c_X_off_43 kc ks loc (.long (x.toInt64) :: st) h := rfl
theorem s_X_off_43 {x : Int64} : wps rm K Q c_X_off_43 kc ks loc ([.long x]) h = (kc = rm.cells ∧ Q (some (.long x)) h) := rfl
def T_X_off : List (Nat × List eg_I) := [(16, c_X_off_16), (30, c_X_off_30), (37, c_X_off_37)]
theorem j_X_off_16 {R : Nat → Nat → Nat → eg_Lo → List Value → List eg_E → Prop} {f pc0 : Nat} : eg_run rm R Q T_X_off (f + 1) 16 kc ks loc st h = wps rm (eg_run rm R Q T_X_off f) Q c_X_off_16 kc ks loc st h := rfl
theorem j_X_off_30 {R : Nat → Nat → Nat → eg_Lo → List Value → List eg_E → Prop} {f pc0 : Nat} : eg_run rm R Q T_X_off (f + 1) 30 kc ks loc st h = wps rm (eg_run rm R Q T_X_off f) Q c_X_off_30 kc ks loc st h := rfl
theorem j_X_off_37 {R : Nat → Nat → Nat → eg_Lo → List Value → List eg_E → Prop} {f pc0 : Nat} : eg_run rm R Q T_X_off (f + 1) 37 kc ks loc st h = wps rm (eg_run rm R Q T_X_off f) Q c_X_off_37 kc ks loc st h := rfl
end
theorem q_X_off : (T_X_off.all fun q => eg_seq m_X_off q.1 q.2) = true := by decide +kernel
theorem b_X_off {as : List Value} {h : List eg_E} {Q : Option Value → List eg_E → Prop} (hf : (eg_fl as).length ≤ 4) (hw : wps (eg_rm m_X_off) (eg_run (eg_rm m_X_off) (eg_R m_X_off Q (h.length + 0)) Q T_X_off 5) Q c_X_off_0 0 0 (eg_entry 4 as) [] h) : eg_Runs n_X_off as h Q := eg_begin (d := m_X_off) rfl (by decide) (by decide +kernel) q_X_off hf hw
/-! ===== X_apart ===== -/
def c_X_apart_140 : List eg_I := .inl (140, 1, .lreturn, 0, 0) :: []
def c_X_apart_139 : List eg_I := .inl (139, 1, .i2l, 0, 0) :: c_X_apart_140
def c_X_apart_137 : List eg_I := .inl (137, 2, .iload 7, 0, 0) :: c_X_apart_139
def c_X_apart_134 : List eg_I := .inl (134, 3, .goto (6), 140, 0) :: []
def c_X_apart_132 : List eg_I := .inl (132, 2, .lload 5, 0, 0) :: c_X_apart_134
def c_X_apart_129 : List eg_I := .inl (129, 3, .ifCond .ne (8), 137, 0) :: c_X_apart_132
def c_X_apart_128 : List eg_I := .inl (128, 1, .iload 3, 0, 0) :: c_X_apart_129
def c_X_apart_127 : List eg_I := .inl (127, 1, .lreturn, 0, 0) :: []
def c_X_apart_124 : List eg_I := .inr (124, 1, 86, n_X_found, 1, 11, 0, 0) :: c_X_apart_127
def c_X_apart_121 : List eg_I := .inl (121, 3, .sipush (-1000000000000000006), 158, 0) :: c_X_apart_124
def c_X_apart_120 : List eg_I := .inl (120, 1, .aload 0, 0, 0) :: c_X_apart_121
def c_X_apart_117 : List eg_I := .inl (117, 3, .ifCond .ge (11), 128, 0) :: c_X_apart_120
def c_X_apart_116 : List eg_I := .inl (116, 1, .lcmp, 0, 0) :: c_X_apart_117
def c_X_apart_115 : List eg_I := .inl (115, 1, .sipush (0), 0, 0) :: c_X_apart_116
def c_X_apart_113 : List eg_I := .inl (113, 2, .lload 5, 0, 0) :: c_X_apart_115
def c_X_apart_110 : List eg_I := .inl (110, 3, .goto (-45), 65, 0) :: []
def c_X_apart_107 : List eg_I := .inl (107, 3, .iinc 8 (1), 0, 0) :: c_X_apart_110
def c_X_apart_105 : List eg_I := .inl (105, 2, .istore 7, 0, 0) :: c_X_apart_107
def c_X_apart_103 : List eg_I := .inl (103, 2, .iload 8, 0, 0) :: c_X_apart_105
def c_X_apart_101 : List eg_I := .inl (101, 2, .lstore 5, 0, 0) :: c_X_apart_103
def c_X_apart_99 : List eg_I := .inl (99, 2, .lload 9, 0, 0) :: c_X_apart_101
def c_X_apart_96 : List eg_I := .inl (96, 3, .ifCond .le (11), 107, 0) :: c_X_apart_99
def c_X_apart_95 : List eg_I := .inl (95, 1, .lcmp, 0, 0) :: c_X_apart_96
def c_X_apart_93 : List eg_I := .inl (93, 2, .lload 5, 0, 0) :: c_X_apart_95
def c_X_apart_91 : List eg_I := .inl (91, 2, .lload 9, 0, 0) :: c_X_apart_93
def c_X_apart_89 : List eg_I := .inl (89, 2, .lstore 9, 0, 0) :: c_X_apart_91
def c_X_apart_86 : List eg_I := .inr (86, 0, 154, n_X_squareApart, 3, 11, 0, 0) :: c_X_apart_89
def c_X_apart_84 : List eg_I := .inl (84, 2, .iload 8, 0, 0) :: c_X_apart_86
def c_X_apart_83 : List eg_I := .inl (83, 1, .aaload, 0, 0) :: c_X_apart_84
def c_X_apart_82 : List eg_I := .inl (82, 1, .iload 2, 0, 0) :: c_X_apart_83
def c_X_apart_79 : List eg_I := .inl (79, 3, .getfield 11, 11, 0) :: c_X_apart_82
def c_X_apart_78 : List eg_I := .inl (78, 1, .aload 0, 0, 0) :: c_X_apart_79
def c_X_apart_77 : List eg_I := .inl (77, 1, .aaload, 0, 0) :: c_X_apart_78
def c_X_apart_76 : List eg_I := .inl (76, 1, .iload 1, 0, 0) :: c_X_apart_77
def c_X_apart_73 : List eg_I := .inl (73, 3, .getfield 11, 11, 0) :: c_X_apart_76
def c_X_apart_72 : List eg_I := .inl (72, 1, .aload 0, 0, 0) :: c_X_apart_73
def c_X_apart_69 : List eg_I := .inl (69, 3, .if_icmp .ge (44), 113, 0) :: c_X_apart_72
def c_X_apart_67 : List eg_I := .inl (67, 2, .iload 4, 0, 0) :: c_X_apart_69
def c_X_apart_65 : List eg_I := .inl (65, 2, .iload 8, 0, 0) :: c_X_apart_67
def c_X_apart_63 : List eg_I := .inl (63, 2, .istore 8, 0, 0) :: [.inl (65, 0, .nop, 0, 0)]
def c_X_apart_62 : List eg_I := .inl (62, 1, .iconst (0), 0, 0) :: c_X_apart_63
def c_X_apart_60 : List eg_I := .inl (60, 2, .istore 7, 0, 0) :: c_X_apart_62
def c_X_apart_59 : List eg_I := .inl (59, 1, .iconst (0), 0, 0) :: c_X_apart_60
def c_X_apart_57 : List eg_I := .inl (57, 2, .lstore 5, 0, 0) :: c_X_apart_59
def c_X_apart_54 : List eg_I := .inl (54, 3, .sipush (-1), 152, 0) :: c_X_apart_57
def c_X_apart_52 : List eg_I := .inl (52, 2, .istore 4, 0, 0) :: c_X_apart_54
def c_X_apart_49 : List eg_I := .inr (49, 0, 146, n_Math_min, 2, 13, 0, 0) :: c_X_apart_52
def c_X_apart_46 : List eg_I := .inl (46, 3, .getfield 128, 8, 4) :: c_X_apart_49
def c_X_apart_45 : List eg_I := .inl (45, 1, .aaload, 0, 0) :: c_X_apart_46
def c_X_apart_44 : List eg_I := .inl (44, 1, .iload 2, 0, 0) :: c_X_apart_45
def c_X_apart_41 : List eg_I := .inl (41, 3, .getfield 11, 11, 0) :: c_X_apart_44
def c_X_apart_40 : List eg_I := .inl (40, 1, .aload 0, 0, 0) :: c_X_apart_41
def c_X_apart_37 : List eg_I := .inl (37, 3, .getfield 128, 8, 4) :: c_X_apart_40
def c_X_apart_36 : List eg_I := .inl (36, 1, .aaload, 0, 0) :: c_X_apart_37
def c_X_apart_35 : List eg_I := .inl (35, 1, .iload 1, 0, 0) :: c_X_apart_36
def c_X_apart_32 : List eg_I := .inl (32, 3, .getfield 11, 11, 0) :: c_X_apart_35
def c_X_apart_31 : List eg_I := .inl (31, 1, .aload 0, 0, 0) :: c_X_apart_32
def c_X_apart_30 : List eg_I := .inl (30, 1, .lreturn, 0, 0) :: []
def c_X_apart_27 : List eg_I := .inr (27, 1, 86, n_X_found, 1, 11, 0, 0) :: c_X_apart_30
def c_X_apart_24 : List eg_I := .inl (24, 3, .sipush (-1000000000000000001), 84, 0) :: c_X_apart_27
def c_X_apart_23 : List eg_I := .inl (23, 1, .aload 0, 0, 0) :: c_X_apart_24
def c_X_apart_20 : List eg_I := .inl (20, 3, .ifCond .ne (11), 31, 0) :: c_X_apart_23
def c_X_apart_17 : List eg_I := .inr (17, 0, 80, n_X_isWithin, 3, 11, 0, 0) :: c_X_apart_20
def c_X_apart_16 : List eg_I := .inl (16, 1, .iconst (1), 0, 0) :: c_X_apart_17
def c_X_apart_15 : List eg_I := .inl (15, 1, .iconst (0), 0, 0) :: c_X_apart_16
def c_X_apart_14 : List eg_I := .inl (14, 1, .iload 3, 0, 0) :: c_X_apart_15
def c_X_apart_11 : List eg_I := .inl (11, 3, .ifCond .eq (12), 23, 0) :: c_X_apart_14
def c_X_apart_8 : List eg_I := .inr (8, 0, 72, n_X_isPart, 1, 11, 0, 0) :: c_X_apart_11
def c_X_apart_7 : List eg_I := .inl (7, 1, .iload 2, 0, 0) :: c_X_apart_8
def c_X_apart_4 : List eg_I := .inl (4, 3, .ifCond .eq (19), 23, 0) :: c_X_apart_7
def c_X_apart_1 : List eg_I := .inr (1, 0, 72, n_X_isPart, 1, 11, 0, 0) :: c_X_apart_4
def c_X_apart_0 : List eg_I := .inl (0, 1, .iload 1, 0, 0) :: c_X_apart_1
section
variable {rm : Room} {K : Nat → Nat → Nat → eg_Lo → List Value → List eg_E → Prop} {Q : Option Value → List eg_E → Prop} {kc ks : Nat} {loc : eg_Lo} {st : List Value} {h : List eg_E}
theorem s_X_apart_0 {x : Int32} {l0 : Option Value} {l : eg_Lo} : wps rm K Q c_X_apart_0 kc ks (l0 :: some (.int x) :: l) (st) h = wps rm K Q c_X_apart_1 kc ks (l0 :: some (.int x) :: l) (.int x :: st) h := rfl
theorem s_X_apart_1  {a1 : Value} : wps rm K Q c_X_apart_1 kc ks loc (a1 :: st) h = (st.length ≤ 4 ∧ eg_Cs n_X_isPart [a1] h (fun v h9 => wps rm K Q c_X_apart_4 kc ks loc (v.toList ++ st) h9)) := eg_c0_1
theorem s_X_apart_4 {x : Int32} : wps rm K Q c_X_apart_4 kc ks loc (.int x :: st) h = ((x = 0 → K 23 kc ks loc st h) ∧ (¬ x = 0 → wps rm K Q c_X_apart_7 kc ks loc (st) h)) := rfl
theorem s_X_apart_7 {x : Int32} {l0 l1 : Option Value} {l : eg_Lo} : wps rm K Q c_X_apart_7 kc ks (l0 :: l1 :: some (.int x) :: l) (st) h = wps rm K Q c_X_apart_8 kc ks (l0 :: l1 :: some (.int x) :: l) (.int x :: st) h := rfl
theorem s_X_apart_8  {a1 : Value} : wps rm K Q c_X_apart_8 kc ks loc (a1 :: st) h = (st.length ≤ 4 ∧ eg_Cs n_X_isPart [a1] h (fun v h9 => wps rm K Q c_X_apart_11 kc ks loc (v.toList ++ st) h9)) := eg_c0_1
theorem s_X_apart_11 {x : Int32} : wps rm K Q c_X_apart_11 kc ks loc (.int x :: st) h = ((x = 0 → K 23 kc ks loc st h) ∧ (¬ x = 0 → wps rm K Q c_X_apart_14 kc ks loc (st) h)) := rfl
theorem s_X_apart_14 {x : Int32} {l0 l1 l2 : Option Value} {l : eg_Lo} : wps rm K Q c_X_apart_14 kc ks (l0 :: l1 :: l2 :: some (.int x) :: l) (st) h = wps rm K Q c_X_apart_15 kc ks (l0 :: l1 :: l2 :: some (.int x) :: l) (.int x :: st) h := rfl
theorem s_X_apart_15  : wps rm K Q c_X_apart_15 kc ks loc (st) h = wps rm K Q c_X_apart_16 kc ks loc (.int (0) :: st) h := rfl
theorem s_X_apart_16  : wps rm K Q c_X_apart_16 kc ks loc (st) h = wps rm K Q c_X_apart_17 kc ks loc (.int (1) :: st) h := rfl
theorem s_X_apart_17  {a1 : Value} {a2 : Value} {a3 : Value} : wps rm K Q c_X_apart_17 kc ks loc (a3 :: a2 :: a1 :: st) h = (st.length ≤ 4 ∧ eg_Cs n_X_isWithin [a1, a2, a3] h (fun v h9 => wps rm K Q c_X_apart_20 kc ks loc (v.toList ++ st) h9)) := eg_c0_3
theorem s_X_apart_20 {x : Int32} : wps rm K Q c_X_apart_20 kc ks loc (.int x :: st) h = ((¬ x = 0 → K 31 kc ks loc st h) ∧ (x = 0 → wps rm K Q c_X_apart_23 kc ks loc (st) h)) := rfl
theorem s_X_apart_23 {x : Nat} {l : eg_Lo} : wps rm K Q c_X_apart_23 kc ks (some (.ref x) :: l) (st) h = wps rm K Q c_X_apart_24 kc ks (some (.ref x) :: l) (.ref x :: st) h := rfl
theorem s_X_apart_24  : wps rm K Q c_X_apart_24 kc ks loc (st) h = wps rm K Q c_X_apart_27 kc ks loc (.long (-1000000000000000001) :: st) h := rfl
theorem s_X_apart_27  {a1 : Value} {x : Nat} : wps rm K Q c_X_apart_27 kc ks loc (a1 :: .ref (x + 1) :: st) h = (eg_cls h x 11 ∧ st.length ≤ 4 ∧ eg_Cs n_X_found (.ref (x + 1) :: [a1]) h (fun v h9 => wps rm K Q c_X_apart_30 kc ks loc (v.toList ++ st) h9)) := eg_c1_1
theorem s_X_apart_30 {x : Int64} : wps rm K Q c_X_apart_30 kc ks loc ([.long x]) h = (kc = rm.cells ∧ Q (some (.long x)) h) := rfl
theorem s_X_apart_31 {x : Nat} {l : eg_Lo} : wps rm K Q c_X_apart_31 kc ks (some (.ref x) :: l) (st) h = wps rm K Q c_X_apart_32 kc ks (some (.ref x) :: l) (.ref x :: st) h := rfl
theorem s_X_apart_32 {x : Nat} : wps rm K Q c_X_apart_32 kc ks loc (.ref (x + 1) :: st) h = eg_gf h x 11 0 (fun v => wps rm K Q c_X_apart_35 kc ks loc (v :: st) h) := rfl
theorem s_X_apart_35 {x : Int32} {l0 : Option Value} {l : eg_Lo} : wps rm K Q c_X_apart_35 kc ks (l0 :: some (.int x) :: l) (st) h = wps rm K Q c_X_apart_36 kc ks (l0 :: some (.int x) :: l) (.int x :: st) h := rfl
theorem s_X_apart_36 {x : Nat} {i : Int32} : wps rm K Q c_X_apart_36 kc ks loc (.int i :: .ref (x + 1) :: st) h = eg_aa h x i (fun v => wps rm K Q c_X_apart_37 kc ks loc (v :: st) h) := rfl
theorem s_X_apart_37 {x : Nat} : wps rm K Q c_X_apart_37 kc ks loc (.ref (x + 1) :: st) h = eg_gf h x 8 4 (fun v => wps rm K Q c_X_apart_40 kc ks loc (v :: st) h) := rfl
theorem s_X_apart_40 {x : Nat} {l : eg_Lo} : wps rm K Q c_X_apart_40 kc ks (some (.ref x) :: l) (st) h = wps rm K Q c_X_apart_41 kc ks (some (.ref x) :: l) (.ref x :: st) h := rfl
theorem s_X_apart_41 {x : Nat} : wps rm K Q c_X_apart_41 kc ks loc (.ref (x + 1) :: st) h = eg_gf h x 11 0 (fun v => wps rm K Q c_X_apart_44 kc ks loc (v :: st) h) := rfl
theorem s_X_apart_44 {x : Int32} {l0 l1 : Option Value} {l : eg_Lo} : wps rm K Q c_X_apart_44 kc ks (l0 :: l1 :: some (.int x) :: l) (st) h = wps rm K Q c_X_apart_45 kc ks (l0 :: l1 :: some (.int x) :: l) (.int x :: st) h := rfl
theorem s_X_apart_45 {x : Nat} {i : Int32} : wps rm K Q c_X_apart_45 kc ks loc (.int i :: .ref (x + 1) :: st) h = eg_aa h x i (fun v => wps rm K Q c_X_apart_46 kc ks loc (v :: st) h) := rfl
theorem s_X_apart_46 {x : Nat} : wps rm K Q c_X_apart_46 kc ks loc (.ref (x + 1) :: st) h = eg_gf h x 8 4 (fun v => wps rm K Q c_X_apart_49 kc ks loc (v :: st) h) := rfl
theorem s_X_apart_49  {a1 : Value} {a2 : Value} : wps rm K Q c_X_apart_49 kc ks loc (a2 :: a1 :: st) h = (st.length ≤ 4 ∧ eg_Cs n_Math_min [a1, a2] h (fun v h9 => wps rm K Q c_X_apart_52 kc ks loc (v.toList ++ st) h9)) := eg_c0_2
theorem s_X_apart_52 {x : Int32} : wps rm K Q c_X_apart_52 kc ks loc (.int x :: st) h = wps rm K Q c_X_apart_54 kc ks (eg_set1 loc 4 (.int x)) (st) h := rfl
theorem s_X_apart_54  : wps rm K Q c_X_apart_54 kc ks loc (st) h = wps rm K Q c_X_apart_57 kc ks loc (.long (-1) :: st) h := rfl
theorem s_X_apart_57 {x : Int64} : wps rm K Q c_X_apart_57 kc ks loc (.long x :: st) h = wps rm K Q c_X_apart_59 kc ks (eg_set2 loc 5 (.long x)) (st) h := rfl
theorem s_X_apart_59  : wps rm K Q c_X_apart_59 kc ks loc (st) h = wps rm K Q c_X_apart_60 kc ks loc (.int (0) :: st) h := rfl
theorem s_X_apart_60 {x : Int32} : wps rm K Q c_X_apart_60 kc ks loc (.int x :: st) h = wps rm K Q c_X_apart_62 kc ks (eg_set1 loc 7 (.int x)) (st) h := rfl
theorem s_X_apart_62  : wps rm K Q c_X_apart_62 kc ks loc (st) h = wps rm K Q c_X_apart_63 kc ks loc (.int (0) :: st) h := rfl
theorem s_X_apart_63 {x : Int32} : wps rm K Q c_X_apart_63 kc ks loc (.int x :: st) h = K 65 kc ks (eg_set1 loc 8 (.int x)) (st) h := rfl
theorem s_X_apart_65 {x : Int32} {l0 l1 l2 l3 l4 l5 l6 l7 : Option Value} {l : eg_Lo} : wps rm K Q c_X_apart_65 kc ks (l0 :: l1 :: l2 :: l3 :: l4 :: l5 :: l6 :: l7 :: some (.int x) :: l) (st) h = wps rm K Q c_X_apart_67 kc ks (l0 :: l1 :: l2 :: l3 :: l4 :: l5 :: l6 :: l7 :: some (.int x) :: l) (.int x :: st) h := rfl
theorem s_X_apart_67 {x : Int32} {l0 l1 l2 l3 : Option Value} {l : eg_Lo} : wps rm K Q c_X_apart_67 kc ks (l0 :: l1 :: l2 :: l3 :: some (.int x) :: l) (st) h = wps rm K Q c_X_apart_69 kc ks (l0 :: l1 :: l2 :: l3 :: some (.int x) :: l) (.int x :: st) h := rfl
theorem s_X_apart_69 {x y : Int32} : wps rm K Q c_X_apart_69 kc ks loc (.int y :: .int x :: st) h = ((y ≤ x → K 113 kc ks loc st h) ∧ (¬ y ≤ x → wps rm K Q c_X_apart_72 kc ks loc (st) h)) := rfl
theorem s_X_apart_72 {x : Nat} {l : eg_Lo} : wps rm K Q c_X_apart_72 kc ks (some (.ref x) :: l) (st) h = wps rm K Q c_X_apart_73 kc ks (some (.ref x) :: l) (.ref x :: st) h := rfl
theorem s_X_apart_73 {x : Nat} : wps rm K Q c_X_apart_73 kc ks loc (.ref (x + 1) :: st) h = eg_gf h x 11 0 (fun v => wps rm K Q c_X_apart_76 kc ks loc (v :: st) h) := rfl
theorem s_X_apart_76 {x : Int32} {l0 : Option Value} {l : eg_Lo} : wps rm K Q c_X_apart_76 kc ks (l0 :: some (.int x) :: l) (st) h = wps rm K Q c_X_apart_77 kc ks (l0 :: some (.int x) :: l) (.int x :: st) h := rfl
theorem s_X_apart_77 {x : Nat} {i : Int32} : wps rm K Q c_X_apart_77 kc ks loc (.int i :: .ref (x + 1) :: st) h = eg_aa h x i (fun v => wps rm K Q c_X_apart_78 kc ks loc (v :: st) h) := rfl
theorem s_X_apart_78 {x : Nat} {l : eg_Lo} : wps rm K Q c_X_apart_78 kc ks (some (.ref x) :: l) (st) h = wps rm K Q c_X_apart_79 kc ks (some (.ref x) :: l) (.ref x :: st) h := rfl
theorem s_X_apart_79 {x : Nat} : wps rm K Q c_X_apart_79 kc ks loc (.ref (x + 1) :: st) h = eg_gf h x 11 0 (fun v => wps rm K Q c_X_apart_82 kc ks loc (v :: st) h) := rfl
theorem s_X_apart_82 {x : Int32} {l0 l1 : Option Value} {l : eg_Lo} : wps rm K Q c_X_apart_82 kc ks (l0 :: l1 :: some (.int x) :: l) (st) h = wps rm K Q c_X_apart_83 kc ks (l0 :: l1 :: some (.int x) :: l) (.int x :: st) h := rfl
theorem s_X_apart_83 {x : Nat} {i : Int32} : wps rm K Q c_X_apart_83 kc ks loc (.int i :: .ref (x + 1) :: st) h = eg_aa h x i (fun v => wps rm K Q c_X_apart_84 kc ks loc (v :: st) h) := rfl
theorem s_X_apart_84 {x : Int32} {l0 l1 l2 l3 l4 l5 l6 l7 : Option Value} {l : eg_Lo} : wps rm K Q c_X_apart_84 kc ks (l0 :: l1 :: l2 :: l3 :: l4 :: l5 :: l6 :: l7 :: some (.int x) :: l) (st) h = wps rm K Q c_X_apart_86 kc ks (l0 :: l1 :: l2 :: l3 :: l4 :: l5 :: l6 :: l7 :: some (.int x) :: l) (.int x :: st) h := rfl
theorem s_X_apart_86  {a1 : Value} {a2 : Value} {a3 : Value} : wps rm K Q c_X_apart_86 kc ks loc (a3 :: a2 :: a1 :: st) h = (st.length ≤ 4 ∧ eg_Cs n_X_squareApart [a1, a2, a3] h (fun v h9 => wps rm K Q c_X_apart_89 kc ks loc (v.toList ++ st) h9)) := eg_c0_3
theorem s_X_apart_89 {x : Int64} : wps rm K Q c_X_apart_89 kc ks loc (.long x :: st) h = wps rm K Q c_X_apart_91 kc ks (eg_set2 loc 9 (.long x)) (st) h := rfl
theorem s_X_apart_91 {x : Int64} {l0 l1 l2 l3 l4 l5 l6 l7 l8 : Option Value} {l : eg_Lo} : wps rm K Q c_X_apart_91 kc ks (l0 :: l1 :: l2 :: l3 :: l4 :: l5 :: l6 :: l7 :: l8 :: some (.long x) :: l) (st) h = wps rm K Q c_X_apart_93 kc ks (l0 :: l1 :: l2 :: l3 :: l4 :: l5 :: l6 :: l7 :: l8 :: some (.long x) :: l) (.long x :: st) h := rfl
theorem s_X_apart_93 {x : Int64} {l0 l1 l2 l3 l4 : Option Value} {l : eg_Lo} : wps rm K Q c_X_apart_93 kc ks (l0 :: l1 :: l2 :: l3 :: l4 :: some (.long x) :: l) (st) h = wps rm K Q c_X_apart_95 kc ks (l0 :: l1 :: l2 :: l3 :: l4 :: some (.long x) :: l) (.long x :: st) h := rfl
theorem s_X_apart_95 {x y : Int64} : wps rm K Q c_X_apart_95 kc ks loc (.long y :: .long x :: st) h = wps rm K Q c_X_apart_96 kc ks loc (.int (lg_cmp x y) :: st) h := rfl
theorem s_X_apart_96 {x : Int32} : wps rm K Q c_X_apart_96 kc ks loc (.int x :: st) h = ((x ≤ 0 → K 107 kc ks loc st h) ∧ (¬ x ≤ 0 → wps rm K Q c_X_apart_99 kc ks loc (st) h)) := rfl
theorem s_X_apart_99 {x : Int64} {l0 l1 l2 l3 l4 l5 l6 l7 l8 : Option Value} {l : eg_Lo} : wps rm K Q c_X_apart_99 kc ks (l0 :: l1 :: l2 :: l3 :: l4 :: l5 :: l6 :: l7 :: l8 :: some (.long x) :: l) (st) h = wps rm K Q c_X_apart_101 kc ks (l0 :: l1 :: l2 :: l3 :: l4 :: l5 :: l6 :: l7 :: l8 :: some (.long x) :: l) (.long x :: st) h := rfl
theorem s_X_apart_101 {x : Int64} : wps rm K Q c_X_apart_101 kc ks loc (.long x :: st) h = wps rm K Q c_X_apart_103 kc ks (eg_set2 loc 5 (.long x)) (st) h := rfl
theorem s_X_apart_103 {x : Int32} {l0 l1 l2 l3 l4 l5 l6 l7 : Option Value} {l : eg_Lo} : wps rm K Q c_X_apart_103 kc ks (l0 :: l1 :: l2 :: l3 :: l4 :: l5 :: l6 :: l7 :: some (.int x) :: l) (st) h = wps rm K Q c_X_apart_105 kc ks (l0 :: l1 :: l2 :: l3 :: l4 :: l5 :: l6 :: l7 :: some (.int x) :: l) (.int x :: st) h := rfl
theorem s_X_apart_105 {x : Int32} : wps rm K Q c_X_apart_105 kc ks loc (.int x :: st) h = wps rm K Q c_X_apart_107 kc ks (eg_set1 loc 7 (.int x)) (st) h := rfl
theorem s_X_apart_107 {x : Int32} {l0 l1 l2 l3 l4 l5 l6 l7 : Option Value} {l9 : eg_Lo} : wps rm K Q c_X_apart_107 kc ks (l0 :: l1 :: l2 :: l3 :: l4 :: l5 :: l6 :: l7 :: some (.int x) :: l9) (st) h = wps rm K Q c_X_apart_110 kc ks (eg_set1 (l0 :: l1 :: l2 :: l3 :: l4 :: l5 :: l6 :: l7 :: some (.int x) :: l9) 8 (.int (x + (1)))) (st) h := rfl
theorem s_X_apart_110  : wps rm K Q c_X_apart_110 kc ks loc (st) h = K 65 kc ks loc st h := rfl
theorem s_X_apart_113 {x : Int64} {l0 l1 l2 l3 l4 : Option Value} {l : eg_Lo} : wps rm K Q c_X_apart_113 kc ks (l0 :: l1 :: l2 :: l3 :: l4 :: some (.long x) :: l) (st) h = wps rm K Q c_X_apart_115 kc ks (l0 :: l1 :: l2 :: l3 :: l4 :: some (.long x) :: l) (.long x :: st) h := rfl
theorem s_X_apart_115  : wps rm K Q c_X_apart_115 kc ks loc (st) h = wps rm K Q c_X_apart_116 kc ks loc (.long (0) :: st) h := rfl
theorem s_X_apart_116 {x y : Int64} : wps rm K Q c_X_apart_116 kc ks loc (.long y :: .long x :: st) h = wps rm K Q c_X_apart_117 kc ks loc (.int (lg_cmp x y) :: st) h := rfl
theorem s_X_apart_117 {x : Int32} : wps rm K Q c_X_apart_117 kc ks loc (.int x :: st) h = ((0 ≤ x → K 128 kc ks loc st h) ∧ (¬ 0 ≤ x → wps rm K Q c_X_apart_120 kc ks loc (st) h)) := rfl
theorem s_X_apart_120 {x : Nat} {l : eg_Lo} : wps rm K Q c_X_apart_120 kc ks (some (.ref x) :: l) (st) h = wps rm K Q c_X_apart_121 kc ks (some (.ref x) :: l) (.ref x :: st) h := rfl
theorem s_X_apart_121  : wps rm K Q c_X_apart_121 kc ks loc (st) h = wps rm K Q c_X_apart_124 kc ks loc (.long (-1000000000000000006) :: st) h := rfl
theorem s_X_apart_124  {a1 : Value} {x : Nat} : wps rm K Q c_X_apart_124 kc ks loc (a1 :: .ref (x + 1) :: st) h = (eg_cls h x 11 ∧ st.length ≤ 4 ∧ eg_Cs n_X_found (.ref (x + 1) :: [a1]) h (fun v h9 => wps rm K Q c_X_apart_127 kc ks loc (v.toList ++ st) h9)) := eg_c1_1
theorem s_X_apart_127 {x : Int64} : wps rm K Q c_X_apart_127 kc ks loc ([.long x]) h = (kc = rm.cells ∧ Q (some (.long x)) h) := rfl
theorem s_X_apart_128 {x : Int32} {l0 l1 l2 : Option Value} {l : eg_Lo} : wps rm K Q c_X_apart_128 kc ks (l0 :: l1 :: l2 :: some (.int x) :: l) (st) h = wps rm K Q c_X_apart_129 kc ks (l0 :: l1 :: l2 :: some (.int x) :: l) (.int x :: st) h := rfl
theorem s_X_apart_129 {x : Int32} : wps rm K Q c_X_apart_129 kc ks loc (.int x :: st) h = ((¬ x = 0 → K 137 kc ks loc st h) ∧ (x = 0 → wps rm K Q c_X_apart_132 kc ks loc (st) h)) := rfl
theorem s_X_apart_132 {x : Int64} {l0 l1 l2 l3 l4 : Option Value} {l : eg_Lo} : wps rm K Q c_X_apart_132 kc ks (l0 :: l1 :: l2 :: l3 :: l4 :: some (.long x) :: l) (st) h = wps rm K Q c_X_apart_134 kc ks (l0 :: l1 :: l2 :: l3 :: l4 :: some (.long x) :: l) (.long x :: st) h := rfl
theorem s_X_apart_134  : wps rm K Q c_X_apart_134 kc ks loc (st) h = K 140 kc ks loc st h := rfl
theorem s_X_apart_137 {x : Int32} {l0 l1 l2 l3 l4 l5 l6 : Option Value} {l : eg_Lo} : wps rm K Q c_X_apart_137 kc ks (l0 :: l1 :: l2 :: l3 :: l4 :: l5 :: l6 :: some (.int x) :: l) (st) h = wps rm K Q c_X_apart_139 kc ks (l0 :: l1 :: l2 :: l3 :: l4 :: l5 :: l6 :: some (.int x) :: l) (.int x :: st) h := rfl
theorem s_X_apart_139 {x : Int32} : wps rm K Q c_X_apart_139 kc ks loc (.int x :: st) h = wps rm K Q c_X_apart_140 kc ks loc (.long (x.toInt64) :: st) h := rfl
theorem s_X_apart_140 {x : Int64} : wps rm K Q c_X_apart_140 kc ks loc ([.long x]) h = (kc = rm.cells ∧ Q (some (.long x)) h) := rfl
def T_X_apart : List (Nat × List eg_I) := [(23, c_X_apart_23), (31, c_X_apart_31), (107, c_X_apart_107), (113, c_X_apart_113), (128, c_X_apart_128), (137, c_X_apart_137), (140, c_X_apart_140)]
theorem j_X_apart_23 {R : Nat → Nat → Nat → eg_Lo → List Value → List eg_E → Prop} {f pc0 : Nat} : eg_run rm R Q T_X_apart (f + 1) 23 kc ks loc st h = wps rm (eg_run rm R Q T_X_apart f) Q c_X_apart_23 kc ks loc st h := rfl
theorem j_X_apart_31 {R : Nat → Nat → Nat → eg_Lo → List Value → List eg_E → Prop} {f pc0 : Nat} : eg_run rm R Q T_X_apart (f + 1) 31 kc ks loc st h = wps rm (eg_run rm R Q T_X_apart f) Q c_X_apart_31 kc ks loc st h := rfl
theorem j_X_apart_107 {R : Nat → Nat → Nat → eg_Lo → List Value → List eg_E → Prop} {f pc0 : Nat} : eg_run rm R Q T_X_apart (f + 1) 107 kc ks loc st h = wps rm (eg_run rm R Q T_X_apart f) Q c_X_apart_107 kc ks loc st h := rfl
theorem j_X_apart_113 {R : Nat → Nat → Nat → eg_Lo → List Value → List eg_E → Prop} {f pc0 : Nat} : eg_run rm R Q T_X_apart (f + 1) 113 kc ks loc st h = wps rm (eg_run rm R Q T_X_apart f) Q c_X_apart_113 kc ks loc st h := rfl
theorem j_X_apart_128 {R : Nat → Nat → Nat → eg_Lo → List Value → List eg_E → Prop} {f pc0 : Nat} : eg_run rm R Q T_X_apart (f + 1) 128 kc ks loc st h = wps rm (eg_run rm R Q T_X_apart f) Q c_X_apart_128 kc ks loc st h := rfl
theorem j_X_apart_137 {R : Nat → Nat → Nat → eg_Lo → List Value → List eg_E → Prop} {f pc0 : Nat} : eg_run rm R Q T_X_apart (f + 1) 137 kc ks loc st h = wps rm (eg_run rm R Q T_X_apart f) Q c_X_apart_137 kc ks loc st h := rfl
theorem j_X_apart_140 {R : Nat → Nat → Nat → eg_Lo → List Value → List eg_E → Prop} {f pc0 : Nat} : eg_run rm R Q T_X_apart (f + 1) 140 kc ks loc st h = wps rm (eg_run rm R Q T_X_apart f) Q c_X_apart_140 kc ks loc st h := rfl
theorem j_X_apart_65 {R : Nat → Nat → Nat → eg_Lo → List Value → List eg_E → Prop} {f pc0 : Nat} : eg_run rm R Q T_X_apart (f + 1) 65 kc ks loc st h = R 65 kc ks loc st h := rfl
end
theorem q_X_apart : (T_X_apart.all fun q => eg_seq m_X_apart q.1 q.2) = true := by decide +kernel
theorem b_X_apart {as : List Value} {h : List eg_E} {Q : Option Value → List eg_E → Prop} (hf : (eg_fl as).length ≤ 11) (hw : wps (eg_rm m_X_apart) (eg_run (eg_rm m_X_apart) (eg_R m_X_apart Q (h.length + 0)) Q T_X_apart 9) Q c_X_apart_0 0 0 (eg_entry 11 as) [] h) : eg_Runs n_X_apart as h Q := eg_begin (d := m_X_apart) rfl (by decide) (by decide +kernel) q_X_apart hf hw
theorem p_X_apart_65 {Q : Option Value → List eg_E → Prop} {n0 kc ks : Nat} {loc : eg_Lo} {st : List Value} {h : List eg_E} (hw : wps (eg_rm m_X_apart) (eg_run (eg_rm m_X_apart) (eg_R m_X_apart Q n0) Q T_X_apart 9) Q c_X_apart_65 kc ks loc st h) : eg_R m_X_apart Q n0 65 kc ks loc st h := eg_go (by decide +kernel) q_X_apart hw
/-! ===== X_sheet ===== -/
def c_X_sheet_62 : List eg_I := .inl (62, 1, .lreturn, 0, 0) :: []
def c_X_sheet_61 : List eg_I := .inl (61, 1, .i2l, 0, 0) :: c_X_sheet_62
def c_X_sheet_58 : List eg_I := .inr (58, 1, 165, n_Sheet_renew, 2, 9, 0, 0) :: c_X_sheet_61
def c_X_sheet_57 : List eg_I := .inl (57, 1, .iload 3, 0, 0) :: c_X_sheet_58
def c_X_sheet_56 : List eg_I := .inl (56, 1, .iload 2, 0, 0) :: c_X_sheet_57
def c_X_sheet_55 : List eg_I := .inl (55, 1, .aaload, 0, 0) :: c_X_sheet_56
def c_X_sheet_54 : List eg_I := .inl (54, 1, .iload 1, 0, 0) :: c_X_sheet_55
def c_X_sheet_51 : List eg_I := .inl (51, 3, .getfield 17, 11, 1) :: c_X_sheet_54
def c_X_sheet_50 : List eg_I := .inl (50, 1, .aload 0, 0, 0) :: c_X_sheet_51
def c_X_sheet_49 : List eg_I := .inl (49, 1, .lreturn, 0, 0) :: []
def c_X_sheet_46 : List eg_I := .inr (46, 1, 86, n_X_found, 1, 11, 0, 0) :: c_X_sheet_49
def c_X_sheet_43 : List eg_I := .inl (43, 3, .sipush (-1000000000000000001), 84, 0) :: c_X_sheet_46
def c_X_sheet_42 : List eg_I := .inl (42, 1, .aload 0, 0, 0) :: c_X_sheet_43
def c_X_sheet_39 : List eg_I := .inl (39, 3, .if_icmp .le (11), 50, 0) :: c_X_sheet_42
def c_X_sheet_37 : List eg_I := .inl (37, 2, .iconst (48), 0, 0) :: c_X_sheet_39
def c_X_sheet_36 : List eg_I := .inl (36, 1, .iload 3, 0, 0) :: c_X_sheet_37
def c_X_sheet_35 : List eg_I := .inl (35, 1, .lreturn, 0, 0) :: []
def c_X_sheet_32 : List eg_I := .inr (32, 1, 86, n_X_found, 1, 11, 0, 0) :: c_X_sheet_35
def c_X_sheet_29 : List eg_I := .inl (29, 3, .sipush (-1000000000000000003), 163, 0) :: c_X_sheet_32
def c_X_sheet_28 : List eg_I := .inl (28, 1, .aload 0, 0, 0) :: c_X_sheet_29
def c_X_sheet_25 : List eg_I := .inl (25, 3, .ifCond .ge (11), 36, 0) :: c_X_sheet_28
def c_X_sheet_24 : List eg_I := .inl (24, 1, .iload 3, 0, 0) :: c_X_sheet_25
def c_X_sheet_23 : List eg_I := .inl (23, 1, .lreturn, 0, 0) :: []
def c_X_sheet_20 : List eg_I := .inr (20, 1, 86, n_X_found, 1, 11, 0, 0) :: c_X_sheet_23
def c_X_sheet_17 : List eg_I := .inl (17, 3, .sipush (-1000000000000000001), 84, 0) :: c_X_sheet_20
def c_X_sheet_16 : List eg_I := .inl (16, 1, .aload 0, 0, 0) :: c_X_sheet_17
def c_X_sheet_13 : List eg_I := .inl (13, 3, .ifCond .ne (11), 24, 0) :: c_X_sheet_16
def c_X_sheet_10 : List eg_I := .inr (10, 0, 80, n_X_isWithin, 3, 11, 0, 0) :: c_X_sheet_13
def c_X_sheet_9 : List eg_I := .inl (9, 1, .iconst (3), 0, 0) :: c_X_sheet_10
def c_X_sheet_8 : List eg_I := .inl (8, 1, .iconst (0), 0, 0) :: c_X_sheet_9
def c_X_sheet_7 : List eg_I := .inl (7, 1, .iload 2, 0, 0) :: c_X_sheet_8
def c_X_sheet_4 : List eg_I := .inl (4, 3, .ifCond .eq (12), 16, 0) :: c_X_sheet_7
def c_X_sheet_1 : List eg_I := .inr (1, 0, 160, n_X_isSheet, 1, 11, 0, 0) :: c_X_sheet_4
def c_X_sheet_0 : List eg_I := .inl (0, 1, .iload 1, 0, 0) :: c_X_sheet_1
section
variable {rm : Room} {K : Nat → Nat → Nat → eg_Lo → List Value → List eg_E → Prop} {Q : Option Value → List eg_E → Prop} {kc ks : Nat} {loc : eg_Lo} {st : List Value} {h : List eg_E}
theorem s_X_sheet_0 {x : Int32} {l0 : Option Value} {l : eg_Lo} : wps rm K Q c_X_sheet_0 kc ks (l0 :: some (.int x) :: l) (st) h = wps rm K Q c_X_sheet_1 kc ks (l0 :: some (.int x) :: l) (.int x :: st) h := rfl
theorem s_X_sheet_1  {a1 : Value} : wps rm K Q c_X_sheet_1 kc ks loc (a1 :: st) h = (st.length ≤ 4 ∧ eg_Cs n_X_isSheet [a1] h (fun v h9 => wps rm K Q c_X_sheet_4 kc ks loc (v.toList ++ st) h9)) := eg_c0_1
theorem s_X_sheet_4 {x : Int32} : wps rm K Q c_X_sheet_4 kc ks loc (.int x :: st) h = ((x = 0 → K 16 kc ks loc st h) ∧ (¬ x = 0 → wps rm K Q c_X_sheet_7 kc ks loc (st) h)) := rfl
theorem s_X_sheet_7 {x : Int32} {l0 l1 : Option Value} {l : eg_Lo} : wps rm K Q c_X_sheet_7 kc ks (l0 :: l1 :: some (.int x) :: l) (st) h = wps rm K Q c_X_sheet_8 kc ks (l0 :: l1 :: some (.int x) :: l) (.int x :: st) h := rfl
theorem s_X_sheet_8  : wps rm K Q c_X_sheet_8 kc ks loc (st) h = wps rm K Q c_X_sheet_9 kc ks loc (.int (0) :: st) h := rfl
theorem s_X_sheet_9  : wps rm K Q c_X_sheet_9 kc ks loc (st) h = wps rm K Q c_X_sheet_10 kc ks loc (.int (3) :: st) h := rfl
theorem s_X_sheet_10  {a1 : Value} {a2 : Value} {a3 : Value} : wps rm K Q c_X_sheet_10 kc ks loc (a3 :: a2 :: a1 :: st) h = (st.length ≤ 4 ∧ eg_Cs n_X_isWithin [a1, a2, a3] h (fun v h9 => wps rm K Q c_X_sheet_13 kc ks loc (v.toList ++ st) h9)) := eg_c0_3
theorem s_X_sheet_13 {x : Int32} : wps rm K Q c_X_sheet_13 kc ks loc (.int x :: st) h = ((¬ x = 0 → K 24 kc ks loc st h) ∧ (x = 0 → wps rm K Q c_X_sheet_16 kc ks loc (st) h)) := rfl
theorem s_X_sheet_16 {x : Nat} {l : eg_Lo} : wps rm K Q c_X_sheet_16 kc ks (some (.ref x) :: l) (st) h = wps rm K Q c_X_sheet_17 kc ks (some (.ref x) :: l) (.ref x :: st) h := rfl
theorem s_X_sheet_17  : wps rm K Q c_X_sheet_17 kc ks loc (st) h = wps rm K Q c_X_sheet_20 kc ks loc (.long (-1000000000000000001) :: st) h := rfl
theorem s_X_sheet_20  {a1 : Value} {x : Nat} : wps rm K Q c_X_sheet_20 kc ks loc (a1 :: .ref (x + 1) :: st) h = (eg_cls h x 11 ∧ st.length ≤ 4 ∧ eg_Cs n_X_found (.ref (x + 1) :: [a1]) h (fun v h9 => wps rm K Q c_X_sheet_23 kc ks loc (v.toList ++ st) h9)) := eg_c1_1
theorem s_X_sheet_23 {x : Int64} : wps rm K Q c_X_sheet_23 kc ks loc ([.long x]) h = (kc = rm.cells ∧ Q (some (.long x)) h) := rfl
theorem s_X_sheet_24 {x : Int32} {l0 l1 l2 : Option Value} {l : eg_Lo} : wps rm K Q c_X_sheet_24 kc ks (l0 :: l1 :: l2 :: some (.int x) :: l) (st) h = wps rm K Q c_X_sheet_25 kc ks (l0 :: l1 :: l2 :: some (.int x) :: l) (.int x :: st) h := rfl
theorem s_X_sheet_25 {x : Int32} : wps rm K Q c_X_sheet_25 kc ks loc (.int x :: st) h = ((0 ≤ x → K 36 kc ks loc st h) ∧ (¬ 0 ≤ x → wps rm K Q c_X_sheet_28 kc ks loc (st) h)) := rfl
theorem s_X_sheet_28 {x : Nat} {l : eg_Lo} : wps rm K Q c_X_sheet_28 kc ks (some (.ref x) :: l) (st) h = wps rm K Q c_X_sheet_29 kc ks (some (.ref x) :: l) (.ref x :: st) h := rfl
theorem s_X_sheet_29  : wps rm K Q c_X_sheet_29 kc ks loc (st) h = wps rm K Q c_X_sheet_32 kc ks loc (.long (-1000000000000000003) :: st) h := rfl
theorem s_X_sheet_32  {a1 : Value} {x : Nat} : wps rm K Q c_X_sheet_32 kc ks loc (a1 :: .ref (x + 1) :: st) h = (eg_cls h x 11 ∧ st.length ≤ 4 ∧ eg_Cs n_X_found (.ref (x + 1) :: [a1]) h (fun v h9 => wps rm K Q c_X_sheet_35 kc ks loc (v.toList ++ st) h9)) := eg_c1_1
theorem s_X_sheet_35 {x : Int64} : wps rm K Q c_X_sheet_35 kc ks loc ([.long x]) h = (kc = rm.cells ∧ Q (some (.long x)) h) := rfl
theorem s_X_sheet_36 {x : Int32} {l0 l1 l2 : Option Value} {l : eg_Lo} : wps rm K Q c_X_sheet_36 kc ks (l0 :: l1 :: l2 :: some (.int x) :: l) (st) h = wps rm K Q c_X_sheet_37 kc ks (l0 :: l1 :: l2 :: some (.int x) :: l) (.int x :: st) h := rfl
theorem s_X_sheet_37  : wps rm K Q c_X_sheet_37 kc ks loc (st) h = wps rm K Q c_X_sheet_39 kc ks loc (.int (48) :: st) h := rfl
theorem s_X_sheet_39 {x y : Int32} : wps rm K Q c_X_sheet_39 kc ks loc (.int y :: .int x :: st) h = ((x ≤ y → K 50 kc ks loc st h) ∧ (¬ x ≤ y → wps rm K Q c_X_sheet_42 kc ks loc (st) h)) := rfl
theorem s_X_sheet_42 {x : Nat} {l : eg_Lo} : wps rm K Q c_X_sheet_42 kc ks (some (.ref x) :: l) (st) h = wps rm K Q c_X_sheet_43 kc ks (some (.ref x) :: l) (.ref x :: st) h := rfl
theorem s_X_sheet_43  : wps rm K Q c_X_sheet_43 kc ks loc (st) h = wps rm K Q c_X_sheet_46 kc ks loc (.long (-1000000000000000001) :: st) h := rfl
theorem s_X_sheet_46  {a1 : Value} {x : Nat} : wps rm K Q c_X_sheet_46 kc ks loc (a1 :: .ref (x + 1) :: st) h = (eg_cls h x 11 ∧ st.length ≤ 4 ∧ eg_Cs n_X_found (.ref (x + 1) :: [a1]) h (fun v h9 => wps rm K Q c_X_sheet_49 kc ks loc (v.toList ++ st) h9)) := eg_c1_1
theorem s_X_sheet_49 {x : Int64} : wps rm K Q c_X_sheet_49 kc ks loc ([.long x]) h = (kc = rm.cells ∧ Q (some (.long x)) h) := rfl
theorem s_X_sheet_50 {x : Nat} {l : eg_Lo} : wps rm K Q c_X_sheet_50 kc ks (some (.ref x) :: l) (st) h = wps rm K Q c_X_sheet_51 kc ks (some (.ref x) :: l) (.ref x :: st) h := rfl
theorem s_X_sheet_51 {x : Nat} : wps rm K Q c_X_sheet_51 kc ks loc (.ref (x + 1) :: st) h = eg_gf h x 11 1 (fun v => wps rm K Q c_X_sheet_54 kc ks loc (v :: st) h) := rfl
theorem s_X_sheet_54 {x : Int32} {l0 : Option Value} {l : eg_Lo} : wps rm K Q c_X_sheet_54 kc ks (l0 :: some (.int x) :: l) (st) h = wps rm K Q c_X_sheet_55 kc ks (l0 :: some (.int x) :: l) (.int x :: st) h := rfl
theorem s_X_sheet_55 {x : Nat} {i : Int32} : wps rm K Q c_X_sheet_55 kc ks loc (.int i :: .ref (x + 1) :: st) h = eg_aa h x i (fun v => wps rm K Q c_X_sheet_56 kc ks loc (v :: st) h) := rfl
theorem s_X_sheet_56 {x : Int32} {l0 l1 : Option Value} {l : eg_Lo} : wps rm K Q c_X_sheet_56 kc ks (l0 :: l1 :: some (.int x) :: l) (st) h = wps rm K Q c_X_sheet_57 kc ks (l0 :: l1 :: some (.int x) :: l) (.int x :: st) h := rfl
theorem s_X_sheet_57 {x : Int32} {l0 l1 l2 : Option Value} {l : eg_Lo} : wps rm K Q c_X_sheet_57 kc ks (l0 :: l1 :: l2 :: some (.int x) :: l) (st) h = wps rm K Q c_X_sheet_58 kc ks (l0 :: l1 :: l2 :: some (.int x) :: l) (.int x :: st) h := rfl
theorem s_X_sheet_58  {a1 : Value} {a2 : Value} {x : Nat} : wps rm K Q c_X_sheet_58 kc ks loc (a2 :: a1 :: .ref (x + 1) :: st) h = (eg_cls h x 9 ∧ st.length ≤ 4 ∧ eg_Cs n_Sheet_renew (.ref (x + 1) :: [a1, a2]) h (fun v h9 => wps rm K Q c_X_sheet_61 kc ks loc (v.toList ++ st) h9)) := eg_c1_2
theorem s_X_sheet_61 {x : Int32} : wps rm K Q c_X_sheet_61 kc ks loc (.int x :: st) h = wps rm K Q c_X_sheet_62 kc ks loc (.long (x.toInt64) :: st) h := rfl
theorem s_X_sheet_62 {x : Int64} : wps rm K Q c_X_sheet_62 kc ks loc ([.long x]) h = (kc = rm.cells ∧ Q (some (.long x)) h) := rfl
def T_X_sheet : List (Nat × List eg_I) := [(16, c_X_sheet_16), (24, c_X_sheet_24), (36, c_X_sheet_36), (50, c_X_sheet_50)]
theorem j_X_sheet_16 {R : Nat → Nat → Nat → eg_Lo → List Value → List eg_E → Prop} {f pc0 : Nat} : eg_run rm R Q T_X_sheet (f + 1) 16 kc ks loc st h = wps rm (eg_run rm R Q T_X_sheet f) Q c_X_sheet_16 kc ks loc st h := rfl
theorem j_X_sheet_24 {R : Nat → Nat → Nat → eg_Lo → List Value → List eg_E → Prop} {f pc0 : Nat} : eg_run rm R Q T_X_sheet (f + 1) 24 kc ks loc st h = wps rm (eg_run rm R Q T_X_sheet f) Q c_X_sheet_24 kc ks loc st h := rfl
theorem j_X_sheet_36 {R : Nat → Nat → Nat → eg_Lo → List Value → List eg_E → Prop} {f pc0 : Nat} : eg_run rm R Q T_X_sheet (f + 1) 36 kc ks loc st h = wps rm (eg_run rm R Q T_X_sheet f) Q c_X_sheet_36 kc ks loc st h := rfl
theorem j_X_sheet_50 {R : Nat → Nat → Nat → eg_Lo → List Value → List eg_E → Prop} {f pc0 : Nat} : eg_run rm R Q T_X_sheet (f + 1) 50 kc ks loc st h = wps rm (eg_run rm R Q T_X_sheet f) Q c_X_sheet_50 kc ks loc st h := rfl
end
theorem q_X_sheet : (T_X_sheet.all fun q => eg_seq m_X_sheet q.1 q.2) = true := by decide +kernel
theorem b_X_sheet {as : List Value} {h : List eg_E} {Q : Option Value → List eg_E → Prop} (hf : (eg_fl as).length ≤ 4) (hw : wps (eg_rm m_X_sheet) (eg_run (eg_rm m_X_sheet) (eg_R m_X_sheet Q (h.length + 0)) Q T_X_sheet 6) Q c_X_sheet_0 0 0 (eg_entry 4 as) [] h) : eg_Runs n_X_sheet as h Q := eg_begin (d := m_X_sheet) rfl (by decide) (by decide +kernel) q_X_sheet hf hw
/-! ===== X_put ===== -/
def c_X_put_85 : List eg_I := .inl (85, 1, .lreturn, 0, 0) :: []
def c_X_put_84 : List eg_I := .inl (84, 1, .sipush (0), 0, 0) :: c_X_put_85
def c_X_put_83 : List eg_I := .inl (83, 1, .iastore, 0, 0) :: c_X_put_84
def c_X_put_82 : List eg_I := .inl (82, 1, .iload 3, 0, 0) :: c_X_put_83
def c_X_put_79 : List eg_I := .inl (79, 3, .goto (4), 83, 0) :: []
def c_X_put_78 : List eg_I := .inl (78, 1, .i2s, 0, 0) :: c_X_put_79
def c_X_put_77 : List eg_I := .inl (77, 1, .iload 3, 0, 0) :: c_X_put_78
def c_X_put_74 : List eg_I := .inl (74, 3, .if_icmp .ne (8), 82, 0) :: c_X_put_77
def c_X_put_73 : List eg_I := .inl (73, 1, .iconst (1), 0, 0) :: c_X_put_74
def c_X_put_70 : List eg_I := .inl (70, 3, .getfield 180, 9, 1) :: c_X_put_73
def c_X_put_68 : List eg_I := .inl (68, 2, .aload 4, 0, 0) :: c_X_put_70
def c_X_put_67 : List eg_I := .inl (67, 1, .iload 2, 0, 0) :: c_X_put_68
def c_X_put_64 : List eg_I := .inl (64, 3, .getfield 177, 9, 0) :: c_X_put_67
def c_X_put_62 : List eg_I := .inl (62, 2, .aload 4, 0, 0) :: c_X_put_64
def c_X_put_61 : List eg_I := .inl (61, 1, .lreturn, 0, 0) :: []
def c_X_put_58 : List eg_I := .inr (58, 1, 86, n_X_found, 1, 11, 0, 0) :: c_X_put_61
def c_X_put_55 : List eg_I := .inl (55, 3, .sipush (-1000000000000000001), 84, 0) :: c_X_put_58
def c_X_put_54 : List eg_I := .inl (54, 1, .aload 0, 0, 0) :: c_X_put_55
def c_X_put_51 : List eg_I := .inl (51, 3, .ifCond .ne (11), 62, 0) :: c_X_put_54
def c_X_put_48 : List eg_I := .inr (48, 0, 80, n_X_isWithin, 3, 11, 0, 0) :: c_X_put_51
def c_X_put_47 : List eg_I := .inl (47, 1, .isub, 0, 0) :: c_X_put_48
def c_X_put_46 : List eg_I := .inl (46, 1, .iconst (1), 0, 0) :: c_X_put_47
def c_X_put_43 : List eg_I := .inl (43, 3, .getfield 174, 9, 2) :: c_X_put_46
def c_X_put_41 : List eg_I := .inl (41, 2, .aload 4, 0, 0) :: c_X_put_43
def c_X_put_40 : List eg_I := .inl (40, 1, .iconst (0), 0, 0) :: c_X_put_41
def c_X_put_39 : List eg_I := .inl (39, 1, .iload 2, 0, 0) :: c_X_put_40
def c_X_put_38 : List eg_I := .inl (38, 1, .lreturn, 0, 0) :: []
def c_X_put_35 : List eg_I := .inr (35, 1, 86, n_X_found, 1, 11, 0, 0) :: c_X_put_38
def c_X_put_32 : List eg_I := .inl (32, 3, .sipush (-1000000000000000002), 172, 0) :: c_X_put_35
def c_X_put_31 : List eg_I := .inl (31, 1, .aload 0, 0, 0) :: c_X_put_32
def c_X_put_28 : List eg_I := .inl (28, 3, .ifCond .eq (11), 39, 0) :: c_X_put_31
def c_X_put_25 : List eg_I := .inr (25, 1, 168, n_Sheet_isMissing, 0, 9, 0, 0) :: c_X_put_28
def c_X_put_23 : List eg_I := .inl (23, 2, .aload 4, 0, 0) :: c_X_put_25
def c_X_put_21 : List eg_I := .inl (21, 2, .astore 4, 0, 0) :: c_X_put_23
def c_X_put_20 : List eg_I := .inl (20, 1, .aaload, 0, 0) :: c_X_put_21
def c_X_put_19 : List eg_I := .inl (19, 1, .iload 1, 0, 0) :: c_X_put_20
def c_X_put_16 : List eg_I := .inl (16, 3, .getfield 17, 11, 1) :: c_X_put_19
def c_X_put_15 : List eg_I := .inl (15, 1, .aload 0, 0, 0) :: c_X_put_16
def c_X_put_14 : List eg_I := .inl (14, 1, .lreturn, 0, 0) :: []
def c_X_put_11 : List eg_I := .inr (11, 1, 86, n_X_found, 1, 11, 0, 0) :: c_X_put_14
def c_X_put_8 : List eg_I := .inl (8, 3, .sipush (-1000000000000000001), 84, 0) :: c_X_put_11
def c_X_put_7 : List eg_I := .inl (7, 1, .aload 0, 0, 0) :: c_X_put_8
def c_X_put_4 : List eg_I := .inl (4, 3, .ifCond .ne (11), 15, 0) :: c_X_put_7
def c_X_put_1 : List eg_I := .inr (1, 0, 160, n_X_isSheet, 1, 11, 0, 0) :: c_X_put_4
def c_X_put_0 : List eg_I := .inl (0, 1, .iload 1, 0, 0) :: c_X_put_1
section
variable {rm : Room} {K : Nat → Nat → Nat → eg_Lo → List Value → List eg_E → Prop} {Q : Option Value → List eg_E → Prop} {kc ks : Nat} {loc : eg_Lo} {st : List Value} {h : List eg_E}
theorem s_X_put_0 {x : Int32} {l0 : Option Value} {l : eg_Lo} : wps rm K Q c_X_put_0 kc ks (l0 :: some (.int x) :: l) (st) h = wps rm K Q c_X_put_1 kc ks (l0 :: some (.int x) :: l) (.int x :: st) h := rfl
theorem s_X_put_1  {a1 : Value} : wps rm K Q c_X_put_1 kc ks loc (a1 :: st) h = (st.length ≤ 4 ∧ eg_Cs n_X_isSheet [a1] h (fun v h9 => wps rm K Q c_X_put_4 kc ks loc (v.toList ++ st) h9)) := eg_c0_1
theorem s_X_put_4 {x : Int32} : wps rm K Q c_X_put_4 kc ks loc (.int x :: st) h = ((¬ x = 0 → K 15 kc ks loc st h) ∧ (x = 0 → wps rm K Q c_X_put_7 kc ks loc (st) h)) := rfl
theorem s_X_put_7 {x : Nat} {l : eg_Lo} : wps rm K Q c_X_put_7 kc ks (some (.ref x) :: l) (st) h = wps rm K Q c_X_put_8 kc ks (some (.ref x) :: l) (.ref x :: st) h := rfl
theorem s_X_put_8  : wps rm K Q c_X_put_8 kc ks loc (st) h = wps rm K Q c_X_put_11 kc ks loc (.long (-1000000000000000001) :: st) h := rfl
theorem s_X_put_11  {a1 : Value} {x : Nat} : wps rm K Q c_X_put_11 kc ks loc (a1 :: .ref (x + 1) :: st) h = (eg_cls h x 11 ∧ st.length ≤ 4 ∧ eg_Cs n_X_found (.ref (x + 1) :: [a1]) h (fun v h9 => wps rm K Q c_X_put_14 kc ks loc (v.toList ++ st) h9)) := eg_c1_1
theorem s_X_put_14 {x : Int64} : wps rm K Q c_X_put_14 kc ks loc ([.long x]) h = (kc = rm.cells ∧ Q (some (.long x)) h) := rfl
theorem s_X_put_15 {x : Nat} {l : eg_Lo} : wps rm K Q c_X_put_15 kc ks (some (.ref x) :: l) (st) h = wps rm K Q c_X_put_16 kc ks (some (.ref x) :: l) (.ref x :: st) h := rfl
theorem s_X_put_16 {x : Nat} : wps rm K Q c_X_put_16 kc ks loc (.ref (x + 1) :: st) h = eg_gf h x 11 1 (fun v => wps rm K Q c_X_put_19 kc ks loc (v :: st) h) := rfl
theorem s_X_put_19 {x : Int32} {l0 : Option Value} {l : eg_Lo} : wps rm K Q c_X_put_19 kc ks (l0 :: some (.int x) :: l) (st) h = wps rm K Q c_X_put_20 kc ks (l0 :: some (.int x) :: l) (.int x :: st) h := rfl
theorem s_X_put_20 {x : Nat} {i : Int32} : wps rm K Q c_X_put_20 kc ks loc (.int i :: .ref (x + 1) :: st) h = eg_aa h x i (fun v => wps rm K Q c_X_put_21 kc ks loc (v :: st) h) := rfl
theorem s_X_put_21 {x : Nat} : wps rm K Q c_X_put_21 kc ks loc (.ref x :: st) h = wps rm K Q c_X_put_23 kc ks (eg_set1 loc 4 (.ref x)) (st) h := rfl
theorem s_X_put_23 {x : Nat} {l0 l1 l2 l3 : Option Value} {l : eg_Lo} : wps rm K Q c_X_put_23 kc ks (l0 :: l1 :: l2 :: l3 :: some (.ref x) :: l) (st) h = wps rm K Q c_X_put_25 kc ks (l0 :: l1 :: l2 :: l3 :: some (.ref x) :: l) (.ref x :: st) h := rfl
theorem s_X_put_25  {x : Nat} : wps rm K Q c_X_put_25 kc ks loc (.ref (x + 1) :: st) h = (eg_cls h x 9 ∧ st.length ≤ 4 ∧ eg_Cs n_Sheet_isMissing (.ref (x + 1) :: []) h (fun v h9 => wps rm K Q c_X_put_28 kc ks loc (v.toList ++ st) h9)) := eg_c1_0
theorem s_X_put_28 {x : Int32} : wps rm K Q c_X_put_28 kc ks loc (.int x :: st) h = ((x = 0 → K 39 kc ks loc st h) ∧ (¬ x = 0 → wps rm K Q c_X_put_31 kc ks loc (st) h)) := rfl
theorem s_X_put_31 {x : Nat} {l : eg_Lo} : wps rm K Q c_X_put_31 kc ks (some (.ref x) :: l) (st) h = wps rm K Q c_X_put_32 kc ks (some (.ref x) :: l) (.ref x :: st) h := rfl
theorem s_X_put_32  : wps rm K Q c_X_put_32 kc ks loc (st) h = wps rm K Q c_X_put_35 kc ks loc (.long (-1000000000000000002) :: st) h := rfl
theorem s_X_put_35  {a1 : Value} {x : Nat} : wps rm K Q c_X_put_35 kc ks loc (a1 :: .ref (x + 1) :: st) h = (eg_cls h x 11 ∧ st.length ≤ 4 ∧ eg_Cs n_X_found (.ref (x + 1) :: [a1]) h (fun v h9 => wps rm K Q c_X_put_38 kc ks loc (v.toList ++ st) h9)) := eg_c1_1
theorem s_X_put_38 {x : Int64} : wps rm K Q c_X_put_38 kc ks loc ([.long x]) h = (kc = rm.cells ∧ Q (some (.long x)) h) := rfl
theorem s_X_put_39 {x : Int32} {l0 l1 : Option Value} {l : eg_Lo} : wps rm K Q c_X_put_39 kc ks (l0 :: l1 :: some (.int x) :: l) (st) h = wps rm K Q c_X_put_40 kc ks (l0 :: l1 :: some (.int x) :: l) (.int x :: st) h := rfl
theorem s_X_put_40  : wps rm K Q c_X_put_40 kc ks loc (st) h = wps rm K Q c_X_put_41 kc ks loc (.int (0) :: st) h := rfl
theorem s_X_put_41 {x : Nat} {l0 l1 l2 l3 : Option Value} {l : eg_Lo} : wps rm K Q c_X_put_41 kc ks (l0 :: l1 :: l2 :: l3 :: some (.ref x) :: l) (st) h = wps rm K Q c_X_put_43 kc ks (l0 :: l1 :: l2 :: l3 :: some (.ref x) :: l) (.ref x :: st) h := rfl
theorem s_X_put_43 {x : Nat} : wps rm K Q c_X_put_43 kc ks loc (.ref (x + 1) :: st) h = eg_gf h x 9 2 (fun v => wps rm K Q c_X_put_46 kc ks loc (v :: st) h) := rfl
theorem s_X_put_46  : wps rm K Q c_X_put_46 kc ks loc (st) h = wps rm K Q c_X_put_47 kc ks loc (.int (1) :: st) h := rfl
theorem s_X_put_47 {x y : Int32} : wps rm K Q c_X_put_47 kc ks loc (.int y :: .int x :: st) h = wps rm K Q c_X_put_48 kc ks loc (.int (x - y) :: st) h := rfl
theorem s_X_put_48  {a1 : Value} {a2 : Value} {a3 : Value} : wps rm K Q c_X_put_48 kc ks loc (a3 :: a2 :: a1 :: st) h = (st.length ≤ 4 ∧ eg_Cs n_X_isWithin [a1, a2, a3] h (fun v h9 => wps rm K Q c_X_put_51 kc ks loc (v.toList ++ st) h9)) := eg_c0_3
theorem s_X_put_51 {x : Int32} : wps rm K Q c_X_put_51 kc ks loc (.int x :: st) h = ((¬ x = 0 → K 62 kc ks loc st h) ∧ (x = 0 → wps rm K Q c_X_put_54 kc ks loc (st) h)) := rfl
theorem s_X_put_54 {x : Nat} {l : eg_Lo} : wps rm K Q c_X_put_54 kc ks (some (.ref x) :: l) (st) h = wps rm K Q c_X_put_55 kc ks (some (.ref x) :: l) (.ref x :: st) h := rfl
theorem s_X_put_55  : wps rm K Q c_X_put_55 kc ks loc (st) h = wps rm K Q c_X_put_58 kc ks loc (.long (-1000000000000000001) :: st) h := rfl
theorem s_X_put_58  {a1 : Value} {x : Nat} : wps rm K Q c_X_put_58 kc ks loc (a1 :: .ref (x + 1) :: st) h = (eg_cls h x 11 ∧ st.length ≤ 4 ∧ eg_Cs n_X_found (.ref (x + 1) :: [a1]) h (fun v h9 => wps rm K Q c_X_put_61 kc ks loc (v.toList ++ st) h9)) := eg_c1_1
theorem s_X_put_61 {x : Int64} : wps rm K Q c_X_put_61 kc ks loc ([.long x]) h = (kc = rm.cells ∧ Q (some (.long x)) h) := rfl
theorem s_X_put_62 {x : Nat} {l0 l1 l2 l3 : Option Value} {l : eg_Lo} : wps rm K Q c_X_put_62 kc ks (l0 :: l1 :: l2 :: l3 :: some (.ref x) :: l) (st) h = wps rm K Q c_X_put_64 kc ks (l0 :: l1 :: l2 :: l3 :: some (.ref x) :: l) (.ref x :: st) h := rfl
theorem s_X_put_64 {x : Nat} : wps rm K Q c_X_put_64 kc ks loc (.ref (x + 1) :: st) h = eg_gf h x 9 0 (fun v => wps rm K Q c_X_put_67 kc ks loc (v :: st) h) := rfl
theorem s_X_put_67 {x : Int32} {l0 l1 : Option Value} {l : eg_Lo} : wps rm K Q c_X_put_67 kc ks (l0 :: l1 :: some (.int x) :: l) (st) h = wps rm K Q c_X_put_68 kc ks (l0 :: l1 :: some (.int x) :: l) (.int x :: st) h := rfl
theorem s_X_put_68 {x : Nat} {l0 l1 l2 l3 : Option Value} {l : eg_Lo} : wps rm K Q c_X_put_68 kc ks (l0 :: l1 :: l2 :: l3 :: some (.ref x) :: l) (st) h = wps rm K Q c_X_put_70 kc ks (l0 :: l1 :: l2 :: l3 :: some (.ref x) :: l) (.ref x :: st) h := rfl
theorem s_X_put_70 {x : Nat} : wps rm K Q c_X_put_70 kc ks loc (.ref (x + 1) :: st) h = eg_gf h x 9 1 (fun v => wps rm K Q c_X_put_73 kc ks loc (v :: st) h) := rfl
theorem s_X_put_73  : wps rm K Q c_X_put_73 kc ks loc (st) h = wps rm K Q c_X_put_74 kc ks loc (.int (1) :: st) h := rfl
theorem s_X_put_74 {x y : Int32} : wps rm K Q c_X_put_74 kc ks loc (.int y :: .int x :: st) h = ((¬ x = y → K 82 kc ks loc st h) ∧ (x = y → wps rm K Q c_X_put_77 kc ks loc (st) h)) := rfl
theorem s_X_put_77 {x : Int32} {l0 l1 l2 : Option Value} {l : eg_Lo} : wps rm K Q c_X_put_77 kc ks (l0 :: l1 :: l2 :: some (.int x) :: l) (st) h = wps rm K Q c_X_put_78 kc ks (l0 :: l1 :: l2 :: some (.int x) :: l) (.int x :: st) h := rfl
theorem s_X_put_78 {x : Int32} : wps rm K Q c_X_put_78 kc ks loc (.int x :: st) h = wps rm K Q c_X_put_79 kc ks loc (.int (x.toInt16.toInt32) :: st) h := rfl
theorem s_X_put_79  : wps rm K Q c_X_put_79 kc ks loc (st) h = K 83 kc ks loc st h := rfl
theorem s_X_put_82 {x : Int32} {l0 l1 l2 : Option Value} {l : eg_Lo} : wps rm K Q c_X_put_82 kc ks (l0 :: l1 :: l2 :: some (.int x) :: l) (st) h = wps rm K Q c_X_put_83 kc ks (l0 :: l1 :: l2 :: some (.int x) :: l) (.int x :: st) h := rfl
theorem s_X_put_83 {x : Nat} {i : Int32} {v : Int32} : wps rm K Q c_X_put_83 kc ks loc (.int v :: .int i :: .ref (x + 1) :: st) h = eg_is h x i v (fun h9 => wps rm K Q c_X_put_84 kc ks loc (st) h9) := rfl
theorem s_X_put_84  : wps rm K Q c_X_put_84 kc ks loc (st) h = wps rm K Q c_X_put_85 kc ks loc (.long (0) :: st) h := rfl
theorem s_X_put_85 {x : Int64} : wps rm K Q c_X_put_85 kc ks loc ([.long x]) h = (kc = rm.cells ∧ Q (some (.long x)) h) := rfl
def T_X_put : List (Nat × List eg_I) := [(15, c_X_put_15), (39, c_X_put_39), (62, c_X_put_62), (82, c_X_put_82), (83, c_X_put_83)]
theorem j_X_put_15 {R : Nat → Nat → Nat → eg_Lo → List Value → List eg_E → Prop} {f pc0 : Nat} : eg_run rm R Q T_X_put (f + 1) 15 kc ks loc st h = wps rm (eg_run rm R Q T_X_put f) Q c_X_put_15 kc ks loc st h := rfl
theorem j_X_put_39 {R : Nat → Nat → Nat → eg_Lo → List Value → List eg_E → Prop} {f pc0 : Nat} : eg_run rm R Q T_X_put (f + 1) 39 kc ks loc st h = wps rm (eg_run rm R Q T_X_put f) Q c_X_put_39 kc ks loc st h := rfl
theorem j_X_put_62 {R : Nat → Nat → Nat → eg_Lo → List Value → List eg_E → Prop} {f pc0 : Nat} : eg_run rm R Q T_X_put (f + 1) 62 kc ks loc st h = wps rm (eg_run rm R Q T_X_put f) Q c_X_put_62 kc ks loc st h := rfl
theorem j_X_put_82 {R : Nat → Nat → Nat → eg_Lo → List Value → List eg_E → Prop} {f pc0 : Nat} : eg_run rm R Q T_X_put (f + 1) 82 kc ks loc st h = wps rm (eg_run rm R Q T_X_put f) Q c_X_put_82 kc ks loc st h := rfl
theorem j_X_put_83 {R : Nat → Nat → Nat → eg_Lo → List Value → List eg_E → Prop} {f pc0 : Nat} : eg_run rm R Q T_X_put (f + 1) 83 kc ks loc st h = wps rm (eg_run rm R Q T_X_put f) Q c_X_put_83 kc ks loc st h := rfl
end
theorem q_X_put : (T_X_put.all fun q => eg_seq m_X_put q.1 q.2) = true := by decide +kernel
theorem b_X_put {as : List Value} {h : List eg_E} {Q : Option Value → List eg_E → Prop} (hf : (eg_fl as).length ≤ 5) (hw : wps (eg_rm m_X_put) (eg_run (eg_rm m_X_put) (eg_R m_X_put Q (h.length + 0)) Q T_X_put 7) Q c_X_put_0 0 0 (eg_entry 5 as) [] h) : eg_Runs n_X_put as h Q := eg_begin (d := m_X_put) rfl (by decide) (by decide +kernel) q_X_put hf hw
/-! ===== X_bits ===== -/
def c_X_bits_91 : List eg_I := .inl (91, 1, .lreturn, 0, 0) :: []
def c_X_bits_90 : List eg_I := .inl (90, 1, .sipush (0), 0, 0) :: c_X_bits_91
def c_X_bits_89 : List eg_I := .inl (89, 1, .iastore, 0, 0) :: c_X_bits_90
def c_X_bits_86 : List eg_I := .inr (86, 0, 185, n_Sheet_wholeOfBits, 1, 9, 0, 0) :: c_X_bits_89
def c_X_bits_85 : List eg_I := .inl (85, 1, .lload 3, 0, 0) :: c_X_bits_86
def c_X_bits_84 : List eg_I := .inl (84, 1, .iload 2, 0, 0) :: c_X_bits_85
def c_X_bits_81 : List eg_I := .inl (81, 3, .getfield 177, 9, 0) :: c_X_bits_84
def c_X_bits_79 : List eg_I := .inl (79, 2, .aload 5, 0, 0) :: c_X_bits_81
def c_X_bits_78 : List eg_I := .inl (78, 1, .lreturn, 0, 0) :: []
def c_X_bits_75 : List eg_I := .inr (75, 1, 86, n_X_found, 1, 11, 0, 0) :: c_X_bits_78
def c_X_bits_72 : List eg_I := .inl (72, 3, .sipush (-1000000000000000001), 84, 0) :: c_X_bits_75
def c_X_bits_71 : List eg_I := .inl (71, 1, .aload 0, 0, 0) :: c_X_bits_72
def c_X_bits_68 : List eg_I := .inl (68, 3, .ifCond .ne (11), 79, 0) :: c_X_bits_71
def c_X_bits_65 : List eg_I := .inr (65, 0, 80, n_X_isWithin, 3, 11, 0, 0) :: c_X_bits_68
def c_X_bits_64 : List eg_I := .inl (64, 1, .isub, 0, 0) :: c_X_bits_65
def c_X_bits_63 : List eg_I := .inl (63, 1, .iconst (1), 0, 0) :: c_X_bits_64
def c_X_bits_60 : List eg_I := .inl (60, 3, .getfield 174, 9, 2) :: c_X_bits_63
def c_X_bits_58 : List eg_I := .inl (58, 2, .aload 5, 0, 0) :: c_X_bits_60
def c_X_bits_57 : List eg_I := .inl (57, 1, .iconst (0), 0, 0) :: c_X_bits_58
def c_X_bits_56 : List eg_I := .inl (56, 1, .iload 2, 0, 0) :: c_X_bits_57
def c_X_bits_55 : List eg_I := .inl (55, 1, .lreturn, 0, 0) :: []
def c_X_bits_52 : List eg_I := .inr (52, 1, 86, n_X_found, 1, 11, 0, 0) :: c_X_bits_55
def c_X_bits_49 : List eg_I := .inl (49, 3, .sipush (-1000000000000000004), 183, 0) :: c_X_bits_52
def c_X_bits_48 : List eg_I := .inl (48, 1, .aload 0, 0, 0) :: c_X_bits_49
def c_X_bits_45 : List eg_I := .inl (45, 3, .if_icmp .eq (11), 56, 0) :: c_X_bits_48
def c_X_bits_44 : List eg_I := .inl (44, 1, .iconst (3), 0, 0) :: c_X_bits_45
def c_X_bits_41 : List eg_I := .inl (41, 3, .getfield 180, 9, 1) :: c_X_bits_44
def c_X_bits_39 : List eg_I := .inl (39, 2, .aload 5, 0, 0) :: c_X_bits_41
def c_X_bits_38 : List eg_I := .inl (38, 1, .lreturn, 0, 0) :: []
def c_X_bits_35 : List eg_I := .inr (35, 1, 86, n_X_found, 1, 11, 0, 0) :: c_X_bits_38
def c_X_bits_32 : List eg_I := .inl (32, 3, .sipush (-1000000000000000002), 172, 0) :: c_X_bits_35
def c_X_bits_31 : List eg_I := .inl (31, 1, .aload 0, 0, 0) :: c_X_bits_32
def c_X_bits_28 : List eg_I := .inl (28, 3, .ifCond .eq (11), 39, 0) :: c_X_bits_31
def c_X_bits_25 : List eg_I := .inr (25, 1, 168, n_Sheet_isMissing, 0, 9, 0, 0) :: c_X_bits_28
def c_X_bits_23 : List eg_I := .inl (23, 2, .aload 5, 0, 0) :: c_X_bits_25
def c_X_bits_21 : List eg_I := .inl (21, 2, .astore 5, 0, 0) :: c_X_bits_23
def c_X_bits_20 : List eg_I := .inl (20, 1, .aaload, 0, 0) :: c_X_bits_21
def c_X_bits_19 : List eg_I := .inl (19, 1, .iload 1, 0, 0) :: c_X_bits_20
def c_X_bits_16 : List eg_I := .inl (16, 3, .getfield 17, 11, 1) :: c_X_bits_19
def c_X_bits_15 : List eg_I := .inl (15, 1, .aload 0, 0, 0) :: c_X_bits_16
def c_X_bits_14 : List eg_I := .inl (14, 1, .lreturn, 0, 0) :: []
def c_X_bits_11 : List eg_I := .inr (11, 1, 86, n_X_found, 1, 11, 0, 0) :: c_X_bits_14
def c_X_bits_8 : List eg_I := .inl (8, 3, .sipush (-1000000000000000001), 84, 0) :: c_X_bits_11
def c_X_bits_7 : List eg_I := .inl (7, 1, .aload 0, 0, 0) :: c_X_bits_8
def c_X_bits_4 : List eg_I := .inl (4, 3, .ifCond .ne (11), 15, 0) :: c_X_bits_7
def c_X_bits_1 : List eg_I := .inr (1, 0, 160, n_X_isSheet, 1, 11, 0, 0) :: c_X_bits_4
def c_X_bits_0 : List eg_I := .inl (0, 1, .iload 1, 0, 0) :: c_X_bits_1
section
variable {rm : Room} {K : Nat → Nat → Nat → eg_Lo → List Value → List eg_E → Prop} {Q : Option Value → List eg_E → Prop} {kc ks : Nat} {loc : eg_Lo} {st : List Value} {h : List eg_E}
theorem s_X_bits_0 {x : Int32} {l0 : Option Value} {l : eg_Lo} : wps rm K Q c_X_bits_0 kc ks (l0 :: some (.int x) :: l) (st) h = wps rm K Q c_X_bits_1 kc ks (l0 :: some (.int x) :: l) (.int x :: st) h := rfl
theorem s_X_bits_1  {a1 : Value} : wps rm K Q c_X_bits_1 kc ks loc (a1 :: st) h = (st.length ≤ 4 ∧ eg_Cs n_X_isSheet [a1] h (fun v h9 => wps rm K Q c_X_bits_4 kc ks loc (v.toList ++ st) h9)) := eg_c0_1
theorem s_X_bits_4 {x : Int32} : wps rm K Q c_X_bits_4 kc ks loc (.int x :: st) h = ((¬ x = 0 → K 15 kc ks loc st h) ∧ (x = 0 → wps rm K Q c_X_bits_7 kc ks loc (st) h)) := rfl
theorem s_X_bits_7 {x : Nat} {l : eg_Lo} : wps rm K Q c_X_bits_7 kc ks (some (.ref x) :: l) (st) h = wps rm K Q c_X_bits_8 kc ks (some (.ref x) :: l) (.ref x :: st) h := rfl
theorem s_X_bits_8  : wps rm K Q c_X_bits_8 kc ks loc (st) h = wps rm K Q c_X_bits_11 kc ks loc (.long (-1000000000000000001) :: st) h := rfl
theorem s_X_bits_11  {a1 : Value} {x : Nat} : wps rm K Q c_X_bits_11 kc ks loc (a1 :: .ref (x + 1) :: st) h = (eg_cls h x 11 ∧ st.length ≤ 4 ∧ eg_Cs n_X_found (.ref (x + 1) :: [a1]) h (fun v h9 => wps rm K Q c_X_bits_14 kc ks loc (v.toList ++ st) h9)) := eg_c1_1
theorem s_X_bits_14 {x : Int64} : wps rm K Q c_X_bits_14 kc ks loc ([.long x]) h = (kc = rm.cells ∧ Q (some (.long x)) h) := rfl
theorem s_X_bits_15 {x : Nat} {l : eg_Lo} : wps rm K Q c_X_bits_15 kc ks (some (.ref x) :: l) (st) h = wps rm K Q c_X_bits_16 kc ks (some (.ref x) :: l) (.ref x :: st) h := rfl
theorem s_X_bits_16 {x : Nat} : wps rm K Q c_X_bits_16 kc ks loc (.ref (x + 1) :: st) h = eg_gf h x 11 1 (fun v => wps rm K Q c_X_bits_19 kc ks loc (v :: st) h) := rfl
theorem s_X_bits_19 {x : Int32} {l0 : Option Value} {l : eg_Lo} : wps rm K Q c_X_bits_19 kc ks (l0 :: some (.int x) :: l) (st) h = wps rm K Q c_X_bits_20 kc ks (l0 :: some (.int x) :: l) (.int x :: st) h := rfl
theorem s_X_bits_20 {x : Nat} {i : Int32} : wps rm K Q c_X_bits_20 kc ks loc (.int i :: .ref (x + 1) :: st) h = eg_aa h x i (fun v => wps rm K Q c_X_bits_21 kc ks loc (v :: st) h) := rfl
theorem s_X_bits_21 {x : Nat} : wps rm K Q c_X_bits_21 kc ks loc (.ref x :: st) h = wps rm K Q c_X_bits_23 kc ks (eg_set1 loc 5 (.ref x)) (st) h := rfl
theorem s_X_bits_23 {x : Nat} {l0 l1 l2 l3 l4 : Option Value} {l : eg_Lo} : wps rm K Q c_X_bits_23 kc ks (l0 :: l1 :: l2 :: l3 :: l4 :: some (.ref x) :: l) (st) h = wps rm K Q c_X_bits_25 kc ks (l0 :: l1 :: l2 :: l3 :: l4 :: some (.ref x) :: l) (.ref x :: st) h := rfl
theorem s_X_bits_25  {x : Nat} : wps rm K Q c_X_bits_25 kc ks loc (.ref (x + 1) :: st) h = (eg_cls h x 9 ∧ st.length ≤ 4 ∧ eg_Cs n_Sheet_isMissing (.ref (x + 1) :: []) h (fun v h9 => wps rm K Q c_X_bits_28 kc ks loc (v.toList ++ st) h9)) := eg_c1_0
theorem s_X_bits_28 {x : Int32} : wps rm K Q c_X_bits_28 kc ks loc (.int x :: st) h = ((x = 0 → K 39 kc ks loc st h) ∧ (¬ x = 0 → wps rm K Q c_X_bits_31 kc ks loc (st) h)) := rfl
theorem s_X_bits_31 {x : Nat} {l : eg_Lo} : wps rm K Q c_X_bits_31 kc ks (some (.ref x) :: l) (st) h = wps rm K Q c_X_bits_32 kc ks (some (.ref x) :: l) (.ref x :: st) h := rfl
theorem s_X_bits_32  : wps rm K Q c_X_bits_32 kc ks loc (st) h = wps rm K Q c_X_bits_35 kc ks loc (.long (-1000000000000000002) :: st) h := rfl
theorem s_X_bits_35  {a1 : Value} {x : Nat} : wps rm K Q c_X_bits_35 kc ks loc (a1 :: .ref (x + 1) :: st) h = (eg_cls h x 11 ∧ st.length ≤ 4 ∧ eg_Cs n_X_found (.ref (x + 1) :: [a1]) h (fun v h9 => wps rm K Q c_X_bits_38 kc ks loc (v.toList ++ st) h9)) := eg_c1_1
theorem s_X_bits_38 {x : Int64} : wps rm K Q c_X_bits_38 kc ks loc ([.long x]) h = (kc = rm.cells ∧ Q (some (.long x)) h) := rfl
theorem s_X_bits_39 {x : Nat} {l0 l1 l2 l3 l4 : Option Value} {l : eg_Lo} : wps rm K Q c_X_bits_39 kc ks (l0 :: l1 :: l2 :: l3 :: l4 :: some (.ref x) :: l) (st) h = wps rm K Q c_X_bits_41 kc ks (l0 :: l1 :: l2 :: l3 :: l4 :: some (.ref x) :: l) (.ref x :: st) h := rfl
theorem s_X_bits_41 {x : Nat} : wps rm K Q c_X_bits_41 kc ks loc (.ref (x + 1) :: st) h = eg_gf h x 9 1 (fun v => wps rm K Q c_X_bits_44 kc ks loc (v :: st) h) := rfl
theorem s_X_bits_44  : wps rm K Q c_X_bits_44 kc ks loc (st) h = wps rm K Q c_X_bits_45 kc ks loc (.int (3) :: st) h := rfl
theorem s_X_bits_45 {x y : Int32} : wps rm K Q c_X_bits_45 kc ks loc (.int y :: .int x :: st) h = ((x = y → K 56 kc ks loc st h) ∧ (¬ x = y → wps rm K Q c_X_bits_48 kc ks loc (st) h)) := rfl
theorem s_X_bits_48 {x : Nat} {l : eg_Lo} : wps rm K Q c_X_bits_48 kc ks (some (.ref x) :: l) (st) h = wps rm K Q c_X_bits_49 kc ks (some (.ref x) :: l) (.ref x :: st) h := rfl
theorem s_X_bits_49  : wps rm K Q c_X_bits_49 kc ks loc (st) h = wps rm K Q c_X_bits_52 kc ks loc (.long (-1000000000000000004) :: st) h := rfl
theorem s_X_bits_52  {a1 : Value} {x : Nat} : wps rm K Q c_X_bits_52 kc ks loc (a1 :: .ref (x + 1) :: st) h = (eg_cls h x 11 ∧ st.length ≤ 4 ∧ eg_Cs n_X_found (.ref (x + 1) :: [a1]) h (fun v h9 => wps rm K Q c_X_bits_55 kc ks loc (v.toList ++ st) h9)) := eg_c1_1
theorem s_X_bits_55 {x : Int64} : wps rm K Q c_X_bits_55 kc ks loc ([.long x]) h = (kc = rm.cells ∧ Q (some (.long x)) h) := rfl
theorem s_X_bits_56 {x : Int32} {l0 l1 : Option Value} {l : eg_Lo} : wps rm K Q c_X_bits_56 kc ks (l0 :: l1 :: some (.int x) :: l) (st) h = wps rm K Q c_X_bits_57 kc ks (l0 :: l1 :: some (.int x) :: l) (.int x :: st) h := rfl
theorem s_X_bits_57  : wps rm K Q c_X_bits_57 kc ks loc (st) h = wps rm K Q c_X_bits_58 kc ks loc (.int (0) :: st) h := rfl
theorem s_X_bits_58 {x : Nat} {l0 l1 l2 l3 l4 : Option Value} {l : eg_Lo} : wps rm K Q c_X_bits_58 kc ks (l0 :: l1 :: l2 :: l3 :: l4 :: some (.ref x) :: l) (st) h = wps rm K Q c_X_bits_60 kc ks (l0 :: l1 :: l2 :: l3 :: l4 :: some (.ref x) :: l) (.ref x :: st) h := rfl
theorem s_X_bits_60 {x : Nat} : wps rm K Q c_X_bits_60 kc ks loc (.ref (x + 1) :: st) h = eg_gf h x 9 2 (fun v => wps rm K Q c_X_bits_63 kc ks loc (v :: st) h) := rfl
theorem s_X_bits_63  : wps rm K Q c_X_bits_63 kc ks loc (st) h = wps rm K Q c_X_bits_64 kc ks loc (.int (1) :: st) h := rfl
theorem s_X_bits_64 {x y : Int32} : wps rm K Q c_X_bits_64 kc ks loc (.int y :: .int x :: st) h = wps rm K Q c_X_bits_65 kc ks loc (.int (x - y) :: st) h := rfl
theorem s_X_bits_65  {a1 : Value} {a2 : Value} {a3 : Value} : wps rm K Q c_X_bits_65 kc ks loc (a3 :: a2 :: a1 :: st) h = (st.length ≤ 4 ∧ eg_Cs n_X_isWithin [a1, a2, a3] h (fun v h9 => wps rm K Q c_X_bits_68 kc ks loc (v.toList ++ st) h9)) := eg_c0_3
theorem s_X_bits_68 {x : Int32} : wps rm K Q c_X_bits_68 kc ks loc (.int x :: st) h = ((¬ x = 0 → K 79 kc ks loc st h) ∧ (x = 0 → wps rm K Q c_X_bits_71 kc ks loc (st) h)) := rfl
theorem s_X_bits_71 {x : Nat} {l : eg_Lo} : wps rm K Q c_X_bits_71 kc ks (some (.ref x) :: l) (st) h = wps rm K Q c_X_bits_72 kc ks (some (.ref x) :: l) (.ref x :: st) h := rfl
theorem s_X_bits_72  : wps rm K Q c_X_bits_72 kc ks loc (st) h = wps rm K Q c_X_bits_75 kc ks loc (.long (-1000000000000000001) :: st) h := rfl
theorem s_X_bits_75  {a1 : Value} {x : Nat} : wps rm K Q c_X_bits_75 kc ks loc (a1 :: .ref (x + 1) :: st) h = (eg_cls h x 11 ∧ st.length ≤ 4 ∧ eg_Cs n_X_found (.ref (x + 1) :: [a1]) h (fun v h9 => wps rm K Q c_X_bits_78 kc ks loc (v.toList ++ st) h9)) := eg_c1_1
theorem s_X_bits_78 {x : Int64} : wps rm K Q c_X_bits_78 kc ks loc ([.long x]) h = (kc = rm.cells ∧ Q (some (.long x)) h) := rfl
theorem s_X_bits_79 {x : Nat} {l0 l1 l2 l3 l4 : Option Value} {l : eg_Lo} : wps rm K Q c_X_bits_79 kc ks (l0 :: l1 :: l2 :: l3 :: l4 :: some (.ref x) :: l) (st) h = wps rm K Q c_X_bits_81 kc ks (l0 :: l1 :: l2 :: l3 :: l4 :: some (.ref x) :: l) (.ref x :: st) h := rfl
theorem s_X_bits_81 {x : Nat} : wps rm K Q c_X_bits_81 kc ks loc (.ref (x + 1) :: st) h = eg_gf h x 9 0 (fun v => wps rm K Q c_X_bits_84 kc ks loc (v :: st) h) := rfl
theorem s_X_bits_84 {x : Int32} {l0 l1 : Option Value} {l : eg_Lo} : wps rm K Q c_X_bits_84 kc ks (l0 :: l1 :: some (.int x) :: l) (st) h = wps rm K Q c_X_bits_85 kc ks (l0 :: l1 :: some (.int x) :: l) (.int x :: st) h := rfl
theorem s_X_bits_85 {x : Int64} {l0 l1 l2 : Option Value} {l : eg_Lo} : wps rm K Q c_X_bits_85 kc ks (l0 :: l1 :: l2 :: some (.long x) :: l) (st) h = wps rm K Q c_X_bits_86 kc ks (l0 :: l1 :: l2 :: some (.long x) :: l) (.long x :: st) h := rfl
theorem s_X_bits_86  {a1 : Value} : wps rm K Q c_X_bits_86 kc ks loc (a1 :: st) h = (st.length ≤ 4 ∧ eg_Cs n_Sheet_wholeOfBits [a1] h (fun v h9 => wps rm K Q c_X_bits_89 kc ks loc (v.toList ++ st) h9)) := eg_c0_1
theorem s_X_bits_89 {x : Nat} {i : Int32} {v : Int32} : wps rm K Q c_X_bits_89 kc ks loc (.int v :: .int i :: .ref (x + 1) :: st) h = eg_is h x i v (fun h9 => wps rm K Q c_X_bits_90 kc ks loc (st) h9) := rfl
theorem s_X_bits_90  : wps rm K Q c_X_bits_90 kc ks loc (st) h = wps rm K Q c_X_bits_91 kc ks loc (.long (0) :: st) h := rfl
theorem s_X_bits_91 {x : Int64} : wps rm K Q c_X_bits_91 kc ks loc ([.long x]) h = (kc = rm.cells ∧ Q (some (.long x)) h) := rfl
def T_X_bits : List (Nat × List eg_I) := [(15, c_X_bits_15), (39, c_X_bits_39), (56, c_X_bits_56), (79, c_X_bits_79)]
theorem j_X_bits_15 {R : Nat → Nat → Nat → eg_Lo → List Value → List eg_E → Prop} {f pc0 : Nat} : eg_run rm R Q T_X_bits (f + 1) 15 kc ks loc st h = wps rm (eg_run rm R Q T_X_bits f) Q c_X_bits_15 kc ks loc st h := rfl
theorem j_X_bits_39 {R : Nat → Nat → Nat → eg_Lo → List Value → List eg_E → Prop} {f pc0 : Nat} : eg_run rm R Q T_X_bits (f + 1) 39 kc ks loc st h = wps rm (eg_run rm R Q T_X_bits f) Q c_X_bits_39 kc ks loc st h := rfl
theorem j_X_bits_56 {R : Nat → Nat → Nat → eg_Lo → List Value → List eg_E → Prop} {f pc0 : Nat} : eg_run rm R Q T_X_bits (f + 1) 56 kc ks loc st h = wps rm (eg_run rm R Q T_X_bits f) Q c_X_bits_56 kc ks loc st h := rfl
theorem j_X_bits_79 {R : Nat → Nat → Nat → eg_Lo → List Value → List eg_E → Prop} {f pc0 : Nat} : eg_run rm R Q T_X_bits (f + 1) 79 kc ks loc st h = wps rm (eg_run rm R Q T_X_bits f) Q c_X_bits_79 kc ks loc st h := rfl
end
theorem q_X_bits : (T_X_bits.all fun q => eg_seq m_X_bits q.1 q.2) = true := by decide +kernel
theorem b_X_bits {as : List Value} {h : List eg_E} {Q : Option Value → List eg_E → Prop} (hf : (eg_fl as).length ≤ 6) (hw : wps (eg_rm m_X_bits) (eg_run (eg_rm m_X_bits) (eg_R m_X_bits Q (h.length + 0)) Q T_X_bits 6) Q c_X_bits_0 0 0 (eg_entry 6 as) [] h) : eg_Runs n_X_bits as h Q := eg_begin (d := m_X_bits) rfl (by decide) (by decide +kernel) q_X_bits hf hw
/-! ===== X_copy ===== -/
def c_X_copy_135 : List eg_I := .inl (135, 1, .lreturn, 0, 0) :: []
def c_X_copy_134 : List eg_I := .inl (134, 1, .i2l, 0, 0) :: c_X_copy_135
def c_X_copy_132 : List eg_I := .inl (132, 2, .iload 5, 0, 0) :: c_X_copy_134
def c_X_copy_129 : List eg_I := .inl (129, 3, .monitorenter, 192, 0) :: c_X_copy_132
def c_X_copy_127 : List eg_I := .inl (127, 2, .iload 5, 0, 0) :: c_X_copy_129
def c_X_copy_125 : List eg_I := .inl (125, 2, .iload 4, 0, 0) :: c_X_copy_127
def c_X_copy_122 : List eg_I := .inl (122, 3, .getfield 177, 9, 0) :: c_X_copy_125
def c_X_copy_120 : List eg_I := .inl (120, 2, .aload 7, 0, 0) :: c_X_copy_122
def c_X_copy_119 : List eg_I := .inl (119, 1, .iload 2, 0, 0) :: c_X_copy_120
def c_X_copy_116 : List eg_I := .inl (116, 3, .getfield 177, 9, 0) :: c_X_copy_119
def c_X_copy_114 : List eg_I := .inl (114, 2, .aload 6, 0, 0) :: c_X_copy_116
def c_X_copy_113 : List eg_I := .inl (113, 1, .lreturn, 0, 0) :: []
def c_X_copy_110 : List eg_I := .inr (110, 1, 86, n_X_found, 1, 11, 0, 0) :: c_X_copy_113
def c_X_copy_107 : List eg_I := .inl (107, 3, .sipush (-1000000000000000001), 84, 0) :: c_X_copy_110
def c_X_copy_106 : List eg_I := .inl (106, 1, .aload 0, 0, 0) :: c_X_copy_107
def c_X_copy_103 : List eg_I := .inl (103, 3, .ifCond .ne (11), 114, 0) :: c_X_copy_106
def c_X_copy_100 : List eg_I := .inr (100, 1, 189, n_Sheet_hasRun, 2, 9, 0, 0) :: c_X_copy_103
def c_X_copy_98 : List eg_I := .inl (98, 2, .iload 5, 0, 0) :: c_X_copy_100
def c_X_copy_96 : List eg_I := .inl (96, 2, .iload 4, 0, 0) :: c_X_copy_98
def c_X_copy_94 : List eg_I := .inl (94, 2, .aload 7, 0, 0) :: c_X_copy_96
def c_X_copy_91 : List eg_I := .inl (91, 3, .ifCond .eq (15), 106, 0) :: c_X_copy_94
def c_X_copy_88 : List eg_I := .inr (88, 1, 189, n_Sheet_hasRun, 2, 9, 0, 0) :: c_X_copy_91
def c_X_copy_86 : List eg_I := .inl (86, 2, .iload 5, 0, 0) :: c_X_copy_88
def c_X_copy_85 : List eg_I := .inl (85, 1, .iload 2, 0, 0) :: c_X_copy_86
def c_X_copy_83 : List eg_I := .inl (83, 2, .aload 6, 0, 0) :: c_X_copy_85
def c_X_copy_82 : List eg_I := .inl (82, 1, .lreturn, 0, 0) :: []
def c_X_copy_79 : List eg_I := .inr (79, 1, 86, n_X_found, 1, 11, 0, 0) :: c_X_copy_82
def c_X_copy_76 : List eg_I := .inl (76, 3, .sipush (-1000000000000000004), 183, 0) :: c_X_copy_79
def c_X_copy_75 : List eg_I := .inl (75, 1, .aload 0, 0, 0) :: c_X_copy_76
def c_X_copy_72 : List eg_I := .inl (72, 3, .if_icmp .eq (11), 83, 0) :: c_X_copy_75
def c_X_copy_69 : List eg_I := .inl (69, 3, .getfield 180, 9, 1) :: c_X_copy_72
def c_X_copy_67 : List eg_I := .inl (67, 2, .aload 7, 0, 0) :: c_X_copy_69
def c_X_copy_64 : List eg_I := .inl (64, 3, .getfield 180, 9, 1) :: c_X_copy_67
def c_X_copy_62 : List eg_I := .inl (62, 2, .aload 6, 0, 0) :: c_X_copy_64
def c_X_copy_61 : List eg_I := .inl (61, 1, .lreturn, 0, 0) :: []
def c_X_copy_58 : List eg_I := .inr (58, 1, 86, n_X_found, 1, 11, 0, 0) :: c_X_copy_61
def c_X_copy_55 : List eg_I := .inl (55, 3, .sipush (-1000000000000000002), 172, 0) :: c_X_copy_58
def c_X_copy_54 : List eg_I := .inl (54, 1, .aload 0, 0, 0) :: c_X_copy_55
def c_X_copy_51 : List eg_I := .inl (51, 3, .ifCond .eq (11), 62, 0) :: c_X_copy_54
def c_X_copy_48 : List eg_I := .inr (48, 1, 168, n_Sheet_isMissing, 0, 9, 0, 0) :: c_X_copy_51
def c_X_copy_46 : List eg_I := .inl (46, 2, .aload 7, 0, 0) :: c_X_copy_48
def c_X_copy_43 : List eg_I := .inl (43, 3, .ifCond .ne (11), 54, 0) :: c_X_copy_46
def c_X_copy_40 : List eg_I := .inr (40, 1, 168, n_Sheet_isMissing, 0, 9, 0, 0) :: c_X_copy_43
def c_X_copy_38 : List eg_I := .inl (38, 2, .aload 6, 0, 0) :: c_X_copy_40
def c_X_copy_36 : List eg_I := .inl (36, 2, .astore 7, 0, 0) :: c_X_copy_38
def c_X_copy_35 : List eg_I := .inl (35, 1, .aaload, 0, 0) :: c_X_copy_36
def c_X_copy_34 : List eg_I := .inl (34, 1, .iload 3, 0, 0) :: c_X_copy_35
def c_X_copy_31 : List eg_I := .inl (31, 3, .getfield 17, 11, 1) :: c_X_copy_34
def c_X_copy_30 : List eg_I := .inl (30, 1, .aload 0, 0, 0) :: c_X_copy_31
def c_X_copy_28 : List eg_I := .inl (28, 2, .astore 6, 0, 0) :: c_X_copy_30
def c_X_copy_27 : List eg_I := .inl (27, 1, .aaload, 0, 0) :: c_X_copy_28
def c_X_copy_26 : List eg_I := .inl (26, 1, .iload 1, 0, 0) :: c_X_copy_27
def c_X_copy_23 : List eg_I := .inl (23, 3, .getfield 17, 11, 1) :: c_X_copy_26
def c_X_copy_22 : List eg_I := .inl (22, 1, .aload 0, 0, 0) :: c_X_copy_23
def c_X_copy_21 : List eg_I := .inl (21, 1, .lreturn, 0, 0) :: []
def c_X_copy_18 : List eg_I := .inr (18, 1, 86, n_X_found, 1, 11, 0, 0) :: c_X_copy_21
def c_X_copy_15 : List eg_I := .inl (15, 3, .sipush (-1000000000000000001), 84, 0) :: c_X_copy_18
def c_X_copy_14 : List eg_I := .inl (14, 1, .aload 0, 0, 0) :: c_X_copy_15
def c_X_copy_11 : List eg_I := .inl (11, 3, .ifCond .ne (11), 22, 0) :: c_X_copy_14
def c_X_copy_8 : List eg_I := .inr (8, 0, 160, n_X_isSheet, 1, 11, 0, 0) :: c_X_copy_11
def c_X_copy_7 : List eg_I := .inl (7, 1, .iload 3, 0, 0) :: c_X_copy_8
def c_X_copy_4 : List eg_I := .inl (4, 3, .ifCond .eq (10), 14, 0) :: c_X_copy_7
def c_X_copy_1 : List eg_I := .inr (1, 0, 160, n_X_isSheet, 1, 11, 0, 0) :: c_X_copy_4
def c_X_copy_0 : List eg_I := .inl (0, 1, .iload 1, 0, 0) :: c_X_copy_1
section
variable {rm : Room} {K : Nat → Nat → Nat → eg_Lo → List Value → List eg_E → Prop} {Q : Option Value → List eg_E → Prop} {kc ks : Nat} {loc : eg_Lo} {st : List Value} {h : List eg_E}
theorem s_X_copy_0 {x : Int32} {l0 : Option Value} {l : eg_Lo} : wps rm K Q c_X_copy_0 kc ks (l0 :: some (.int x) :: l) (st) h = wps rm K Q c_X_copy_1 kc ks (l0 :: some (.int x) :: l) (.int x :: st) h := rfl
theorem s_X_copy_1  {a1 : Value} : wps rm K Q c_X_copy_1 kc ks loc (a1 :: st) h = (st.length ≤ 4 ∧ eg_Cs n_X_isSheet [a1] h (fun v h9 => wps rm K Q c_X_copy_4 kc ks loc (v.toList ++ st) h9)) := eg_c0_1
theorem s_X_copy_4 {x : Int32} : wps rm K Q c_X_copy_4 kc ks loc (.int x :: st) h = ((x = 0 → K 14 kc ks loc st h) ∧ (¬ x = 0 → wps rm K Q c_X_copy_7 kc ks loc (st) h)) := rfl
theorem s_X_copy_7 {x : Int32} {l0 l1 l2 : Option Value} {l : eg_Lo} : wps rm K Q c_X_copy_7 kc ks (l0 :: l1 :: l2 :: some (.int x) :: l) (st) h = wps rm K Q c_X_copy_8 kc ks (l0 :: l1 :: l2 :: some (.int x) :: l) (.int x :: st) h := rfl
theorem s_X_copy_8  {a1 : Value} : wps rm K Q c_X_copy_8 kc ks loc (a1 :: st) h = (st.length ≤ 4 ∧ eg_Cs n_X_isSheet [a1] h (fun v h9 => wps rm K Q c_X_copy_11 kc ks loc (v.toList ++ st) h9)) := eg_c0_1
theorem s_X_copy_11 {x : Int32} : wps rm K Q c_X_copy_11 kc ks loc (.int x :: st) h = ((¬ x = 0 → K 22 kc ks loc st h) ∧ (x = 0 → wps rm K Q c_X_copy_14 kc ks loc (st) h)) := rfl
theorem s_X_copy_14 {x : Nat} {l : eg_Lo} : wps rm K Q c_X_copy_14 kc ks (some (.ref x) :: l) (st) h = wps rm K Q c_X_copy_15 kc ks (some (.ref x) :: l) (.ref x :: st) h := rfl
theorem s_X_copy_15  : wps rm K Q c_X_copy_15 kc ks loc (st) h = wps rm K Q c_X_copy_18 kc ks loc (.long (-1000000000000000001) :: st) h := rfl
theorem s_X_copy_18  {a1 : Value} {x : Nat} : wps rm K Q c_X_copy_18 kc ks loc (a1 :: .ref (x + 1) :: st) h = (eg_cls h x 11 ∧ st.length ≤ 4 ∧ eg_Cs n_X_found (.ref (x + 1) :: [a1]) h (fun v h9 => wps rm K Q c_X_copy_21 kc ks loc (v.toList ++ st) h9)) := eg_c1_1
theorem s_X_copy_21 {x : Int64} : wps rm K Q c_X_copy_21 kc ks loc ([.long x]) h = (kc = rm.cells ∧ Q (some (.long x)) h) := rfl
theorem s_X_copy_22 {x : Nat} {l : eg_Lo} : wps rm K Q c_X_copy_22 kc ks (some (.ref x) :: l) (st) h = wps rm K Q c_X_copy_23 kc ks (some (.ref x) :: l) (.ref x :: st) h := rfl
theorem s_X_copy_23 {x : Nat} : wps rm K Q c_X_copy_23 kc ks loc (.ref (x + 1) :: st) h = eg_gf h x 11 1 (fun v => wps rm K Q c_X_copy_26 kc ks loc (v :: st) h) := rfl
theorem s_X_copy_26 {x : Int32} {l0 : Option Value} {l : eg_Lo} : wps rm K Q c_X_copy_26 kc ks (l0 :: some (.int x) :: l) (st) h = wps rm K Q c_X_copy_27 kc ks (l0 :: some (.int x) :: l) (.int x :: st) h := rfl
theorem s_X_copy_27 {x : Nat} {i : Int32} : wps rm K Q c_X_copy_27 kc ks loc (.int i :: .ref (x + 1) :: st) h = eg_aa h x i (fun v => wps rm K Q c_X_copy_28 kc ks loc (v :: st) h) := rfl
theorem s_X_copy_28 {x : Nat} : wps rm K Q c_X_copy_28 kc ks loc (.ref x :: st) h = wps rm K Q c_X_copy_30 kc ks (eg_set1 loc 6 (.ref x)) (st) h := rfl
theorem s_X_copy_30 {x : Nat} {l : eg_Lo} : wps rm K Q c_X_copy_30 kc ks (some (.ref x) :: l) (st) h = wps rm K Q c_X_copy_31 kc ks (some (.ref x) :: l) (.ref x :: st) h := rfl
theorem s_X_copy_31 {x : Nat} : wps rm K Q c_X_copy_31 kc ks loc (.ref (x + 1) :: st) h = eg_gf h x 11 1 (fun v => wps rm K Q c_X_copy_34 kc ks loc (v :: st) h) := rfl
theorem s_X_copy_34 {x : Int32} {l0 l1 l2 : Option Value} {l : eg_Lo} : wps rm K Q c_X_copy_34 kc ks (l0 :: l1 :: l2 :: some (.int x) :: l) (st) h = wps rm K Q c_X_copy_35 kc ks (l0 :: l1 :: l2 :: some (.int x) :: l) (.int x :: st) h := rfl
theorem s_X_copy_35 {x : Nat} {i : Int32} : wps rm K Q c_X_copy_35 kc ks loc (.int i :: .ref (x + 1) :: st) h = eg_aa h x i (fun v => wps rm K Q c_X_copy_36 kc ks loc (v :: st) h) := rfl
theorem s_X_copy_36 {x : Nat} : wps rm K Q c_X_copy_36 kc ks loc (.ref x :: st) h = wps rm K Q c_X_copy_38 kc ks (eg_set1 loc 7 (.ref x)) (st) h := rfl
theorem s_X_copy_38 {x : Nat} {l0 l1 l2 l3 l4 l5 : Option Value} {l : eg_Lo} : wps rm K Q c_X_copy_38 kc ks (l0 :: l1 :: l2 :: l3 :: l4 :: l5 :: some (.ref x) :: l) (st) h = wps rm K Q c_X_copy_40 kc ks (l0 :: l1 :: l2 :: l3 :: l4 :: l5 :: some (.ref x) :: l) (.ref x :: st) h := rfl
theorem s_X_copy_40  {x : Nat} : wps rm K Q c_X_copy_40 kc ks loc (.ref (x + 1) :: st) h = (eg_cls h x 9 ∧ st.length ≤ 4 ∧ eg_Cs n_Sheet_isMissing (.ref (x + 1) :: []) h (fun v h9 => wps rm K Q c_X_copy_43 kc ks loc (v.toList ++ st) h9)) := eg_c1_0
theorem s_X_copy_43 {x : Int32} : wps rm K Q c_X_copy_43 kc ks loc (.int x :: st) h = ((¬ x = 0 → K 54 kc ks loc st h) ∧ (x = 0 → wps rm K Q c_X_copy_46 kc ks loc (st) h)) := rfl
theorem s_X_copy_46 {x : Nat} {l0 l1 l2 l3 l4 l5 l6 : Option Value} {l : eg_Lo} : wps rm K Q c_X_copy_46 kc ks (l0 :: l1 :: l2 :: l3 :: l4 :: l5 :: l6 :: some (.ref x) :: l) (st) h = wps rm K Q c_X_copy_48 kc ks (l0 :: l1 :: l2 :: l3 :: l4 :: l5 :: l6 :: some (.ref x) :: l) (.ref x :: st) h := rfl
theorem s_X_copy_48  {x : Nat} : wps rm K Q c_X_copy_48 kc ks loc (.ref (x + 1) :: st) h = (eg_cls h x 9 ∧ st.length ≤ 4 ∧ eg_Cs n_Sheet_isMissing (.ref (x + 1) :: []) h (fun v h9 => wps rm K Q c_X_copy_51 kc ks loc (v.toList ++ st) h9)) := eg_c1_0
theorem s_X_copy_51 {x : Int32} : wps rm K Q c_X_copy_51 kc ks loc (.int x :: st) h = ((x = 0 → K 62 kc ks loc st h) ∧ (¬ x = 0 → wps rm K Q c_X_copy_54 kc ks loc (st) h)) := rfl
theorem s_X_copy_54 {x : Nat} {l : eg_Lo} : wps rm K Q c_X_copy_54 kc ks (some (.ref x) :: l) (st) h = wps rm K Q c_X_copy_55 kc ks (some (.ref x) :: l) (.ref x :: st) h := rfl
theorem s_X_copy_55  : wps rm K Q c_X_copy_55 kc ks loc (st) h = wps rm K Q c_X_copy_58 kc ks loc (.long (-1000000000000000002) :: st) h := rfl
theorem s_X_copy_58  {a1 : Value} {x : Nat} : wps rm K Q c_X_copy_58 kc ks loc (a1 :: .ref (x + 1) :: st) h = (eg_cls h x 11 ∧ st.length ≤ 4 ∧ eg_Cs n_X_found (.ref (x + 1) :: [a1]) h (fun v h9 => wps rm K Q c_X_copy_61 kc ks loc (v.toList ++ st) h9)) := eg_c1_1
theorem s_X_copy_61 {x : Int64} : wps rm K Q c_X_copy_61 kc ks loc ([.long x]) h = (kc = rm.cells ∧ Q (some (.long x)) h) := rfl
theorem s_X_copy_62 {x : Nat} {l0 l1 l2 l3 l4 l5 : Option Value} {l : eg_Lo} : wps rm K Q c_X_copy_62 kc ks (l0 :: l1 :: l2 :: l3 :: l4 :: l5 :: some (.ref x) :: l) (st) h = wps rm K Q c_X_copy_64 kc ks (l0 :: l1 :: l2 :: l3 :: l4 :: l5 :: some (.ref x) :: l) (.ref x :: st) h := rfl
theorem s_X_copy_64 {x : Nat} : wps rm K Q c_X_copy_64 kc ks loc (.ref (x + 1) :: st) h = eg_gf h x 9 1 (fun v => wps rm K Q c_X_copy_67 kc ks loc (v :: st) h) := rfl
theorem s_X_copy_67 {x : Nat} {l0 l1 l2 l3 l4 l5 l6 : Option Value} {l : eg_Lo} : wps rm K Q c_X_copy_67 kc ks (l0 :: l1 :: l2 :: l3 :: l4 :: l5 :: l6 :: some (.ref x) :: l) (st) h = wps rm K Q c_X_copy_69 kc ks (l0 :: l1 :: l2 :: l3 :: l4 :: l5 :: l6 :: some (.ref x) :: l) (.ref x :: st) h := rfl
theorem s_X_copy_69 {x : Nat} : wps rm K Q c_X_copy_69 kc ks loc (.ref (x + 1) :: st) h = eg_gf h x 9 1 (fun v => wps rm K Q c_X_copy_72 kc ks loc (v :: st) h) := rfl
theorem s_X_copy_72 {x y : Int32} : wps rm K Q c_X_copy_72 kc ks loc (.int y :: .int x :: st) h = ((x = y → K 83 kc ks loc st h) ∧ (¬ x = y → wps rm K Q c_X_copy_75 kc ks loc (st) h)) := rfl
theorem s_X_copy_75 {x : Nat} {l : eg_Lo} : wps rm K Q c_X_copy_75 kc ks (some (.ref x) :: l) (st) h = wps rm K Q c_X_copy_76 kc ks (some (.ref x) :: l) (.ref x :: st) h := rfl
theorem s_X_copy_76  : wps rm K Q c_X_copy_76 kc ks loc (st) h = wps rm K Q c_X_copy_79 kc ks loc (.long (-1000000000000000004) :: st) h := rfl
theorem s_X_copy_79  {a1 : Value} {x : Nat} : wps rm K Q c_X_copy_79 kc ks loc (a1 :: .ref (x + 1) :: st) h = (eg_cls h x 11 ∧ st.length ≤ 4 ∧ eg_Cs n_X_found (.ref (x + 1) :: [a1]) h (fun v h9 => wps rm K Q c_X_copy_82 kc ks loc (v.toList ++ st) h9)) := eg_c1_1
theorem s_X_copy_82 {x : Int64} : wps rm K Q c_X_copy_82 kc ks loc ([.long x]) h = (kc = rm.cells ∧ Q (some (.long x)) h) := rfl
theorem s_X_copy_83 {x : Nat} {l0 l1 l2 l3 l4 l5 : Option Value} {l : eg_Lo} : wps rm K Q c_X_copy_83 kc ks (l0 :: l1 :: l2 :: l3 :: l4 :: l5 :: some (.ref x) :: l) (st) h = wps rm K Q c_X_copy_85 kc ks (l0 :: l1 :: l2 :: l3 :: l4 :: l5 :: some (.ref x) :: l) (.ref x :: st) h := rfl
theorem s_X_copy_85 {x : Int32} {l0 l1 : Option Value} {l : eg_Lo} : wps rm K Q c_X_copy_85 kc ks (l0 :: l1 :: some (.int x) :: l) (st) h = wps rm K Q c_X_copy_86 kc ks (l0 :: l1 :: some (.int x) :: l) (.int x :: st) h := rfl
theorem s_X_copy_86 {x : Int32} {l0 l1 l2 l3 l4 : Option Value} {l : eg_Lo} : wps rm K Q c_X_copy_86 kc ks (l0 :: l1 :: l2 :: l3 :: l4 :: some (.int x) :: l) (st) h = wps rm K Q c_X_copy_88 kc ks (l0 :: l1 :: l2 :: l3 :: l4 :: some (.int x) :: l) (.int x :: st) h := rfl
theorem s_X_copy_88  {a1 : Value} {a2 : Value} {x : Nat} : wps rm K Q c_X_copy_88 kc ks loc (a2 :: a1 :: .ref (x + 1) :: st) h = (eg_cls h x 9 ∧ st.length ≤ 4 ∧ eg_Cs n_Sheet_hasRun (.ref (x + 1) :: [a1, a2]) h (fun v h9 => wps rm K Q c_X_copy_91 kc ks loc (v.toList ++ st) h9)) := eg_c1_2
theorem s_X_copy_91 {x : Int32} : wps rm K Q c_X_copy_91 kc ks loc (.int x :: st) h = ((x = 0 → K 106 kc ks loc st h) ∧ (¬ x = 0 → wps rm K Q c_X_copy_94 kc ks loc (st) h)) := rfl
theorem s_X_copy_94 {x : Nat} {l0 l1 l2 l3 l4 l5 l6 : Option Value} {l : eg_Lo} : wps rm K Q c_X_copy_94 kc ks (l0 :: l1 :: l2 :: l3 :: l4 :: l5 :: l6 :: some (.ref x) :: l) (st) h = wps rm K Q c_X_copy_96 kc ks (l0 :: l1 :: l2 :: l3 :: l4 :: l5 :: l6 :: some (.ref x) :: l) (.ref x :: st) h := rfl
theorem s_X_copy_96 {x : Int32} {l0 l1 l2 l3 : Option Value} {l : eg_Lo} : wps rm K Q c_X_copy_96 kc ks (l0 :: l1 :: l2 :: l3 :: some (.int x) :: l) (st) h = wps rm K Q c_X_copy_98 kc ks (l0 :: l1 :: l2 :: l3 :: some (.int x) :: l) (.int x :: st) h := rfl
theorem s_X_copy_98 {x : Int32} {l0 l1 l2 l3 l4 : Option Value} {l : eg_Lo} : wps rm K Q c_X_copy_98 kc ks (l0 :: l1 :: l2 :: l3 :: l4 :: some (.int x) :: l) (st) h = wps rm K Q c_X_copy_100 kc ks (l0 :: l1 :: l2 :: l3 :: l4 :: some (.int x) :: l) (.int x :: st) h := rfl
theorem s_X_copy_100  {a1 : Value} {a2 : Value} {x : Nat} : wps rm K Q c_X_copy_100 kc ks loc (a2 :: a1 :: .ref (x + 1) :: st) h = (eg_cls h x 9 ∧ st.length ≤ 4 ∧ eg_Cs n_Sheet_hasRun (.ref (x + 1) :: [a1, a2]) h (fun v h9 => wps rm K Q c_X_copy_103 kc ks loc (v.toList ++ st) h9)) := eg_c1_2
theorem s_X_copy_103 {x : Int32} : wps rm K Q c_X_copy_103 kc ks loc (.int x :: st) h = ((¬ x = 0 → K 114 kc ks loc st h) ∧ (x = 0 → wps rm K Q c_X_copy_106 kc ks loc (st) h)) := rfl
theorem s_X_copy_106 {x : Nat} {l : eg_Lo} : wps rm K Q c_X_copy_106 kc ks (some (.ref x) :: l) (st) h = wps rm K Q c_X_copy_107 kc ks (some (.ref x) :: l) (.ref x :: st) h := rfl
theorem s_X_copy_107  : wps rm K Q c_X_copy_107 kc ks loc (st) h = wps rm K Q c_X_copy_110 kc ks loc (.long (-1000000000000000001) :: st) h := rfl
theorem s_X_copy_110  {a1 : Value} {x : Nat} : wps rm K Q c_X_copy_110 kc ks loc (a1 :: .ref (x + 1) :: st) h = (eg_cls h x 11 ∧ st.length ≤ 4 ∧ eg_Cs n_X_found (.ref (x + 1) :: [a1]) h (fun v h9 => wps rm K Q c_X_copy_113 kc ks loc (v.toList ++ st) h9)) := eg_c1_1
theorem s_X_copy_113 {x : Int64} : wps rm K Q c_X_copy_113 kc ks loc ([.long x]) h = (kc = rm.cells ∧ Q (some (.long x)) h) := rfl
theorem s_X_copy_114 {x : Nat} {l0 l1 l2 l3 l4 l5 : Option Value} {l : eg_Lo} : wps rm K Q c_X_copy_114 kc ks (l0 :: l1 :: l2 :: l3 :: l4 :: l5 :: some (.ref x) :: l) (st) h = wps rm K Q c_X_copy_116 kc ks (l0 :: l1 :: l2 :: l3 :: l4 :: l5 :: some (.ref x) :: l) (.ref x :: st) h := rfl
theorem s_X_copy_116 {x : Nat} : wps rm K Q c_X_copy_116 kc ks loc (.ref (x + 1) :: st) h = eg_gf h x 9 0 (fun v => wps rm K Q c_X_copy_119 kc ks loc (v :: st) h) := rfl
theorem s_X_copy_119 {x : Int32} {l0 l1 : Option Value} {l : eg_Lo} : wps rm K Q c_X_copy_119 kc ks (l0 :: l1 :: some (.int x) :: l) (st) h = wps rm K Q c_X_copy_120 kc ks (l0 :: l1 :: some (.int x) :: l) (.int x :: st) h := rfl
theorem s_X_copy_120 {x : Nat} {l0 l1 l2 l3 l4 l5 l6 : Option Value} {l : eg_Lo} : wps rm K Q c_X_copy_120 kc ks (l0 :: l1 :: l2 :: l3 :: l4 :: l5 :: l6 :: some (.ref x) :: l) (st) h = wps rm K Q c_X_copy_122 kc ks (l0 :: l1 :: l2 :: l3 :: l4 :: l5 :: l6 :: some (.ref x) :: l) (.ref x :: st) h := rfl
theorem s_X_copy_122 {x : Nat} : wps rm K Q c_X_copy_122 kc ks loc (.ref (x + 1) :: st) h = eg_gf h x 9 0 (fun v => wps rm K Q c_X_copy_125 kc ks loc (v :: st) h) := rfl
theorem s_X_copy_125 {x : Int32} {l0 l1 l2 l3 : Option Value} {l : eg_Lo} : wps rm K Q c_X_copy_125 kc ks (l0 :: l1 :: l2 :: l3 :: some (.int x) :: l) (st) h = wps rm K Q c_X_copy_127 kc ks (l0 :: l1 :: l2 :: l3 :: some (.int x) :: l) (.int x :: st) h := rfl
theorem s_X_copy_127 {x : Int32} {l0 l1 l2 l3 l4 : Option Value} {l : eg_Lo} : wps rm K Q c_X_copy_127 kc ks (l0 :: l1 :: l2 :: l3 :: l4 :: some (.int x) :: l) (st) h = wps rm K Q c_X_copy_129 kc ks (l0 :: l1 :: l2 :: l3 :: l4 :: some (.int x) :: l) (.int x :: st) h := rfl
theorem s_X_copy_129 {x y : Nat} {sp dp z : Int32} : wps rm K Q c_X_copy_129 kc ks loc (.int z :: .int dp :: .ref (y + 1) :: .int sp :: .ref (x + 1) :: []) h = eg_cpi h x y sp dp z (fun h9 => wps rm K Q c_X_copy_132 kc ks loc ([]) h9) := eg_cp_i
theorem s_X_copy_132 {x : Int32} {l0 l1 l2 l3 l4 : Option Value} {l : eg_Lo} : wps rm K Q c_X_copy_132 kc ks (l0 :: l1 :: l2 :: l3 :: l4 :: some (.int x) :: l) (st) h = wps rm K Q c_X_copy_134 kc ks (l0 :: l1 :: l2 :: l3 :: l4 :: some (.int x) :: l) (.int x :: st) h := rfl
theorem s_X_copy_134 {x : Int32} : wps rm K Q c_X_copy_134 kc ks loc (.int x :: st) h = wps rm K Q c_X_copy_135 kc ks loc (.long (x.toInt64) :: st) h := rfl
theorem s_X_copy_135 {x : Int64} : wps rm K Q c_X_copy_135 kc ks loc ([.long x]) h = (kc = rm.cells ∧ Q (some (.long x)) h) := rfl
def T_X_copy : List (Nat × List eg_I) := [(14, c_X_copy_14), (22, c_X_copy_22), (54, c_X_copy_54), (62, c_X_copy_62), (83, c_X_copy_83), (106, c_X_copy_106), (114, c_X_copy_114)]
theorem j_X_copy_14 {R : Nat → Nat → Nat → eg_Lo → List Value → List eg_E → Prop} {f pc0 : Nat} : eg_run rm R Q T_X_copy (f + 1) 14 kc ks loc st h = wps rm (eg_run rm R Q T_X_copy f) Q c_X_copy_14 kc ks loc st h := rfl
theorem j_X_copy_22 {R : Nat → Nat → Nat → eg_Lo → List Value → List eg_E → Prop} {f pc0 : Nat} : eg_run rm R Q T_X_copy (f + 1) 22 kc ks loc st h = wps rm (eg_run rm R Q T_X_copy f) Q c_X_copy_22 kc ks loc st h := rfl
theorem j_X_copy_54 {R : Nat → Nat → Nat → eg_Lo → List Value → List eg_E → Prop} {f pc0 : Nat} : eg_run rm R Q T_X_copy (f + 1) 54 kc ks loc st h = wps rm (eg_run rm R Q T_X_copy f) Q c_X_copy_54 kc ks loc st h := rfl
theorem j_X_copy_62 {R : Nat → Nat → Nat → eg_Lo → List Value → List eg_E → Prop} {f pc0 : Nat} : eg_run rm R Q T_X_copy (f + 1) 62 kc ks loc st h = wps rm (eg_run rm R Q T_X_copy f) Q c_X_copy_62 kc ks loc st h := rfl
theorem j_X_copy_83 {R : Nat → Nat → Nat → eg_Lo → List Value → List eg_E → Prop} {f pc0 : Nat} : eg_run rm R Q T_X_copy (f + 1) 83 kc ks loc st h = wps rm (eg_run rm R Q T_X_copy f) Q c_X_copy_83 kc ks loc st h := rfl
theorem j_X_copy_106 {R : Nat → Nat → Nat → eg_Lo → List Value → List eg_E → Prop} {f pc0 : Nat} : eg_run rm R Q T_X_copy (f + 1) 106 kc ks loc st h = wps rm (eg_run rm R Q T_X_copy f) Q c_X_copy_106 kc ks loc st h := rfl
theorem j_X_copy_114 {R : Nat → Nat → Nat → eg_Lo → List Value → List eg_E → Prop} {f pc0 : Nat} : eg_run rm R Q T_X_copy (f + 1) 114 kc ks loc st h = wps rm (eg_run rm R Q T_X_copy f) Q c_X_copy_114 kc ks loc st h := rfl
end
theorem q_X_copy : (T_X_copy.all fun q => eg_seq m_X_copy q.1 q.2) = true := by decide +kernel
theorem b_X_copy {as : List Value} {h : List eg_E} {Q : Option Value → List eg_E → Prop} (hf : (eg_fl as).length ≤ 8) (hw : wps (eg_rm m_X_copy) (eg_run (eg_rm m_X_copy) (eg_R m_X_copy Q (h.length + 0)) Q T_X_copy 9) Q c_X_copy_0 0 0 (eg_entry 8 as) [] h) : eg_Runs n_X_copy as h Q := eg_begin (d := m_X_copy) rfl (by decide) (by decide +kernel) q_X_copy hf hw
/-! ===== X_lay ===== -/
def c_X_lay_89 : List eg_I := .inl (89, 1, .lreturn, 0, 0) :: []
def c_X_lay_88 : List eg_I := .inl (88, 1, .i2l, 0, 0) :: c_X_lay_89
def c_X_lay_85 : List eg_I := .inr (85, 0, 198, n_X_layPoints, 2, 11, 0, 0) :: c_X_lay_88
def c_X_lay_84 : List eg_I := .inl (84, 1, .aaload, 0, 0) :: c_X_lay_85
def c_X_lay_83 : List eg_I := .inl (83, 1, .iload 2, 0, 0) :: c_X_lay_84
def c_X_lay_80 : List eg_I := .inl (80, 3, .getfield 17, 11, 1) :: c_X_lay_83
def c_X_lay_79 : List eg_I := .inl (79, 1, .aload 0, 0, 0) :: c_X_lay_80
def c_X_lay_78 : List eg_I := .inl (78, 1, .aaload, 0, 0) :: c_X_lay_79
def c_X_lay_77 : List eg_I := .inl (77, 1, .iload 1, 0, 0) :: c_X_lay_78
def c_X_lay_74 : List eg_I := .inl (74, 3, .getfield 11, 11, 0) :: c_X_lay_77
def c_X_lay_73 : List eg_I := .inl (73, 1, .aload 0, 0, 0) :: c_X_lay_74
def c_X_lay_72 : List eg_I := .inl (72, 1, .lreturn, 0, 0) :: []
def c_X_lay_69 : List eg_I := .inr (69, 1, 86, n_X_found, 1, 11, 0, 0) :: c_X_lay_72
def c_X_lay_66 : List eg_I := .inl (66, 3, .sipush (-1000000000000000005), 94, 0) :: c_X_lay_69
def c_X_lay_65 : List eg_I := .inl (65, 1, .aload 0, 0, 0) :: c_X_lay_66
def c_X_lay_62 : List eg_I := .inl (62, 3, .if_icmp .le (11), 73, 0) :: c_X_lay_65
def c_X_lay_59 : List eg_I := .inr (59, 1, 90, n_Part_room, 0, 8, 0, 0) :: c_X_lay_62
def c_X_lay_58 : List eg_I := .inl (58, 1, .aaload, 0, 0) :: c_X_lay_59
def c_X_lay_57 : List eg_I := .inl (57, 1, .iload 1, 0, 0) :: c_X_lay_58
def c_X_lay_54 : List eg_I := .inl (54, 3, .getfield 11, 11, 0) :: c_X_lay_57
def c_X_lay_53 : List eg_I := .inl (53, 1, .aload 0, 0, 0) :: c_X_lay_54
def c_X_lay_52 : List eg_I := .inl (52, 1, .idiv, 0, 0) :: c_X_lay_53
def c_X_lay_51 : List eg_I := .inl (51, 1, .iconst (3), 0, 0) :: c_X_lay_52
def c_X_lay_48 : List eg_I := .inl (48, 3, .getfield 174, 9, 2) :: c_X_lay_51
def c_X_lay_47 : List eg_I := .inl (47, 1, .aaload, 0, 0) :: c_X_lay_48
def c_X_lay_46 : List eg_I := .inl (46, 1, .iload 2, 0, 0) :: c_X_lay_47
def c_X_lay_43 : List eg_I := .inl (43, 3, .getfield 17, 11, 1) :: c_X_lay_46
def c_X_lay_42 : List eg_I := .inl (42, 1, .aload 0, 0, 0) :: c_X_lay_43
def c_X_lay_41 : List eg_I := .inl (41, 1, .lreturn, 0, 0) :: []
def c_X_lay_38 : List eg_I := .inr (38, 1, 86, n_X_found, 1, 11, 0, 0) :: c_X_lay_41
def c_X_lay_35 : List eg_I := .inl (35, 3, .sipush (-1000000000000000002), 172, 0) :: c_X_lay_38
def c_X_lay_34 : List eg_I := .inl (34, 1, .aload 0, 0, 0) :: c_X_lay_35
def c_X_lay_31 : List eg_I := .inl (31, 3, .ifCond .eq (11), 42, 0) :: c_X_lay_34
def c_X_lay_28 : List eg_I := .inr (28, 1, 168, n_Sheet_isMissing, 0, 9, 0, 0) :: c_X_lay_31
def c_X_lay_27 : List eg_I := .inl (27, 1, .aaload, 0, 0) :: c_X_lay_28
def c_X_lay_26 : List eg_I := .inl (26, 1, .iload 2, 0, 0) :: c_X_lay_27
def c_X_lay_23 : List eg_I := .inl (23, 3, .getfield 17, 11, 1) :: c_X_lay_26
def c_X_lay_22 : List eg_I := .inl (22, 1, .aload 0, 0, 0) :: c_X_lay_23
def c_X_lay_21 : List eg_I := .inl (21, 1, .lreturn, 0, 0) :: []
def c_X_lay_18 : List eg_I := .inr (18, 1, 86, n_X_found, 1, 11, 0, 0) :: c_X_lay_21
def c_X_lay_15 : List eg_I := .inl (15, 3, .sipush (-1000000000000000001), 84, 0) :: c_X_lay_18
def c_X_lay_14 : List eg_I := .inl (14, 1, .aload 0, 0, 0) :: c_X_lay_15
def c_X_lay_11 : List eg_I := .inl (11, 3, .ifCond .ne (11), 22, 0) :: c_X_lay_14
def c_X_lay_8 : List eg_I := .inr (8, 0, 160, n_X_isSheet, 1, 11, 0, 0) :: c_X_lay_11
def c_X_lay_7 : List eg_I := .inl (7, 1, .iload 2, 0, 0) :: c_X_lay_8
def c_X_lay_4 : List eg_I := .inl (4, 3, .ifCond .eq (10), 14, 0) :: c_X_lay_7
def c_X_lay_1 : List eg_I := .inr (1, 0, 72, n_X_isPart, 1, 11, 0, 0) :: c_X_lay_4
def c_X_lay_0 : List eg_I := .inl (0, 1, .iload 1, 0, 0) :: c_X_lay_1
section
variable {rm : Room} {K : Nat → Nat → Nat → eg_Lo → List Value → List eg_E → Prop} {Q : Option Value → List eg_E → Prop} {kc ks : Nat} {loc : eg_Lo} {st : List Value} {h : List eg_E}
theorem s_X_lay_0 {x : Int32} {l0 : Option Value} {l : eg_Lo} : wps rm K Q c_X_lay_0 kc ks (l0 :: some (.int x) :: l) (st) h = wps rm K Q c_X_lay_1 kc ks (l0 :: some (.int x) :: l) (.int x :: st) h := rfl
theorem s_X_lay_1  {a1 : Value} : wps rm K Q c_X_lay_1 kc ks loc (a1 :: st) h = (st.length ≤ 4 ∧ eg_Cs n_X_isPart [a1] h (fun v h9 => wps rm K Q c_X_lay_4 kc ks loc (v.toList ++ st) h9)) := eg_c0_1
theorem s_X_lay_4 {x : Int32} : wps rm K Q c_X_lay_4 kc ks loc (.int x :: st) h = ((x = 0 → K 14 kc ks loc st h) ∧ (¬ x = 0 → wps rm K Q c_X_lay_7 kc ks loc (st) h)) := rfl
theorem s_X_lay_7 {x : Int32} {l0 l1 : Option Value} {l : eg_Lo} : wps rm K Q c_X_lay_7 kc ks (l0 :: l1 :: some (.int x) :: l) (st) h = wps rm K Q c_X_lay_8 kc ks (l0 :: l1 :: some (.int x) :: l) (.int x :: st) h := rfl
theorem s_X_lay_8  {a1 : Value} : wps rm K Q c_X_lay_8 kc ks loc (a1 :: st) h = (st.length ≤ 4 ∧ eg_Cs n_X_isSheet [a1] h (fun v h9 => wps rm K Q c_X_lay_11 kc ks loc (v.toList ++ st) h9)) := eg_c0_1
theorem s_X_lay_11 {x : Int32} : wps rm K Q c_X_lay_11 kc ks loc (.int x :: st) h = ((¬ x = 0 → K 22 kc ks loc st h) ∧ (x = 0 → wps rm K Q c_X_lay_14 kc ks loc (st) h)) := rfl
theorem s_X_lay_14 {x : Nat} {l : eg_Lo} : wps rm K Q c_X_lay_14 kc ks (some (.ref x) :: l) (st) h = wps rm K Q c_X_lay_15 kc ks (some (.ref x) :: l) (.ref x :: st) h := rfl
theorem s_X_lay_15  : wps rm K Q c_X_lay_15 kc ks loc (st) h = wps rm K Q c_X_lay_18 kc ks loc (.long (-1000000000000000001) :: st) h := rfl
theorem s_X_lay_18  {a1 : Value} {x : Nat} : wps rm K Q c_X_lay_18 kc ks loc (a1 :: .ref (x + 1) :: st) h = (eg_cls h x 11 ∧ st.length ≤ 4 ∧ eg_Cs n_X_found (.ref (x + 1) :: [a1]) h (fun v h9 => wps rm K Q c_X_lay_21 kc ks loc (v.toList ++ st) h9)) := eg_c1_1
theorem s_X_lay_21 {x : Int64} : wps rm K Q c_X_lay_21 kc ks loc ([.long x]) h = (kc = rm.cells ∧ Q (some (.long x)) h) := rfl
theorem s_X_lay_22 {x : Nat} {l : eg_Lo} : wps rm K Q c_X_lay_22 kc ks (some (.ref x) :: l) (st) h = wps rm K Q c_X_lay_23 kc ks (some (.ref x) :: l) (.ref x :: st) h := rfl
theorem s_X_lay_23 {x : Nat} : wps rm K Q c_X_lay_23 kc ks loc (.ref (x + 1) :: st) h = eg_gf h x 11 1 (fun v => wps rm K Q c_X_lay_26 kc ks loc (v :: st) h) := rfl
theorem s_X_lay_26 {x : Int32} {l0 l1 : Option Value} {l : eg_Lo} : wps rm K Q c_X_lay_26 kc ks (l0 :: l1 :: some (.int x) :: l) (st) h = wps rm K Q c_X_lay_27 kc ks (l0 :: l1 :: some (.int x) :: l) (.int x :: st) h := rfl
theorem s_X_lay_27 {x : Nat} {i : Int32} : wps rm K Q c_X_lay_27 kc ks loc (.int i :: .ref (x + 1) :: st) h = eg_aa h x i (fun v => wps rm K Q c_X_lay_28 kc ks loc (v :: st) h) := rfl
theorem s_X_lay_28  {x : Nat} : wps rm K Q c_X_lay_28 kc ks loc (.ref (x + 1) :: st) h = (eg_cls h x 9 ∧ st.length ≤ 4 ∧ eg_Cs n_Sheet_isMissing (.ref (x + 1) :: []) h (fun v h9 => wps rm K Q c_X_lay_31 kc ks loc (v.toList ++ st) h9)) := eg_c1_0
theorem s_X_lay_31 {x : Int32} : wps rm K Q c_X_lay_31 kc ks loc (.int x :: st) h = ((x = 0 → K 42 kc ks loc st h) ∧ (¬ x = 0 → wps rm K Q c_X_lay_34 kc ks loc (st) h)) := rfl
theorem s_X_lay_34 {x : Nat} {l : eg_Lo} : wps rm K Q c_X_lay_34 kc ks (some (.ref x) :: l) (st) h = wps rm K Q c_X_lay_35 kc ks (some (.ref x) :: l) (.ref x :: st) h := rfl
theorem s_X_lay_35  : wps rm K Q c_X_lay_35 kc ks loc (st) h = wps rm K Q c_X_lay_38 kc ks loc (.long (-1000000000000000002) :: st) h := rfl
theorem s_X_lay_38  {a1 : Value} {x : Nat} : wps rm K Q c_X_lay_38 kc ks loc (a1 :: .ref (x + 1) :: st) h = (eg_cls h x 11 ∧ st.length ≤ 4 ∧ eg_Cs n_X_found (.ref (x + 1) :: [a1]) h (fun v h9 => wps rm K Q c_X_lay_41 kc ks loc (v.toList ++ st) h9)) := eg_c1_1
theorem s_X_lay_41 {x : Int64} : wps rm K Q c_X_lay_41 kc ks loc ([.long x]) h = (kc = rm.cells ∧ Q (some (.long x)) h) := rfl
theorem s_X_lay_42 {x : Nat} {l : eg_Lo} : wps rm K Q c_X_lay_42 kc ks (some (.ref x) :: l) (st) h = wps rm K Q c_X_lay_43 kc ks (some (.ref x) :: l) (.ref x :: st) h := rfl
theorem s_X_lay_43 {x : Nat} : wps rm K Q c_X_lay_43 kc ks loc (.ref (x + 1) :: st) h = eg_gf h x 11 1 (fun v => wps rm K Q c_X_lay_46 kc ks loc (v :: st) h) := rfl
theorem s_X_lay_46 {x : Int32} {l0 l1 : Option Value} {l : eg_Lo} : wps rm K Q c_X_lay_46 kc ks (l0 :: l1 :: some (.int x) :: l) (st) h = wps rm K Q c_X_lay_47 kc ks (l0 :: l1 :: some (.int x) :: l) (.int x :: st) h := rfl
theorem s_X_lay_47 {x : Nat} {i : Int32} : wps rm K Q c_X_lay_47 kc ks loc (.int i :: .ref (x + 1) :: st) h = eg_aa h x i (fun v => wps rm K Q c_X_lay_48 kc ks loc (v :: st) h) := rfl
theorem s_X_lay_48 {x : Nat} : wps rm K Q c_X_lay_48 kc ks loc (.ref (x + 1) :: st) h = eg_gf h x 9 2 (fun v => wps rm K Q c_X_lay_51 kc ks loc (v :: st) h) := rfl
theorem s_X_lay_51  : wps rm K Q c_X_lay_51 kc ks loc (st) h = wps rm K Q c_X_lay_52 kc ks loc (.int (3) :: st) h := rfl
theorem s_X_lay_52 {x y : Int32} : wps rm K Q c_X_lay_52 kc ks loc (.int y :: .int x :: st) h = (¬ y = 0 ∧ wps rm K Q c_X_lay_53 kc ks loc (.int (x / y) :: st) h) := rfl
theorem s_X_lay_53 {x : Nat} {l : eg_Lo} : wps rm K Q c_X_lay_53 kc ks (some (.ref x) :: l) (st) h = wps rm K Q c_X_lay_54 kc ks (some (.ref x) :: l) (.ref x :: st) h := rfl
theorem s_X_lay_54 {x : Nat} : wps rm K Q c_X_lay_54 kc ks loc (.ref (x + 1) :: st) h = eg_gf h x 11 0 (fun v => wps rm K Q c_X_lay_57 kc ks loc (v :: st) h) := rfl
theorem s_X_lay_57 {x : Int32} {l0 : Option Value} {l : eg_Lo} : wps rm K Q c_X_lay_57 kc ks (l0 :: some (.int x) :: l) (st) h = wps rm K Q c_X_lay_58 kc ks (l0 :: some (.int x) :: l) (.int x :: st) h := rfl
theorem s_X_lay_58 {x : Nat} {i : Int32} : wps rm K Q c_X_lay_58 kc ks loc (.int i :: .ref (x + 1) :: st) h = eg_aa h x i (fun v => wps rm K Q c_X_lay_59 kc ks loc (v :: st) h) := rfl
theorem s_X_lay_59  {x : Nat} : wps rm K Q c_X_lay_59 kc ks loc (.ref (x + 1) :: st) h = (eg_cls h x 8 ∧ st.length ≤ 4 ∧ eg_Cs n_Part_room (.ref (x + 1) :: []) h (fun v h9 => wps rm K Q c_X_lay_62 kc ks loc (v.toList ++ st) h9)) := eg_c1_0
theorem s_X_lay_62 {x y : Int32} : wps rm K Q c_X_lay_62 kc ks loc (.int y :: .int x :: st) h = ((x ≤ y → K 73 kc ks loc st h) ∧ (¬ x ≤ y → wps rm K Q c_X_lay_65 kc ks loc (st) h)) := rfl
theorem s_X_lay_65 {x : Nat} {l : eg_Lo} : wps rm K Q c_X_lay_65 kc ks (some (.ref x) :: l) (st) h = wps rm K Q c_X_lay_66 kc ks (some (.ref x) :: l) (.ref x :: st) h := rfl
theorem s_X_lay_66  : wps rm K Q c_X_lay_66 kc ks loc (st) h = wps rm K Q c_X_lay_69 kc ks loc (.long (-1000000000000000005) :: st) h := rfl
theorem s_X_lay_69  {a1 : Value} {x : Nat} : wps rm K Q c_X_lay_69 kc ks loc (a1 :: .ref (x + 1) :: st) h = (eg_cls h x 11 ∧ st.length ≤ 4 ∧ eg_Cs n_X_found (.ref (x + 1) :: [a1]) h (fun v h9 => wps rm K Q c_X_lay_72 kc ks loc (v.toList ++ st) h9)) := eg_c1_1
theorem s_X_lay_72 {x : Int64} : wps rm K Q c_X_lay_72 kc ks loc ([.long x]) h = (kc = rm.cells ∧ Q (some (.long x)) h) := rfl
theorem s_X_lay_73 {x : Nat} {l : eg_Lo} : wps rm K Q c_X_lay_73 kc ks (some (.ref x) :: l) (st) h = wps rm K Q c_X_lay_74 kc ks (some (.ref x) :: l) (.ref x :: st) h := rfl
theorem s_X_lay_74 {x : Nat} : wps rm K Q c_X_lay_74 kc ks loc (.ref (x + 1) :: st) h = eg_gf h x 11 0 (fun v => wps rm K Q c_X_lay_77 kc ks loc (v :: st) h) := rfl
theorem s_X_lay_77 {x : Int32} {l0 : Option Value} {l : eg_Lo} : wps rm K Q c_X_lay_77 kc ks (l0 :: some (.int x) :: l) (st) h = wps rm K Q c_X_lay_78 kc ks (l0 :: some (.int x) :: l) (.int x :: st) h := rfl
theorem s_X_lay_78 {x : Nat} {i : Int32} : wps rm K Q c_X_lay_78 kc ks loc (.int i :: .ref (x + 1) :: st) h = eg_aa h x i (fun v => wps rm K Q c_X_lay_79 kc ks loc (v :: st) h) := rfl
theorem s_X_lay_79 {x : Nat} {l : eg_Lo} : wps rm K Q c_X_lay_79 kc ks (some (.ref x) :: l) (st) h = wps rm K Q c_X_lay_80 kc ks (some (.ref x) :: l) (.ref x :: st) h := rfl
theorem s_X_lay_80 {x : Nat} : wps rm K Q c_X_lay_80 kc ks loc (.ref (x + 1) :: st) h = eg_gf h x 11 1 (fun v => wps rm K Q c_X_lay_83 kc ks loc (v :: st) h) := rfl
theorem s_X_lay_83 {x : Int32} {l0 l1 : Option Value} {l : eg_Lo} : wps rm K Q c_X_lay_83 kc ks (l0 :: l1 :: some (.int x) :: l) (st) h = wps rm K Q c_X_lay_84 kc ks (l0 :: l1 :: some (.int x) :: l) (.int x :: st) h := rfl
theorem s_X_lay_84 {x : Nat} {i : Int32} : wps rm K Q c_X_lay_84 kc ks loc (.int i :: .ref (x + 1) :: st) h = eg_aa h x i (fun v => wps rm K Q c_X_lay_85 kc ks loc (v :: st) h) := rfl
theorem s_X_lay_85  {a1 : Value} {a2 : Value} : wps rm K Q c_X_lay_85 kc ks loc (a2 :: a1 :: st) h = (st.length ≤ 4 ∧ eg_Cs n_X_layPoints [a1, a2] h (fun v h9 => wps rm K Q c_X_lay_88 kc ks loc (v.toList ++ st) h9)) := eg_c0_2
theorem s_X_lay_88 {x : Int32} : wps rm K Q c_X_lay_88 kc ks loc (.int x :: st) h = wps rm K Q c_X_lay_89 kc ks loc (.long (x.toInt64) :: st) h := rfl
theorem s_X_lay_89 {x : Int64} : wps rm K Q c_X_lay_89 kc ks loc ([.long x]) h = (kc = rm.cells ∧ Q (some (.long x)) h) := rfl
def T_X_lay : List (Nat × List eg_I) := [(14, c_X_lay_14), (22, c_X_lay_22), (42, c_X_lay_42), (73, c_X_lay_73)]
theorem j_X_lay_14 {R : Nat → Nat → Nat → eg_Lo → List Value → List eg_E → Prop} {f pc0 : Nat} : eg_run rm R Q T_X_lay (f + 1) 14 kc ks loc st h = wps rm (eg_run rm R Q T_X_lay f) Q c_X_lay_14 kc ks loc st h := rfl
theorem j_X_lay_22 {R : Nat → Nat → Nat → eg_Lo → List Value → List eg_E → Prop} {f pc0 : Nat} : eg_run rm R Q T_X_lay (f + 1) 22 kc ks loc st h = wps rm (eg_run rm R Q T_X_lay f) Q c_X_lay_22 kc ks loc st h := rfl
theorem j_X_lay_42 {R : Nat → Nat → Nat → eg_Lo → List Value → List eg_E → Prop} {f pc0 : Nat} : eg_run rm R Q T_X_lay (f + 1) 42 kc ks loc st h = wps rm (eg_run rm R Q T_X_lay f) Q c_X_lay_42 kc ks loc st h := rfl
theorem j_X_lay_73 {R : Nat → Nat → Nat → eg_Lo → List Value → List eg_E → Prop} {f pc0 : Nat} : eg_run rm R Q T_X_lay (f + 1) 73 kc ks loc st h = wps rm (eg_run rm R Q T_X_lay f) Q c_X_lay_73 kc ks loc st h := rfl
end
theorem q_X_lay : (T_X_lay.all fun q => eg_seq m_X_lay q.1 q.2) = true := by decide +kernel
theorem b_X_lay {as : List Value} {h : List eg_E} {Q : Option Value → List eg_E → Prop} (hf : (eg_fl as).length ≤ 3) (hw : wps (eg_rm m_X_lay) (eg_run (eg_rm m_X_lay) (eg_R m_X_lay Q (h.length + 0)) Q T_X_lay 6) Q c_X_lay_0 0 0 (eg_entry 3 as) [] h) : eg_Runs n_X_lay as h Q := eg_begin (d := m_X_lay) rfl (by decide) (by decide +kernel) q_X_lay hf hw
/-! ===== X_fit ===== -/
def c_X_fit_135 : List eg_I := .inl (135, 1, .lreturn, 0, 0) :: []
def c_X_fit_134 : List eg_I := .inl (134, 1, .i2l, 0, 0) :: c_X_fit_135
def c_X_fit_131 : List eg_I := .inl (131, 3, .getfield 215, 2, 6) :: c_X_fit_134
def c_X_fit_130 : List eg_I := .inl (130, 1, .aaload, 0, 0) :: c_X_fit_131
def c_X_fit_129 : List eg_I := .inl (129, 1, .iload 1, 0, 0) :: c_X_fit_130
def c_X_fit_126 : List eg_I := .inl (126, 3, .getfield 23, 11, 2) :: c_X_fit_129
def c_X_fit_125 : List eg_I := .inl (125, 1, .aload 0, 0, 0) :: c_X_fit_126
def c_X_fit_124 : List eg_I := .inl (124, 1, .lreturn, 0, 0) :: []
def c_X_fit_121 : List eg_I := .inr (121, 1, 86, n_X_found, 1, 11, 0, 0) :: c_X_fit_124
def c_X_fit_118 : List eg_I := .inl (118, 3, .sipush (-1000000000000000006), 158, 0) :: c_X_fit_121
def c_X_fit_117 : List eg_I := .inl (117, 1, .aload 0, 0, 0) :: c_X_fit_118
def c_X_fit_114 : List eg_I := .inl (114, 3, .ifCond .ne (11), 125, 0) :: c_X_fit_117
def c_X_fit_112 : List eg_I := .inl (112, 2, .iload 4, 0, 0) :: c_X_fit_114
def c_X_fit_110 : List eg_I := .inl (110, 2, .istore 4, 0, 0) :: c_X_fit_112
def c_X_fit_107 : List eg_I := .inr (107, 1, 212, n_Circ_fitCircle, 2, 1, 0, 0) :: c_X_fit_110
def c_X_fit_106 : List eg_I := .inl (106, 1, .aaload, 0, 0) :: c_X_fit_107
def c_X_fit_105 : List eg_I := .inl (105, 1, .iload 1, 0, 0) :: c_X_fit_106
def c_X_fit_102 : List eg_I := .inl (102, 3, .getfield 23, 11, 2) :: c_X_fit_105
def c_X_fit_101 : List eg_I := .inl (101, 1, .aload 0, 0, 0) :: c_X_fit_102
def c_X_fit_100 : List eg_I := .inl (100, 1, .aaload, 0, 0) :: c_X_fit_101
def c_X_fit_99 : List eg_I := .inl (99, 1, .iload 3, 0, 0) :: c_X_fit_100
def c_X_fit_96 : List eg_I := .inl (96, 3, .getfield 11, 11, 0) :: c_X_fit_99
def c_X_fit_95 : List eg_I := .inl (95, 1, .aload 0, 0, 0) :: c_X_fit_96
def c_X_fit_92 : List eg_I := .inl (92, 3, .getfield 44, 11, 5) :: c_X_fit_95
def c_X_fit_91 : List eg_I := .inl (91, 1, .aload 0, 0, 0) :: c_X_fit_92
def c_X_fit_88 : List eg_I := .inl (88, 3, .goto (22), 110, 0) :: []
def c_X_fit_85 : List eg_I := .inr (85, 1, 209, n_Flat_fitPlane, 2, 3, 0, 0) :: c_X_fit_88
def c_X_fit_84 : List eg_I := .inl (84, 1, .aaload, 0, 0) :: c_X_fit_85
def c_X_fit_83 : List eg_I := .inl (83, 1, .iload 1, 0, 0) :: c_X_fit_84
def c_X_fit_80 : List eg_I := .inl (80, 3, .getfield 23, 11, 2) :: c_X_fit_83
def c_X_fit_79 : List eg_I := .inl (79, 1, .aload 0, 0, 0) :: c_X_fit_80
def c_X_fit_78 : List eg_I := .inl (78, 1, .aaload, 0, 0) :: c_X_fit_79
def c_X_fit_77 : List eg_I := .inl (77, 1, .iload 3, 0, 0) :: c_X_fit_78
def c_X_fit_74 : List eg_I := .inl (74, 3, .getfield 11, 11, 0) :: c_X_fit_77
def c_X_fit_73 : List eg_I := .inl (73, 1, .aload 0, 0, 0) :: c_X_fit_74
def c_X_fit_70 : List eg_I := .inl (70, 3, .getfield 37, 11, 4) :: c_X_fit_73
def c_X_fit_69 : List eg_I := .inl (69, 1, .aload 0, 0, 0) :: c_X_fit_70
def c_X_fit_66 : List eg_I := .inl (66, 3, .if_icmp .ne (25), 91, 0) :: c_X_fit_69
def c_X_fit_65 : List eg_I := .inl (65, 1, .iconst (3), 0, 0) :: c_X_fit_66
def c_X_fit_64 : List eg_I := .inl (64, 1, .iload 2, 0, 0) :: c_X_fit_65
def c_X_fit_61 : List eg_I := .inl (61, 3, .goto (49), 110, 0) :: []
def c_X_fit_58 : List eg_I := .inr (58, 1, 205, n_Flat_fitLine, 2, 3, 0, 0) :: c_X_fit_61
def c_X_fit_57 : List eg_I := .inl (57, 1, .aaload, 0, 0) :: c_X_fit_58
def c_X_fit_56 : List eg_I := .inl (56, 1, .iload 1, 0, 0) :: c_X_fit_57
def c_X_fit_53 : List eg_I := .inl (53, 3, .getfield 23, 11, 2) :: c_X_fit_56
def c_X_fit_52 : List eg_I := .inl (52, 1, .aload 0, 0, 0) :: c_X_fit_53
def c_X_fit_51 : List eg_I := .inl (51, 1, .aaload, 0, 0) :: c_X_fit_52
def c_X_fit_50 : List eg_I := .inl (50, 1, .iload 3, 0, 0) :: c_X_fit_51
def c_X_fit_47 : List eg_I := .inl (47, 3, .getfield 11, 11, 0) :: c_X_fit_50
def c_X_fit_46 : List eg_I := .inl (46, 1, .aload 0, 0, 0) :: c_X_fit_47
def c_X_fit_43 : List eg_I := .inl (43, 3, .getfield 37, 11, 4) :: c_X_fit_46
def c_X_fit_42 : List eg_I := .inl (42, 1, .aload 0, 0, 0) :: c_X_fit_43
def c_X_fit_39 : List eg_I := .inl (39, 3, .if_icmp .ne (25), 64, 0) :: c_X_fit_42
def c_X_fit_38 : List eg_I := .inl (38, 1, .iconst (2), 0, 0) :: c_X_fit_39
def c_X_fit_37 : List eg_I := .inl (37, 1, .iload 2, 0, 0) :: c_X_fit_38
def c_X_fit_36 : List eg_I := .inl (36, 1, .lreturn, 0, 0) :: []
def c_X_fit_33 : List eg_I := .inr (33, 1, 86, n_X_found, 1, 11, 0, 0) :: c_X_fit_36
def c_X_fit_30 : List eg_I := .inl (30, 3, .sipush (-1000000000000000001), 84, 0) :: c_X_fit_33
def c_X_fit_29 : List eg_I := .inl (29, 1, .aload 0, 0, 0) :: c_X_fit_30
def c_X_fit_26 : List eg_I := .inl (26, 3, .if_icmp .eq (11), 37, 0) :: c_X_fit_29
def c_X_fit_25 : List eg_I := .inl (25, 1, .iconst (5), 0, 0) :: c_X_fit_26
def c_X_fit_24 : List eg_I := .inl (24, 1, .iload 2, 0, 0) :: c_X_fit_25
def c_X_fit_21 : List eg_I := .inl (21, 3, .if_icmp .eq (16), 37, 0) :: c_X_fit_24
def c_X_fit_20 : List eg_I := .inl (20, 1, .iconst (3), 0, 0) :: c_X_fit_21
def c_X_fit_19 : List eg_I := .inl (19, 1, .iload 2, 0, 0) :: c_X_fit_20
def c_X_fit_16 : List eg_I := .inl (16, 3, .if_icmp .eq (21), 37, 0) :: c_X_fit_19
def c_X_fit_15 : List eg_I := .inl (15, 1, .iconst (2), 0, 0) :: c_X_fit_16
def c_X_fit_14 : List eg_I := .inl (14, 1, .iload 2, 0, 0) :: c_X_fit_15
def c_X_fit_11 : List eg_I := .inl (11, 3, .ifCond .eq (18), 29, 0) :: c_X_fit_14
def c_X_fit_8 : List eg_I := .inr (8, 0, 72, n_X_isPart, 1, 11, 0, 0) :: c_X_fit_11
def c_X_fit_7 : List eg_I := .inl (7, 1, .iload 3, 0, 0) :: c_X_fit_8
def c_X_fit_4 : List eg_I := .inl (4, 3, .ifCond .eq (25), 29, 0) :: c_X_fit_7
def c_X_fit_1 : List eg_I := .inr (1, 0, 202, n_X_isFigure, 1, 11, 0, 0) :: c_X_fit_4
def c_X_fit_0 : List eg_I := .inl (0, 1, .iload 1, 0, 0) :: c_X_fit_1
section
variable {rm : Room} {K : Nat → Nat → Nat → eg_Lo → List Value → List eg_E → Prop} {Q : Option Value → List eg_E → Prop} {kc ks : Nat} {loc : eg_Lo} {st : List Value} {h : List eg_E}
theorem s_X_fit_0 {x : Int32} {l0 : Option Value} {l : eg_Lo} : wps rm K Q c_X_fit_0 kc ks (l0 :: some (.int x) :: l) (st) h = wps rm K Q c_X_fit_1 kc ks (l0 :: some (.int x) :: l) (.int x :: st) h := rfl
theorem s_X_fit_1  {a1 : Value} : wps rm K Q c_X_fit_1 kc ks loc (a1 :: st) h = (st.length ≤ 4 ∧ eg_Cs n_X_isFigure [a1] h (fun v h9 => wps rm K Q c_X_fit_4 kc ks loc (v.toList ++ st) h9)) := eg_c0_1
theorem s_X_fit_4 {x : Int32} : wps rm K Q c_X_fit_4 kc ks loc (.int x :: st) h = ((x = 0 → K 29 kc ks loc st h) ∧ (¬ x = 0 → wps rm K Q c_X_fit_7 kc ks loc (st) h)) := rfl
theorem s_X_fit_7 {x : Int32} {l0 l1 l2 : Option Value} {l : eg_Lo} : wps rm K Q c_X_fit_7 kc ks (l0 :: l1 :: l2 :: some (.int x) :: l) (st) h = wps rm K Q c_X_fit_8 kc ks (l0 :: l1 :: l2 :: some (.int x) :: l) (.int x :: st) h := rfl
theorem s_X_fit_8  {a1 : Value} : wps rm K Q c_X_fit_8 kc ks loc (a1 :: st) h = (st.length ≤ 4 ∧ eg_Cs n_X_isPart [a1] h (fun v h9 => wps rm K Q c_X_fit_11 kc ks loc (v.toList ++ st) h9)) := eg_c0_1
theorem s_X_fit_11 {x : Int32} : wps rm K Q c_X_fit_11 kc ks loc (.int x :: st) h = ((x = 0 → K 29 kc ks loc st h) ∧ (¬ x = 0 → wps rm K Q c_X_fit_14 kc ks loc (st) h)) := rfl
theorem s_X_fit_14 {x : Int32} {l0 l1 : Option Value} {l : eg_Lo} : wps rm K Q c_X_fit_14 kc ks (l0 :: l1 :: some (.int x) :: l) (st) h = wps rm K Q c_X_fit_15 kc ks (l0 :: l1 :: some (.int x) :: l) (.int x :: st) h := rfl
theorem s_X_fit_15  : wps rm K Q c_X_fit_15 kc ks loc (st) h = wps rm K Q c_X_fit_16 kc ks loc (.int (2) :: st) h := rfl
theorem s_X_fit_16 {x y : Int32} : wps rm K Q c_X_fit_16 kc ks loc (.int y :: .int x :: st) h = ((x = y → K 37 kc ks loc st h) ∧ (¬ x = y → wps rm K Q c_X_fit_19 kc ks loc (st) h)) := rfl
theorem s_X_fit_19 {x : Int32} {l0 l1 : Option Value} {l : eg_Lo} : wps rm K Q c_X_fit_19 kc ks (l0 :: l1 :: some (.int x) :: l) (st) h = wps rm K Q c_X_fit_20 kc ks (l0 :: l1 :: some (.int x) :: l) (.int x :: st) h := rfl
theorem s_X_fit_20  : wps rm K Q c_X_fit_20 kc ks loc (st) h = wps rm K Q c_X_fit_21 kc ks loc (.int (3) :: st) h := rfl
theorem s_X_fit_21 {x y : Int32} : wps rm K Q c_X_fit_21 kc ks loc (.int y :: .int x :: st) h = ((x = y → K 37 kc ks loc st h) ∧ (¬ x = y → wps rm K Q c_X_fit_24 kc ks loc (st) h)) := rfl
theorem s_X_fit_24 {x : Int32} {l0 l1 : Option Value} {l : eg_Lo} : wps rm K Q c_X_fit_24 kc ks (l0 :: l1 :: some (.int x) :: l) (st) h = wps rm K Q c_X_fit_25 kc ks (l0 :: l1 :: some (.int x) :: l) (.int x :: st) h := rfl
theorem s_X_fit_25  : wps rm K Q c_X_fit_25 kc ks loc (st) h = wps rm K Q c_X_fit_26 kc ks loc (.int (5) :: st) h := rfl
theorem s_X_fit_26 {x y : Int32} : wps rm K Q c_X_fit_26 kc ks loc (.int y :: .int x :: st) h = ((x = y → K 37 kc ks loc st h) ∧ (¬ x = y → wps rm K Q c_X_fit_29 kc ks loc (st) h)) := rfl
theorem s_X_fit_29 {x : Nat} {l : eg_Lo} : wps rm K Q c_X_fit_29 kc ks (some (.ref x) :: l) (st) h = wps rm K Q c_X_fit_30 kc ks (some (.ref x) :: l) (.ref x :: st) h := rfl
theorem s_X_fit_30  : wps rm K Q c_X_fit_30 kc ks loc (st) h = wps rm K Q c_X_fit_33 kc ks loc (.long (-1000000000000000001) :: st) h := rfl
theorem s_X_fit_33  {a1 : Value} {x : Nat} : wps rm K Q c_X_fit_33 kc ks loc (a1 :: .ref (x + 1) :: st) h = (eg_cls h x 11 ∧ st.length ≤ 4 ∧ eg_Cs n_X_found (.ref (x + 1) :: [a1]) h (fun v h9 => wps rm K Q c_X_fit_36 kc ks loc (v.toList ++ st) h9)) := eg_c1_1
theorem s_X_fit_36 {x : Int64} : wps rm K Q c_X_fit_36 kc ks loc ([.long x]) h = (kc = rm.cells ∧ Q (some (.long x)) h) := rfl
theorem s_X_fit_37 {x : Int32} {l0 l1 : Option Value} {l : eg_Lo} : wps rm K Q c_X_fit_37 kc ks (l0 :: l1 :: some (.int x) :: l) (st) h = wps rm K Q c_X_fit_38 kc ks (l0 :: l1 :: some (.int x) :: l) (.int x :: st) h := rfl
theorem s_X_fit_38  : wps rm K Q c_X_fit_38 kc ks loc (st) h = wps rm K Q c_X_fit_39 kc ks loc (.int (2) :: st) h := rfl
theorem s_X_fit_39 {x y : Int32} : wps rm K Q c_X_fit_39 kc ks loc (.int y :: .int x :: st) h = ((¬ x = y → K 64 kc ks loc st h) ∧ (x = y → wps rm K Q c_X_fit_42 kc ks loc (st) h)) := rfl
theorem s_X_fit_42 {x : Nat} {l : eg_Lo} : wps rm K Q c_X_fit_42 kc ks (some (.ref x) :: l) (st) h = wps rm K Q c_X_fit_43 kc ks (some (.ref x) :: l) (.ref x :: st) h := rfl
theorem s_X_fit_43 {x : Nat} : wps rm K Q c_X_fit_43 kc ks loc (.ref (x + 1) :: st) h = eg_gf h x 11 4 (fun v => wps rm K Q c_X_fit_46 kc ks loc (v :: st) h) := rfl
theorem s_X_fit_46 {x : Nat} {l : eg_Lo} : wps rm K Q c_X_fit_46 kc ks (some (.ref x) :: l) (st) h = wps rm K Q c_X_fit_47 kc ks (some (.ref x) :: l) (.ref x :: st) h := rfl
theorem s_X_fit_47 {x : Nat} : wps rm K Q c_X_fit_47 kc ks loc (.ref (x + 1) :: st) h = eg_gf h x 11 0 (fun v => wps rm K Q c_X_fit_50 kc ks loc (v :: st) h) := rfl
theorem s_X_fit_50 {x : Int32} {l0 l1 l2 : Option Value} {l : eg_Lo} : wps rm K Q c_X_fit_50 kc ks (l0 :: l1 :: l2 :: some (.int x) :: l) (st) h = wps rm K Q c_X_fit_51 kc ks (l0 :: l1 :: l2 :: some (.int x) :: l) (.int x :: st) h := rfl
theorem s_X_fit_51 {x : Nat} {i : Int32} : wps rm K Q c_X_fit_51 kc ks loc (.int i :: .ref (x + 1) :: st) h = eg_aa h x i (fun v => wps rm K Q c_X_fit_52 kc ks loc (v :: st) h) := rfl
theorem s_X_fit_52 {x : Nat} {l : eg_Lo} : wps rm K Q c_X_fit_52 kc ks (some (.ref x) :: l) (st) h = wps rm K Q c_X_fit_53 kc ks (some (.ref x) :: l) (.ref x :: st) h := rfl
theorem s_X_fit_53 {x : Nat} : wps rm K Q c_X_fit_53 kc ks loc (.ref (x + 1) :: st) h = eg_gf h x 11 2 (fun v => wps rm K Q c_X_fit_56 kc ks loc (v :: st) h) := rfl
theorem s_X_fit_56 {x : Int32} {l0 : Option Value} {l : eg_Lo} : wps rm K Q c_X_fit_56 kc ks (l0 :: some (.int x) :: l) (st) h = wps rm K Q c_X_fit_57 kc ks (l0 :: some (.int x) :: l) (.int x :: st) h := rfl
theorem s_X_fit_57 {x : Nat} {i : Int32} : wps rm K Q c_X_fit_57 kc ks loc (.int i :: .ref (x + 1) :: st) h = eg_aa h x i (fun v => wps rm K Q c_X_fit_58 kc ks loc (v :: st) h) := rfl
theorem s_X_fit_58  {a1 : Value} {a2 : Value} {x : Nat} : wps rm K Q c_X_fit_58 kc ks loc (a2 :: a1 :: .ref (x + 1) :: st) h = (eg_cls h x 3 ∧ st.length ≤ 4 ∧ eg_Cs n_Flat_fitLine (.ref (x + 1) :: [a1, a2]) h (fun v h9 => wps rm K Q c_X_fit_61 kc ks loc (v.toList ++ st) h9)) := eg_c1_2
theorem s_X_fit_61  : wps rm K Q c_X_fit_61 kc ks loc (st) h = K 110 kc ks loc st h := rfl
theorem s_X_fit_64 {x : Int32} {l0 l1 : Option Value} {l : eg_Lo} : wps rm K Q c_X_fit_64 kc ks (l0 :: l1 :: some (.int x) :: l) (st) h = wps rm K Q c_X_fit_65 kc ks (l0 :: l1 :: some (.int x) :: l) (.int x :: st) h := rfl
theorem s_X_fit_65  : wps rm K Q c_X_fit_65 kc ks loc (st) h = wps rm K Q c_X_fit_66 kc ks loc (.int (3) :: st) h := rfl
theorem s_X_fit_66 {x y : Int32} : wps rm K Q c_X_fit_66 kc ks loc (.int y :: .int x :: st) h = ((¬ x = y → K 91 kc ks loc st h) ∧ (x = y → wps rm K Q c_X_fit_69 kc ks loc (st) h)) := rfl
theorem s_X_fit_69 {x : Nat} {l : eg_Lo} : wps rm K Q c_X_fit_69 kc ks (some (.ref x) :: l) (st) h = wps rm K Q c_X_fit_70 kc ks (some (.ref x) :: l) (.ref x :: st) h := rfl
theorem s_X_fit_70 {x : Nat} : wps rm K Q c_X_fit_70 kc ks loc (.ref (x + 1) :: st) h = eg_gf h x 11 4 (fun v => wps rm K Q c_X_fit_73 kc ks loc (v :: st) h) := rfl
theorem s_X_fit_73 {x : Nat} {l : eg_Lo} : wps rm K Q c_X_fit_73 kc ks (some (.ref x) :: l) (st) h = wps rm K Q c_X_fit_74 kc ks (some (.ref x) :: l) (.ref x :: st) h := rfl
theorem s_X_fit_74 {x : Nat} : wps rm K Q c_X_fit_74 kc ks loc (.ref (x + 1) :: st) h = eg_gf h x 11 0 (fun v => wps rm K Q c_X_fit_77 kc ks loc (v :: st) h) := rfl
theorem s_X_fit_77 {x : Int32} {l0 l1 l2 : Option Value} {l : eg_Lo} : wps rm K Q c_X_fit_77 kc ks (l0 :: l1 :: l2 :: some (.int x) :: l) (st) h = wps rm K Q c_X_fit_78 kc ks (l0 :: l1 :: l2 :: some (.int x) :: l) (.int x :: st) h := rfl
theorem s_X_fit_78 {x : Nat} {i : Int32} : wps rm K Q c_X_fit_78 kc ks loc (.int i :: .ref (x + 1) :: st) h = eg_aa h x i (fun v => wps rm K Q c_X_fit_79 kc ks loc (v :: st) h) := rfl
theorem s_X_fit_79 {x : Nat} {l : eg_Lo} : wps rm K Q c_X_fit_79 kc ks (some (.ref x) :: l) (st) h = wps rm K Q c_X_fit_80 kc ks (some (.ref x) :: l) (.ref x :: st) h := rfl
theorem s_X_fit_80 {x : Nat} : wps rm K Q c_X_fit_80 kc ks loc (.ref (x + 1) :: st) h = eg_gf h x 11 2 (fun v => wps rm K Q c_X_fit_83 kc ks loc (v :: st) h) := rfl
theorem s_X_fit_83 {x : Int32} {l0 : Option Value} {l : eg_Lo} : wps rm K Q c_X_fit_83 kc ks (l0 :: some (.int x) :: l) (st) h = wps rm K Q c_X_fit_84 kc ks (l0 :: some (.int x) :: l) (.int x :: st) h := rfl
theorem s_X_fit_84 {x : Nat} {i : Int32} : wps rm K Q c_X_fit_84 kc ks loc (.int i :: .ref (x + 1) :: st) h = eg_aa h x i (fun v => wps rm K Q c_X_fit_85 kc ks loc (v :: st) h) := rfl
theorem s_X_fit_85  {a1 : Value} {a2 : Value} {x : Nat} : wps rm K Q c_X_fit_85 kc ks loc (a2 :: a1 :: .ref (x + 1) :: st) h = (eg_cls h x 3 ∧ st.length ≤ 4 ∧ eg_Cs n_Flat_fitPlane (.ref (x + 1) :: [a1, a2]) h (fun v h9 => wps rm K Q c_X_fit_88 kc ks loc (v.toList ++ st) h9)) := eg_c1_2
theorem s_X_fit_88  : wps rm K Q c_X_fit_88 kc ks loc (st) h = K 110 kc ks loc st h := rfl
theorem s_X_fit_91 {x : Nat} {l : eg_Lo} : wps rm K Q c_X_fit_91 kc ks (some (.ref x) :: l) (st) h = wps rm K Q c_X_fit_92 kc ks (some (.ref x) :: l) (.ref x :: st) h := rfl
theorem s_X_fit_92 {x : Nat} : wps rm K Q c_X_fit_92 kc ks loc (.ref (x + 1) :: st) h = eg_gf h x 11 5 (fun v => wps rm K Q c_X_fit_95 kc ks loc (v :: st) h) := rfl
theorem s_X_fit_95 {x : Nat} {l : eg_Lo} : wps rm K Q c_X_fit_95 kc ks (some (.ref x) :: l) (st) h = wps rm K Q c_X_fit_96 kc ks (some (.ref x) :: l) (.ref x :: st) h := rfl
theorem s_X_fit_96 {x : Nat} : wps rm K Q c_X_fit_96 kc ks loc (.ref (x + 1) :: st) h = eg_gf h x 11 0 (fun v => wps rm K Q c_X_fit_99 kc ks loc (v :: st) h) := rfl
theorem s_X_fit_99 {x : Int32} {l0 l1 l2 : Option Value} {l : eg_Lo} : wps rm K Q c_X_fit_99 kc ks (l0 :: l1 :: l2 :: some (.int x) :: l) (st) h = wps rm K Q c_X_fit_100 kc ks (l0 :: l1 :: l2 :: some (.int x) :: l) (.int x :: st) h := rfl
theorem s_X_fit_100 {x : Nat} {i : Int32} : wps rm K Q c_X_fit_100 kc ks loc (.int i :: .ref (x + 1) :: st) h = eg_aa h x i (fun v => wps rm K Q c_X_fit_101 kc ks loc (v :: st) h) := rfl
theorem s_X_fit_101 {x : Nat} {l : eg_Lo} : wps rm K Q c_X_fit_101 kc ks (some (.ref x) :: l) (st) h = wps rm K Q c_X_fit_102 kc ks (some (.ref x) :: l) (.ref x :: st) h := rfl
theorem s_X_fit_102 {x : Nat} : wps rm K Q c_X_fit_102 kc ks loc (.ref (x + 1) :: st) h = eg_gf h x 11 2 (fun v => wps rm K Q c_X_fit_105 kc ks loc (v :: st) h) := rfl
theorem s_X_fit_105 {x : Int32} {l0 : Option Value} {l : eg_Lo} : wps rm K Q c_X_fit_105 kc ks (l0 :: some (.int x) :: l) (st) h = wps rm K Q c_X_fit_106 kc ks (l0 :: some (.int x) :: l) (.int x :: st) h := rfl
theorem s_X_fit_106 {x : Nat} {i : Int32} : wps rm K Q c_X_fit_106 kc ks loc (.int i :: .ref (x + 1) :: st) h = eg_aa h x i (fun v => wps rm K Q c_X_fit_107 kc ks loc (v :: st) h) := rfl
theorem s_X_fit_107  {a1 : Value} {a2 : Value} {x : Nat} : wps rm K Q c_X_fit_107 kc ks loc (a2 :: a1 :: .ref (x + 1) :: st) h = (eg_cls h x 1 ∧ st.length ≤ 4 ∧ eg_Cs n_Circ_fitCircle (.ref (x + 1) :: [a1, a2]) h (fun v h9 => wps rm K Q c_X_fit_110 kc ks loc (v.toList ++ st) h9)) := eg_c1_2
theorem s_X_fit_110 {x : Int32} : wps rm K Q c_X_fit_110 kc ks loc (.int x :: st) h = wps rm K Q c_X_fit_112 kc ks (eg_set1 loc 4 (.int x)) (st) h := rfl
theorem s_X_fit_112 {x : Int32} {l0 l1 l2 l3 : Option Value} {l : eg_Lo} : wps rm K Q c_X_fit_112 kc ks (l0 :: l1 :: l2 :: l3 :: some (.int x) :: l) (st) h = wps rm K Q c_X_fit_114 kc ks (l0 :: l1 :: l2 :: l3 :: some (.int x) :: l) (.int x :: st) h := rfl
theorem s_X_fit_114 {x : Int32} : wps rm K Q c_X_fit_114 kc ks loc (.int x :: st) h = ((¬ x = 0 → K 125 kc ks loc st h) ∧ (x = 0 → wps rm K Q c_X_fit_117 kc ks loc (st) h)) := rfl
theorem s_X_fit_117 {x : Nat} {l : eg_Lo} : wps rm K Q c_X_fit_117 kc ks (some (.ref x) :: l) (st) h = wps rm K Q c_X_fit_118 kc ks (some (.ref x) :: l) (.ref x :: st) h := rfl
theorem s_X_fit_118  : wps rm K Q c_X_fit_118 kc ks loc (st) h = wps rm K Q c_X_fit_121 kc ks loc (.long (-1000000000000000006) :: st) h := rfl
theorem s_X_fit_121  {a1 : Value} {x : Nat} : wps rm K Q c_X_fit_121 kc ks loc (a1 :: .ref (x + 1) :: st) h = (eg_cls h x 11 ∧ st.length ≤ 4 ∧ eg_Cs n_X_found (.ref (x + 1) :: [a1]) h (fun v h9 => wps rm K Q c_X_fit_124 kc ks loc (v.toList ++ st) h9)) := eg_c1_1
theorem s_X_fit_124 {x : Int64} : wps rm K Q c_X_fit_124 kc ks loc ([.long x]) h = (kc = rm.cells ∧ Q (some (.long x)) h) := rfl
theorem s_X_fit_125 {x : Nat} {l : eg_Lo} : wps rm K Q c_X_fit_125 kc ks (some (.ref x) :: l) (st) h = wps rm K Q c_X_fit_126 kc ks (some (.ref x) :: l) (.ref x :: st) h := rfl
theorem s_X_fit_126 {x : Nat} : wps rm K Q c_X_fit_126 kc ks loc (.ref (x + 1) :: st) h = eg_gf h x 11 2 (fun v => wps rm K Q c_X_fit_129 kc ks loc (v :: st) h) := rfl
theorem s_X_fit_129 {x : Int32} {l0 : Option Value} {l : eg_Lo} : wps rm K Q c_X_fit_129 kc ks (l0 :: some (.int x) :: l) (st) h = wps rm K Q c_X_fit_130 kc ks (l0 :: some (.int x) :: l) (.int x :: st) h := rfl
theorem s_X_fit_130 {x : Nat} {i : Int32} : wps rm K Q c_X_fit_130 kc ks loc (.int i :: .ref (x + 1) :: st) h = eg_aa h x i (fun v => wps rm K Q c_X_fit_131 kc ks loc (v :: st) h) := rfl
theorem s_X_fit_131 {x : Nat} : wps rm K Q c_X_fit_131 kc ks loc (.ref (x + 1) :: st) h = eg_gf h x 2 6 (fun v => wps rm K Q c_X_fit_134 kc ks loc (v :: st) h) := rfl
theorem s_X_fit_134 {x : Int32} : wps rm K Q c_X_fit_134 kc ks loc (.int x :: st) h = wps rm K Q c_X_fit_135 kc ks loc (.long (x.toInt64) :: st) h := rfl
theorem s_X_fit_135 {x : Int64} : wps rm K Q c_X_fit_135 kc ks loc ([.long x]) h = (kc = rm.cells ∧ Q (some (.long x)) h) := rfl
def T_X_fit : List (Nat × List eg_I) := [(29, c_X_fit_29), (37, c_X_fit_37), (64, c_X_fit_64), (91, c_X_fit_91), (110, c_X_fit_110), (125, c_X_fit_125)]
theorem j_X_fit_29 {R : Nat → Nat → Nat → eg_Lo → List Value → List eg_E → Prop} {f pc0 : Nat} : eg_run rm R Q T_X_fit (f + 1) 29 kc ks loc st h = wps rm (eg_run rm R Q T_X_fit f) Q c_X_fit_29 kc ks loc st h := rfl
theorem j_X_fit_37 {R : Nat → Nat → Nat → eg_Lo → List Value → List eg_E → Prop} {f pc0 : Nat} : eg_run rm R Q T_X_fit (f + 1) 37 kc ks loc st h = wps rm (eg_run rm R Q T_X_fit f) Q c_X_fit_37 kc ks loc st h := rfl
theorem j_X_fit_64 {R : Nat → Nat → Nat → eg_Lo → List Value → List eg_E → Prop} {f pc0 : Nat} : eg_run rm R Q T_X_fit (f + 1) 64 kc ks loc st h = wps rm (eg_run rm R Q T_X_fit f) Q c_X_fit_64 kc ks loc st h := rfl
theorem j_X_fit_91 {R : Nat → Nat → Nat → eg_Lo → List Value → List eg_E → Prop} {f pc0 : Nat} : eg_run rm R Q T_X_fit (f + 1) 91 kc ks loc st h = wps rm (eg_run rm R Q T_X_fit f) Q c_X_fit_91 kc ks loc st h := rfl
theorem j_X_fit_110 {R : Nat → Nat → Nat → eg_Lo → List Value → List eg_E → Prop} {f pc0 : Nat} : eg_run rm R Q T_X_fit (f + 1) 110 kc ks loc st h = wps rm (eg_run rm R Q T_X_fit f) Q c_X_fit_110 kc ks loc st h := rfl
theorem j_X_fit_125 {R : Nat → Nat → Nat → eg_Lo → List Value → List eg_E → Prop} {f pc0 : Nat} : eg_run rm R Q T_X_fit (f + 1) 125 kc ks loc st h = wps rm (eg_run rm R Q T_X_fit f) Q c_X_fit_125 kc ks loc st h := rfl
end
theorem q_X_fit : (T_X_fit.all fun q => eg_seq m_X_fit q.1 q.2) = true := by decide +kernel
theorem b_X_fit {as : List Value} {h : List eg_E} {Q : Option Value → List eg_E → Prop} (hf : (eg_fl as).length ≤ 5) (hw : wps (eg_rm m_X_fit) (eg_run (eg_rm m_X_fit) (eg_R m_X_fit Q (h.length + 0)) Q T_X_fit 8) Q c_X_fit_0 0 0 (eg_entry 5 as) [] h) : eg_Runs n_X_fit as h Q := eg_begin (d := m_X_fit) rfl (by decide) (by decide +kernel) q_X_fit hf hw
/-! ===== X_drop ===== -/
def c_X_drop_44 : List eg_I := .inl (44, 1, .lreturn, 0, 0) :: []
def c_X_drop_43 : List eg_I := .inl (43, 1, .sipush (0), 0, 0) :: c_X_drop_44
def c_X_drop_40 : List eg_I := .inl (40, 3, .goto (4), 44, 0) :: []
def c_X_drop_39 : List eg_I := .inl (39, 1, .sipush (1), 0, 0) :: c_X_drop_40
def c_X_drop_36 : List eg_I := .inl (36, 3, .ifCond .eq (7), 43, 0) :: c_X_drop_39
def c_X_drop_35 : List eg_I := .inl (35, 1, .iload 2, 0, 0) :: c_X_drop_36
def c_X_drop_32 : List eg_I := .inl (32, 3, .putfield 221, 2, 5) :: c_X_drop_35
def c_X_drop_31 : List eg_I := .inl (31, 1, .iconst (-1), 0, 0) :: c_X_drop_32
def c_X_drop_30 : List eg_I := .inl (30, 1, .aaload, 0, 0) :: c_X_drop_31
def c_X_drop_29 : List eg_I := .inl (29, 1, .iload 1, 0, 0) :: c_X_drop_30
def c_X_drop_26 : List eg_I := .inl (26, 3, .getfield 23, 11, 2) :: c_X_drop_29
def c_X_drop_25 : List eg_I := .inl (25, 1, .aload 0, 0, 0) :: c_X_drop_26
def c_X_drop_24 : List eg_I := .inl (24, 1, .istore 2, 0, 0) :: c_X_drop_25
def c_X_drop_21 : List eg_I := .inr (21, 1, 218, n_Fig_isOne, 0, 2, 0, 0) :: c_X_drop_24
def c_X_drop_20 : List eg_I := .inl (20, 1, .aaload, 0, 0) :: c_X_drop_21
def c_X_drop_19 : List eg_I := .inl (19, 1, .iload 1, 0, 0) :: c_X_drop_20
def c_X_drop_16 : List eg_I := .inl (16, 3, .getfield 23, 11, 2) :: c_X_drop_19
def c_X_drop_15 : List eg_I := .inl (15, 1, .aload 0, 0, 0) :: c_X_drop_16
def c_X_drop_14 : List eg_I := .inl (14, 1, .lreturn, 0, 0) :: []
def c_X_drop_11 : List eg_I := .inr (11, 1, 86, n_X_found, 1, 11, 0, 0) :: c_X_drop_14
def c_X_drop_8 : List eg_I := .inl (8, 3, .sipush (-1000000000000000001), 84, 0) :: c_X_drop_11
def c_X_drop_7 : List eg_I := .inl (7, 1, .aload 0, 0, 0) :: c_X_drop_8
def c_X_drop_4 : List eg_I := .inl (4, 3, .ifCond .ne (11), 15, 0) :: c_X_drop_7
def c_X_drop_1 : List eg_I := .inr (1, 0, 202, n_X_isFigure, 1, 11, 0, 0) :: c_X_drop_4
def c_X_drop_0 : List eg_I := .inl (0, 1, .iload 1, 0, 0) :: c_X_drop_1
section
variable {rm : Room} {K : Nat → Nat → Nat → eg_Lo → List Value → List eg_E → Prop} {Q : Option Value → List eg_E → Prop} {kc ks : Nat} {loc : eg_Lo} {st : List Value} {h : List eg_E}
theorem s_X_drop_0 {x : Int32} {l0 : Option Value} {l : eg_Lo} : wps rm K Q c_X_drop_0 kc ks (l0 :: some (.int x) :: l) (st) h = wps rm K Q c_X_drop_1 kc ks (l0 :: some (.int x) :: l) (.int x :: st) h := rfl
theorem s_X_drop_1  {a1 : Value} : wps rm K Q c_X_drop_1 kc ks loc (a1 :: st) h = (st.length ≤ 4 ∧ eg_Cs n_X_isFigure [a1] h (fun v h9 => wps rm K Q c_X_drop_4 kc ks loc (v.toList ++ st) h9)) := eg_c0_1
theorem s_X_drop_4 {x : Int32} : wps rm K Q c_X_drop_4 kc ks loc (.int x :: st) h = ((¬ x = 0 → K 15 kc ks loc st h) ∧ (x = 0 → wps rm K Q c_X_drop_7 kc ks loc (st) h)) := rfl
theorem s_X_drop_7 {x : Nat} {l : eg_Lo} : wps rm K Q c_X_drop_7 kc ks (some (.ref x) :: l) (st) h = wps rm K Q c_X_drop_8 kc ks (some (.ref x) :: l) (.ref x :: st) h := rfl
theorem s_X_drop_8  : wps rm K Q c_X_drop_8 kc ks loc (st) h = wps rm K Q c_X_drop_11 kc ks loc (.long (-1000000000000000001) :: st) h := rfl
theorem s_X_drop_11  {a1 : Value} {x : Nat} : wps rm K Q c_X_drop_11 kc ks loc (a1 :: .ref (x + 1) :: st) h = (eg_cls h x 11 ∧ st.length ≤ 4 ∧ eg_Cs n_X_found (.ref (x + 1) :: [a1]) h (fun v h9 => wps rm K Q c_X_drop_14 kc ks loc (v.toList ++ st) h9)) := eg_c1_1
theorem s_X_drop_14 {x : Int64} : wps rm K Q c_X_drop_14 kc ks loc ([.long x]) h = (kc = rm.cells ∧ Q (some (.long x)) h) := rfl
theorem s_X_drop_15 {x : Nat} {l : eg_Lo} : wps rm K Q c_X_drop_15 kc ks (some (.ref x) :: l) (st) h = wps rm K Q c_X_drop_16 kc ks (some (.ref x) :: l) (.ref x :: st) h := rfl
theorem s_X_drop_16 {x : Nat} : wps rm K Q c_X_drop_16 kc ks loc (.ref (x + 1) :: st) h = eg_gf h x 11 2 (fun v => wps rm K Q c_X_drop_19 kc ks loc (v :: st) h) := rfl
theorem s_X_drop_19 {x : Int32} {l0 : Option Value} {l : eg_Lo} : wps rm K Q c_X_drop_19 kc ks (l0 :: some (.int x) :: l) (st) h = wps rm K Q c_X_drop_20 kc ks (l0 :: some (.int x) :: l) (.int x :: st) h := rfl
theorem s_X_drop_20 {x : Nat} {i : Int32} : wps rm K Q c_X_drop_20 kc ks loc (.int i :: .ref (x + 1) :: st) h = eg_aa h x i (fun v => wps rm K Q c_X_drop_21 kc ks loc (v :: st) h) := rfl
theorem s_X_drop_21  {x : Nat} : wps rm K Q c_X_drop_21 kc ks loc (.ref (x + 1) :: st) h = (eg_cls h x 2 ∧ st.length ≤ 4 ∧ eg_Cs n_Fig_isOne (.ref (x + 1) :: []) h (fun v h9 => wps rm K Q c_X_drop_24 kc ks loc (v.toList ++ st) h9)) := eg_c1_0
theorem s_X_drop_24 {x : Int32} : wps rm K Q c_X_drop_24 kc ks loc (.int x :: st) h = wps rm K Q c_X_drop_25 kc ks (eg_set1 loc 2 (.int x)) (st) h := rfl
theorem s_X_drop_25 {x : Nat} {l : eg_Lo} : wps rm K Q c_X_drop_25 kc ks (some (.ref x) :: l) (st) h = wps rm K Q c_X_drop_26 kc ks (some (.ref x) :: l) (.ref x :: st) h := rfl
theorem s_X_drop_26 {x : Nat} : wps rm K Q c_X_drop_26 kc ks loc (.ref (x + 1) :: st) h = eg_gf h x 11 2 (fun v => wps rm K Q c_X_drop_29 kc ks loc (v :: st) h) := rfl
theorem s_X_drop_29 {x : Int32} {l0 : Option Value} {l : eg_Lo} : wps rm K Q c_X_drop_29 kc ks (l0 :: some (.int x) :: l) (st) h = wps rm K Q c_X_drop_30 kc ks (l0 :: some (.int x) :: l) (.int x :: st) h := rfl
theorem s_X_drop_30 {x : Nat} {i : Int32} : wps rm K Q c_X_drop_30 kc ks loc (.int i :: .ref (x + 1) :: st) h = eg_aa h x i (fun v => wps rm K Q c_X_drop_31 kc ks loc (v :: st) h) := rfl
theorem s_X_drop_31  : wps rm K Q c_X_drop_31 kc ks loc (st) h = wps rm K Q c_X_drop_32 kc ks loc (.int (-1) :: st) h := rfl
theorem s_X_drop_32 {x : Nat} {v : Value} : wps rm K Q c_X_drop_32 kc ks loc (v :: .ref (x + 1) :: st) h = eg_pf h x 2 5 v (fun h9 => wps rm K Q c_X_drop_35 kc ks loc (st) h9) := rfl
theorem s_X_drop_35 {x : Int32} {l0 l1 : Option Value} {l : eg_Lo} : wps rm K Q c_X_drop_35 kc ks (l0 :: l1 :: some (.int x) :: l) (st) h = wps rm K Q c_X_drop_36 kc ks (l0 :: l1 :: some (.int x) :: l) (.int x :: st) h := rfl
theorem s_X_drop_36 {x : Int32} : wps rm K Q c_X_drop_36 kc ks loc (.int x :: st) h = ((x = 0 → K 43 kc ks loc st h) ∧ (¬ x = 0 → wps rm K Q c_X_drop_39 kc ks loc (st) h)) := rfl
theorem s_X_drop_39  : wps rm K Q c_X_drop_39 kc ks loc (st) h = wps rm K Q c_X_drop_40 kc ks loc (.long (1) :: st) h := rfl
theorem s_X_drop_40  : wps rm K Q c_X_drop_40 kc ks loc (st) h = K 44 kc ks loc st h := rfl
theorem s_X_drop_43  : wps rm K Q c_X_drop_43 kc ks loc (st) h = wps rm K Q c_X_drop_44 kc ks loc (.long (0) :: st) h := rfl
theorem s_X_drop_44 {x : Int64} : wps rm K Q c_X_drop_44 kc ks loc ([.long x]) h = (kc = rm.cells ∧ Q (some (.long x)) h) := rfl
def T_X_drop : List (Nat × List eg_I) := [(15, c_X_drop_15), (43, c_X_drop_43), (44, c_X_drop_44)]
theorem j_X_drop_15 {R : Nat → Nat → Nat → eg_Lo → List Value → List eg_E → Prop} {f pc0 : Nat} : eg_run rm R Q T_X_drop (f + 1) 15 kc ks loc st h = wps rm (eg_run rm R Q T_X_drop f) Q c_X_drop_15 kc ks loc st h := rfl
theorem j_X_drop_43 {R : Nat → Nat → Nat → eg_Lo → List Value → List eg_E → Prop} {f pc0 : Nat} : eg_run rm R Q T_X_drop (f + 1) 43 kc ks loc st h = wps rm (eg_run rm R Q T_X_drop f) Q c_X_drop_43 kc ks loc st h := rfl
theorem j_X_drop_44 {R : Nat → Nat → Nat → eg_Lo → List Value → List eg_E → Prop} {f pc0 : Nat} : eg_run rm R Q T_X_drop (f + 1) 44 kc ks loc st h = wps rm (eg_run rm R Q T_X_drop f) Q c_X_drop_44 kc ks loc st h := rfl
end
theorem q_X_drop : (T_X_drop.all fun q => eg_seq m_X_drop q.1 q.2) = true := by decide +kernel
theorem b_X_drop {as : List Value} {h : List eg_E} {Q : Option Value → List eg_E → Prop} (hf : (eg_fl as).length ≤ 3) (hw : wps (eg_rm m_X_drop) (eg_run (eg_rm m_X_drop) (eg_R m_X_drop Q (h.length + 0)) Q T_X_drop 5) Q c_X_drop_0 0 0 (eg_entry 3 as) [] h) : eg_Runs n_X_drop as h Q := eg_begin (d := m_X_drop) rfl (by decide) (by decide +kernel) q_X_drop hf hw
/-! ===== X_as ===== -/
def c_X_as_75 : List eg_I := .inl (75, 1, .lreturn, 0, 0) :: []
def c_X_as_74 : List eg_I := .inl (74, 1, .i2l, 0, 0) :: c_X_as_75
def c_X_as_71 : List eg_I := .inl (71, 3, .getfield 221, 2, 5) :: c_X_as_74
def c_X_as_70 : List eg_I := .inl (70, 1, .aaload, 0, 0) :: c_X_as_71
def c_X_as_69 : List eg_I := .inl (69, 1, .iload 1, 0, 0) :: c_X_as_70
def c_X_as_66 : List eg_I := .inl (66, 3, .getfield 23, 11, 2) :: c_X_as_69
def c_X_as_65 : List eg_I := .inl (65, 1, .aload 0, 0, 0) :: c_X_as_66
def c_X_as_64 : List eg_I := .inl (64, 1, .lreturn, 0, 0) :: []
def c_X_as_61 : List eg_I := .inr (61, 1, 86, n_X_found, 1, 11, 0, 0) :: c_X_as_64
def c_X_as_58 : List eg_I := .inl (58, 3, .sipush (-1000000000000000004), 183, 0) :: c_X_as_61
def c_X_as_57 : List eg_I := .inl (57, 1, .aload 0, 0, 0) :: c_X_as_58
def c_X_as_54 : List eg_I := .inl (54, 3, .ifCond .ne (11), 65, 0) :: c_X_as_57
def c_X_as_51 : List eg_I := .inr (51, 1, 222, n_Fig_isOfKind, 1, 2, 0, 0) :: c_X_as_54
def c_X_as_50 : List eg_I := .inl (50, 1, .iload 2, 0, 0) :: c_X_as_51
def c_X_as_49 : List eg_I := .inl (49, 1, .aaload, 0, 0) :: c_X_as_50
def c_X_as_48 : List eg_I := .inl (48, 1, .iload 1, 0, 0) :: c_X_as_49
def c_X_as_45 : List eg_I := .inl (45, 3, .getfield 23, 11, 2) :: c_X_as_48
def c_X_as_44 : List eg_I := .inl (44, 1, .aload 0, 0, 0) :: c_X_as_45
def c_X_as_43 : List eg_I := .inl (43, 1, .lreturn, 0, 0) :: []
def c_X_as_40 : List eg_I := .inr (40, 1, 86, n_X_found, 1, 11, 0, 0) :: c_X_as_43
def c_X_as_37 : List eg_I := .inl (37, 3, .sipush (-1000000000000000006), 158, 0) :: c_X_as_40
def c_X_as_36 : List eg_I := .inl (36, 1, .aload 0, 0, 0) :: c_X_as_37
def c_X_as_33 : List eg_I := .inl (33, 3, .ifCond .ne (11), 44, 0) :: c_X_as_36
def c_X_as_30 : List eg_I := .inr (30, 1, 218, n_Fig_isOne, 0, 2, 0, 0) :: c_X_as_33
def c_X_as_29 : List eg_I := .inl (29, 1, .aaload, 0, 0) :: c_X_as_30
def c_X_as_28 : List eg_I := .inl (28, 1, .iload 1, 0, 0) :: c_X_as_29
def c_X_as_25 : List eg_I := .inl (25, 3, .getfield 23, 11, 2) :: c_X_as_28
def c_X_as_24 : List eg_I := .inl (24, 1, .aload 0, 0, 0) :: c_X_as_25
def c_X_as_23 : List eg_I := .inl (23, 1, .lreturn, 0, 0) :: []
def c_X_as_20 : List eg_I := .inr (20, 1, 86, n_X_found, 1, 11, 0, 0) :: c_X_as_23
def c_X_as_17 : List eg_I := .inl (17, 3, .sipush (-1000000000000000001), 84, 0) :: c_X_as_20
def c_X_as_16 : List eg_I := .inl (16, 1, .aload 0, 0, 0) :: c_X_as_17
def c_X_as_13 : List eg_I := .inl (13, 3, .ifCond .ne (11), 24, 0) :: c_X_as_16
def c_X_as_10 : List eg_I := .inr (10, 0, 80, n_X_isWithin, 3, 11, 0, 0) :: c_X_as_13
def c_X_as_9 : List eg_I := .inl (9, 1, .iconst (5), 0, 0) :: c_X_as_10
def c_X_as_8 : List eg_I := .inl (8, 1, .iconst (0), 0, 0) :: c_X_as_9
def c_X_as_7 : List eg_I := .inl (7, 1, .iload 2, 0, 0) :: c_X_as_8
def c_X_as_4 : List eg_I := .inl (4, 3, .ifCond .eq (12), 16, 0) :: c_X_as_7
def c_X_as_1 : List eg_I := .inr (1, 0, 202, n_X_isFigure, 1, 11, 0, 0) :: c_X_as_4
def c_X_as_0 : List eg_I := .inl (0, 1, .iload 1, 0, 0) :: c_X_as_1
section
variable {rm : Room} {K : Nat → Nat → Nat → eg_Lo → List Value → List eg_E → Prop} {Q : Option Value → List eg_E → Prop} {kc ks : Nat} {loc : eg_Lo} {st : List Value} {h : List eg_E}
theorem s_X_as_0 {x : Int32} {l0 : Option Value} {l : eg_Lo} : wps rm K Q c_X_as_0 kc ks (l0 :: some (.int x) :: l) (st) h = wps rm K Q c_X_as_1 kc ks (l0 :: some (.int x) :: l) (.int x :: st) h := rfl
theorem s_X_as_1  {a1 : Value} : wps rm K Q c_X_as_1 kc ks loc (a1 :: st) h = (st.length ≤ 4 ∧ eg_Cs n_X_isFigure [a1] h (fun v h9 => wps rm K Q c_X_as_4 kc ks loc (v.toList ++ st) h9)) := eg_c0_1
theorem s_X_as_4 {x : Int32} : wps rm K Q c_X_as_4 kc ks loc (.int x :: st) h = ((x = 0 → K 16 kc ks loc st h) ∧ (¬ x = 0 → wps rm K Q c_X_as_7 kc ks loc (st) h)) := rfl
theorem s_X_as_7 {x : Int32} {l0 l1 : Option Value} {l : eg_Lo} : wps rm K Q c_X_as_7 kc ks (l0 :: l1 :: some (.int x) :: l) (st) h = wps rm K Q c_X_as_8 kc ks (l0 :: l1 :: some (.int x) :: l) (.int x :: st) h := rfl
theorem s_X_as_8  : wps rm K Q c_X_as_8 kc ks loc (st) h = wps rm K Q c_X_as_9 kc ks loc (.int (0) :: st) h := rfl
theorem s_X_as_9  : wps rm K Q c_X_as_9 kc ks loc (st) h = wps rm K Q c_X_as_10 kc ks loc (.int (5) :: st) h := rfl
theorem s_X_as_10  {a1 : Value} {a2 : Value} {a3 : Value} : wps rm K Q c_X_as_10 kc ks loc (a3 :: a2 :: a1 :: st) h = (st.length ≤ 4 ∧ eg_Cs n_X_isWithin [a1, a2, a3] h (fun v h9 => wps rm K Q c_X_as_13 kc ks loc (v.toList ++ st) h9)) := eg_c0_3
theorem s_X_as_13 {x : Int32} : wps rm K Q c_X_as_13 kc ks loc (.int x :: st) h = ((¬ x = 0 → K 24 kc ks loc st h) ∧ (x = 0 → wps rm K Q c_X_as_16 kc ks loc (st) h)) := rfl
theorem s_X_as_16 {x : Nat} {l : eg_Lo} : wps rm K Q c_X_as_16 kc ks (some (.ref x) :: l) (st) h = wps rm K Q c_X_as_17 kc ks (some (.ref x) :: l) (.ref x :: st) h := rfl
theorem s_X_as_17  : wps rm K Q c_X_as_17 kc ks loc (st) h = wps rm K Q c_X_as_20 kc ks loc (.long (-1000000000000000001) :: st) h := rfl
theorem s_X_as_20  {a1 : Value} {x : Nat} : wps rm K Q c_X_as_20 kc ks loc (a1 :: .ref (x + 1) :: st) h = (eg_cls h x 11 ∧ st.length ≤ 4 ∧ eg_Cs n_X_found (.ref (x + 1) :: [a1]) h (fun v h9 => wps rm K Q c_X_as_23 kc ks loc (v.toList ++ st) h9)) := eg_c1_1
theorem s_X_as_23 {x : Int64} : wps rm K Q c_X_as_23 kc ks loc ([.long x]) h = (kc = rm.cells ∧ Q (some (.long x)) h) := rfl
theorem s_X_as_24 {x : Nat} {l : eg_Lo} : wps rm K Q c_X_as_24 kc ks (some (.ref x) :: l) (st) h = wps rm K Q c_X_as_25 kc ks (some (.ref x) :: l) (.ref x :: st) h := rfl
theorem s_X_as_25 {x : Nat} : wps rm K Q c_X_as_25 kc ks loc (.ref (x + 1) :: st) h = eg_gf h x 11 2 (fun v => wps rm K Q c_X_as_28 kc ks loc (v :: st) h) := rfl
theorem s_X_as_28 {x : Int32} {l0 : Option Value} {l : eg_Lo} : wps rm K Q c_X_as_28 kc ks (l0 :: some (.int x) :: l) (st) h = wps rm K Q c_X_as_29 kc ks (l0 :: some (.int x) :: l) (.int x :: st) h := rfl
theorem s_X_as_29 {x : Nat} {i : Int32} : wps rm K Q c_X_as_29 kc ks loc (.int i :: .ref (x + 1) :: st) h = eg_aa h x i (fun v => wps rm K Q c_X_as_30 kc ks loc (v :: st) h) := rfl
theorem s_X_as_30  {x : Nat} : wps rm K Q c_X_as_30 kc ks loc (.ref (x + 1) :: st) h = (eg_cls h x 2 ∧ st.length ≤ 4 ∧ eg_Cs n_Fig_isOne (.ref (x + 1) :: []) h (fun v h9 => wps rm K Q c_X_as_33 kc ks loc (v.toList ++ st) h9)) := eg_c1_0
theorem s_X_as_33 {x : Int32} : wps rm K Q c_X_as_33 kc ks loc (.int x :: st) h = ((¬ x = 0 → K 44 kc ks loc st h) ∧ (x = 0 → wps rm K Q c_X_as_36 kc ks loc (st) h)) := rfl
theorem s_X_as_36 {x : Nat} {l : eg_Lo} : wps rm K Q c_X_as_36 kc ks (some (.ref x) :: l) (st) h = wps rm K Q c_X_as_37 kc ks (some (.ref x) :: l) (.ref x :: st) h := rfl
theorem s_X_as_37  : wps rm K Q c_X_as_37 kc ks loc (st) h = wps rm K Q c_X_as_40 kc ks loc (.long (-1000000000000000006) :: st) h := rfl
theorem s_X_as_40  {a1 : Value} {x : Nat} : wps rm K Q c_X_as_40 kc ks loc (a1 :: .ref (x + 1) :: st) h = (eg_cls h x 11 ∧ st.length ≤ 4 ∧ eg_Cs n_X_found (.ref (x + 1) :: [a1]) h (fun v h9 => wps rm K Q c_X_as_43 kc ks loc (v.toList ++ st) h9)) := eg_c1_1
theorem s_X_as_43 {x : Int64} : wps rm K Q c_X_as_43 kc ks loc ([.long x]) h = (kc = rm.cells ∧ Q (some (.long x)) h) := rfl
theorem s_X_as_44 {x : Nat} {l : eg_Lo} : wps rm K Q c_X_as_44 kc ks (some (.ref x) :: l) (st) h = wps rm K Q c_X_as_45 kc ks (some (.ref x) :: l) (.ref x :: st) h := rfl
theorem s_X_as_45 {x : Nat} : wps rm K Q c_X_as_45 kc ks loc (.ref (x + 1) :: st) h = eg_gf h x 11 2 (fun v => wps rm K Q c_X_as_48 kc ks loc (v :: st) h) := rfl
theorem s_X_as_48 {x : Int32} {l0 : Option Value} {l : eg_Lo} : wps rm K Q c_X_as_48 kc ks (l0 :: some (.int x) :: l) (st) h = wps rm K Q c_X_as_49 kc ks (l0 :: some (.int x) :: l) (.int x :: st) h := rfl
theorem s_X_as_49 {x : Nat} {i : Int32} : wps rm K Q c_X_as_49 kc ks loc (.int i :: .ref (x + 1) :: st) h = eg_aa h x i (fun v => wps rm K Q c_X_as_50 kc ks loc (v :: st) h) := rfl
theorem s_X_as_50 {x : Int32} {l0 l1 : Option Value} {l : eg_Lo} : wps rm K Q c_X_as_50 kc ks (l0 :: l1 :: some (.int x) :: l) (st) h = wps rm K Q c_X_as_51 kc ks (l0 :: l1 :: some (.int x) :: l) (.int x :: st) h := rfl
theorem s_X_as_51  {a1 : Value} {x : Nat} : wps rm K Q c_X_as_51 kc ks loc (a1 :: .ref (x + 1) :: st) h = (eg_cls h x 2 ∧ st.length ≤ 4 ∧ eg_Cs n_Fig_isOfKind (.ref (x + 1) :: [a1]) h (fun v h9 => wps rm K Q c_X_as_54 kc ks loc (v.toList ++ st) h9)) := eg_c1_1
theorem s_X_as_54 {x : Int32} : wps rm K Q c_X_as_54 kc ks loc (.int x :: st) h = ((¬ x = 0 → K 65 kc ks loc st h) ∧ (x = 0 → wps rm K Q c_X_as_57 kc ks loc (st) h)) := rfl
theorem s_X_as_57 {x : Nat} {l : eg_Lo} : wps rm K Q c_X_as_57 kc ks (some (.ref x) :: l) (st) h = wps rm K Q c_X_as_58 kc ks (some (.ref x) :: l) (.ref x :: st) h := rfl
theorem s_X_as_58  : wps rm K Q c_X_as_58 kc ks loc (st) h = wps rm K Q c_X_as_61 kc ks loc (.long (-1000000000000000004) :: st) h := rfl
theorem s_X_as_61  {a1 : Value} {x : Nat} : wps rm K Q c_X_as_61 kc ks loc (a1 :: .ref (x + 1) :: st) h = (eg_cls h x 11 ∧ st.length ≤ 4 ∧ eg_Cs n_X_found (.ref (x + 1) :: [a1]) h (fun v h9 => wps rm K Q c_X_as_64 kc ks loc (v.toList ++ st) h9)) := eg_c1_1
theorem s_X_as_64 {x : Int64} : wps rm K Q c_X_as_64 kc ks loc ([.long x]) h = (kc = rm.cells ∧ Q (some (.long x)) h) := rfl
theorem s_X_as_65 {x : Nat} {l : eg_Lo} : wps rm K Q c_X_as_65 kc ks (some (.ref x) :: l) (st) h = wps rm K Q c_X_as_66 kc ks (some (.ref x) :: l) (.ref x :: st) h := rfl
theorem s_X_as_66 {x : Nat} : wps rm K Q c_X_as_66 kc ks loc (.ref (x + 1) :: st) h = eg_gf h x 11 2 (fun v => wps rm K Q c_X_as_69 kc ks loc (v :: st) h) := rfl
theorem s_X_as_69 {x : Int32} {l0 : Option Value} {l : eg_Lo} : wps rm K Q c_X_as_69 kc ks (l0 :: some (.int x) :: l) (st) h = wps rm K Q c_X_as_70 kc ks (l0 :: some (.int x) :: l) (.int x :: st) h := rfl
theorem s_X_as_70 {x : Nat} {i : Int32} : wps rm K Q c_X_as_70 kc ks loc (.int i :: .ref (x + 1) :: st) h = eg_aa h x i (fun v => wps rm K Q c_X_as_71 kc ks loc (v :: st) h) := rfl
theorem s_X_as_71 {x : Nat} : wps rm K Q c_X_as_71 kc ks loc (.ref (x + 1) :: st) h = eg_gf h x 2 5 (fun v => wps rm K Q c_X_as_74 kc ks loc (v :: st) h) := rfl
theorem s_X_as_74 {x : Int32} : wps rm K Q c_X_as_74 kc ks loc (.int x :: st) h = wps rm K Q c_X_as_75 kc ks loc (.long (x.toInt64) :: st) h := rfl
theorem s_X_as_75 {x : Int64} : wps rm K Q c_X_as_75 kc ks loc ([.long x]) h = (kc = rm.cells ∧ Q (some (.long x)) h) := rfl
def T_X_as : List (Nat × List eg_I) := [(16, c_X_as_16), (24, c_X_as_24), (44, c_X_as_44), (65, c_X_as_65)]
theorem j_X_as_16 {R : Nat → Nat → Nat → eg_Lo → List Value → List eg_E → Prop} {f pc0 : Nat} : eg_run rm R Q T_X_as (f + 1) 16 kc ks loc st h = wps rm (eg_run rm R Q T_X_as f) Q c_X_as_16 kc ks loc st h := rfl
theorem j_X_as_24 {R : Nat → Nat → Nat → eg_Lo → List Value → List eg_E → Prop} {f pc0 : Nat} : eg_run rm R Q T_X_as (f + 1) 24 kc ks loc st h = wps rm (eg_run rm R Q T_X_as f) Q c_X_as_24 kc ks loc st h := rfl
theorem j_X_as_44 {R : Nat → Nat → Nat → eg_Lo → List Value → List eg_E → Prop} {f pc0 : Nat} : eg_run rm R Q T_X_as (f + 1) 44 kc ks loc st h = wps rm (eg_run rm R Q T_X_as f) Q c_X_as_44 kc ks loc st h := rfl
theorem j_X_as_65 {R : Nat → Nat → Nat → eg_Lo → List Value → List eg_E → Prop} {f pc0 : Nat} : eg_run rm R Q T_X_as (f + 1) 65 kc ks loc st h = wps rm (eg_run rm R Q T_X_as f) Q c_X_as_65 kc ks loc st h := rfl
end
theorem q_X_as : (T_X_as.all fun q => eg_seq m_X_as q.1 q.2) = true := by decide +kernel
theorem b_X_as {as : List Value} {h : List eg_E} {Q : Option Value → List eg_E → Prop} (hf : (eg_fl as).length ≤ 3) (hw : wps (eg_rm m_X_as) (eg_run (eg_rm m_X_as) (eg_R m_X_as Q (h.length + 0)) Q T_X_as 6) Q c_X_as_0 0 0 (eg_entry 3 as) [] h) : eg_Runs n_X_as as h Q := eg_begin (d := m_X_as) rfl (by decide) (by decide +kernel) q_X_as hf hw
/-! ===== X_held ===== -/
def c_X_held_66 : List eg_I := .inl (66, 1, .lreturn, 0, 0) :: []
def c_X_held_65 : List eg_I := .inl (65, 1, .i2l, 0, 0) :: c_X_held_66
def c_X_held_64 : List eg_I := .inl (64, 1, .iaload, 0, 0) :: c_X_held_65
def c_X_held_63 : List eg_I := .inl (63, 1, .iload 2, 0, 0) :: c_X_held_64
def c_X_held_60 : List eg_I := .inl (60, 3, .getfield 225, 2, 0) :: c_X_held_63
def c_X_held_59 : List eg_I := .inl (59, 1, .aaload, 0, 0) :: c_X_held_60
def c_X_held_58 : List eg_I := .inl (58, 1, .iload 1, 0, 0) :: c_X_held_59
def c_X_held_55 : List eg_I := .inl (55, 3, .getfield 23, 11, 2) :: c_X_held_58
def c_X_held_54 : List eg_I := .inl (54, 1, .aload 0, 0, 0) :: c_X_held_55
def c_X_held_53 : List eg_I := .inl (53, 1, .lreturn, 0, 0) :: []
def c_X_held_50 : List eg_I := .inr (50, 1, 86, n_X_found, 1, 11, 0, 0) :: c_X_held_53
def c_X_held_47 : List eg_I := .inl (47, 3, .sipush (-1000000000000000006), 158, 0) :: c_X_held_50
def c_X_held_46 : List eg_I := .inl (46, 1, .aload 0, 0, 0) :: c_X_held_47
def c_X_held_43 : List eg_I := .inl (43, 3, .ifCond .ne (11), 54, 0) :: c_X_held_46
def c_X_held_40 : List eg_I := .inr (40, 0, 80, n_X_isWithin, 3, 11, 0, 0) :: c_X_held_43
def c_X_held_39 : List eg_I := .inl (39, 1, .isub, 0, 0) :: c_X_held_40
def c_X_held_38 : List eg_I := .inl (38, 1, .iconst (1), 0, 0) :: c_X_held_39
def c_X_held_35 : List eg_I := .inl (35, 3, .getfield 215, 2, 6) :: c_X_held_38
def c_X_held_34 : List eg_I := .inl (34, 1, .aaload, 0, 0) :: c_X_held_35
def c_X_held_33 : List eg_I := .inl (33, 1, .iload 1, 0, 0) :: c_X_held_34
def c_X_held_30 : List eg_I := .inl (30, 3, .getfield 23, 11, 2) :: c_X_held_33
def c_X_held_29 : List eg_I := .inl (29, 1, .aload 0, 0, 0) :: c_X_held_30
def c_X_held_28 : List eg_I := .inl (28, 1, .iconst (0), 0, 0) :: c_X_held_29
def c_X_held_27 : List eg_I := .inl (27, 1, .iload 2, 0, 0) :: c_X_held_28
def c_X_held_24 : List eg_I := .inl (24, 3, .ifCond .eq (22), 46, 0) :: c_X_held_27
def c_X_held_21 : List eg_I := .inr (21, 1, 218, n_Fig_isOne, 0, 2, 0, 0) :: c_X_held_24
def c_X_held_20 : List eg_I := .inl (20, 1, .aaload, 0, 0) :: c_X_held_21
def c_X_held_19 : List eg_I := .inl (19, 1, .iload 1, 0, 0) :: c_X_held_20
def c_X_held_16 : List eg_I := .inl (16, 3, .getfield 23, 11, 2) :: c_X_held_19
def c_X_held_15 : List eg_I := .inl (15, 1, .aload 0, 0, 0) :: c_X_held_16
def c_X_held_14 : List eg_I := .inl (14, 1, .lreturn, 0, 0) :: []
def c_X_held_11 : List eg_I := .inr (11, 1, 86, n_X_found, 1, 11, 0, 0) :: c_X_held_14
def c_X_held_8 : List eg_I := .inl (8, 3, .sipush (-1000000000000000001), 84, 0) :: c_X_held_11
def c_X_held_7 : List eg_I := .inl (7, 1, .aload 0, 0, 0) :: c_X_held_8
def c_X_held_4 : List eg_I := .inl (4, 3, .ifCond .ne (11), 15, 0) :: c_X_held_7
def c_X_held_1 : List eg_I := .inr (1, 0, 202, n_X_isFigure, 1, 11, 0, 0) :: c_X_held_4
def c_X_held_0 : List eg_I := .inl (0, 1, .iload 1, 0, 0) :: c_X_held_1
section
variable {rm : Room} {K : Nat → Nat → Nat → eg_Lo → List Value → List eg_E → Prop} {Q : Option Value → List eg_E → Prop} {kc ks : Nat} {loc : eg_Lo} {st : List Value} {h : List eg_E}
theorem s_X_held_0 {x : Int32} {l0 : Option Value} {l : eg_Lo} : wps rm K Q c_X_held_0 kc ks (l0 :: some (.int x) :: l) (st) h = wps rm K Q c_X_held_1 kc ks (l0 :: some (.int x) :: l) (.int x :: st) h := rfl
theorem s_X_held_1  {a1 : Value} : wps rm K Q c_X_held_1 kc ks loc (a1 :: st) h = (st.length ≤ 4 ∧ eg_Cs n_X_isFigure [a1] h (fun v h9 => wps rm K Q c_X_held_4 kc ks loc (v.toList ++ st) h9)) := eg_c0_1
theorem s_X_held_4 {x : Int32} : wps rm K Q c_X_held_4 kc ks loc (.int x :: st) h = ((¬ x = 0 → K 15 kc ks loc st h) ∧ (x = 0 → wps rm K Q c_X_held_7 kc ks loc (st) h)) := rfl
theorem s_X_held_7 {x : Nat} {l : eg_Lo} : wps rm K Q c_X_held_7 kc ks (some (.ref x) :: l) (st) h = wps rm K Q c_X_held_8 kc ks (some (.ref x) :: l) (.ref x :: st) h := rfl
theorem s_X_held_8  : wps rm K Q c_X_held_8 kc ks loc (st) h = wps rm K Q c_X_held_11 kc ks loc (.long (-1000000000000000001) :: st) h := rfl
theorem s_X_held_11  {a1 : Value} {x : Nat} : wps rm K Q c_X_held_11 kc ks loc (a1 :: .ref (x + 1) :: st) h = (eg_cls h x 11 ∧ st.length ≤ 4 ∧ eg_Cs n_X_found (.ref (x + 1) :: [a1]) h (fun v h9 => wps rm K Q c_X_held_14 kc ks loc (v.toList ++ st) h9)) := eg_c1_1
theorem s_X_held_14 {x : Int64} : wps rm K Q c_X_held_14 kc ks loc ([.long x]) h = (kc = rm.cells ∧ Q (some (.long x)) h) := rfl
theorem s_X_held_15 {x : Nat} {l : eg_Lo} : wps rm K Q c_X_held_15 kc ks (some (.ref x) :: l) (st) h = wps rm K Q c_X_held_16 kc ks (some (.ref x) :: l) (.ref x :: st) h := rfl
theorem s_X_held_16 {x : Nat} : wps rm K Q c_X_held_16 kc ks loc (.ref (x + 1) :: st) h = eg_gf h x 11 2 (fun v => wps rm K Q c_X_held_19 kc ks loc (v :: st) h) := rfl
theorem s_X_held_19 {x : Int32} {l0 : Option Value} {l : eg_Lo} : wps rm K Q c_X_held_19 kc ks (l0 :: some (.int x) :: l) (st) h = wps rm K Q c_X_held_20 kc ks (l0 :: some (.int x) :: l) (.int x :: st) h := rfl
theorem s_X_held_20 {x : Nat} {i : Int32} : wps rm K Q c_X_held_20 kc ks loc (.int i :: .ref (x + 1) :: st) h = eg_aa h x i (fun v => wps rm K Q c_X_held_21 kc ks loc (v :: st) h) := rfl
theorem s_X_held_21  {x : Nat} : wps rm K Q c_X_held_21 kc ks loc (.ref (x + 1) :: st) h = (eg_cls h x 2 ∧ st.length ≤ 4 ∧ eg_Cs n_Fig_isOne (.ref (x + 1) :: []) h (fun v h9 => wps rm K Q c_X_held_24 kc ks loc (v.toList ++ st) h9)) := eg_c1_0
theorem s_X_held_24 {x : Int32} : wps rm K Q c_X_held_24 kc ks loc (.int x :: st) h = ((x = 0 → K 46 kc ks loc st h) ∧ (¬ x = 0 → wps rm K Q c_X_held_27 kc ks loc (st) h)) := rfl
theorem s_X_held_27 {x : Int32} {l0 l1 : Option Value} {l : eg_Lo} : wps rm K Q c_X_held_27 kc ks (l0 :: l1 :: some (.int x) :: l) (st) h = wps rm K Q c_X_held_28 kc ks (l0 :: l1 :: some (.int x) :: l) (.int x :: st) h := rfl
theorem s_X_held_28  : wps rm K Q c_X_held_28 kc ks loc (st) h = wps rm K Q c_X_held_29 kc ks loc (.int (0) :: st) h := rfl
theorem s_X_held_29 {x : Nat} {l : eg_Lo} : wps rm K Q c_X_held_29 kc ks (some (.ref x) :: l) (st) h = wps rm K Q c_X_held_30 kc ks (some (.ref x) :: l) (.ref x :: st) h := rfl
theorem s_X_held_30 {x : Nat} : wps rm K Q c_X_held_30 kc ks loc (.ref (x + 1) :: st) h = eg_gf h x 11 2 (fun v => wps rm K Q c_X_held_33 kc ks loc (v :: st) h) := rfl
theorem s_X_held_33 {x : Int32} {l0 : Option Value} {l : eg_Lo} : wps rm K Q c_X_held_33 kc ks (l0 :: some (.int x) :: l) (st) h = wps rm K Q c_X_held_34 kc ks (l0 :: some (.int x) :: l) (.int x :: st) h := rfl
theorem s_X_held_34 {x : Nat} {i : Int32} : wps rm K Q c_X_held_34 kc ks loc (.int i :: .ref (x + 1) :: st) h = eg_aa h x i (fun v => wps rm K Q c_X_held_35 kc ks loc (v :: st) h) := rfl
theorem s_X_held_35 {x : Nat} : wps rm K Q c_X_held_35 kc ks loc (.ref (x + 1) :: st) h = eg_gf h x 2 6 (fun v => wps rm K Q c_X_held_38 kc ks loc (v :: st) h) := rfl
theorem s_X_held_38  : wps rm K Q c_X_held_38 kc ks loc (st) h = wps rm K Q c_X_held_39 kc ks loc (.int (1) :: st) h := rfl
theorem s_X_held_39 {x y : Int32} : wps rm K Q c_X_held_39 kc ks loc (.int y :: .int x :: st) h = wps rm K Q c_X_held_40 kc ks loc (.int (x - y) :: st) h := rfl
theorem s_X_held_40  {a1 : Value} {a2 : Value} {a3 : Value} : wps rm K Q c_X_held_40 kc ks loc (a3 :: a2 :: a1 :: st) h = (st.length ≤ 4 ∧ eg_Cs n_X_isWithin [a1, a2, a3] h (fun v h9 => wps rm K Q c_X_held_43 kc ks loc (v.toList ++ st) h9)) := eg_c0_3
theorem s_X_held_43 {x : Int32} : wps rm K Q c_X_held_43 kc ks loc (.int x :: st) h = ((¬ x = 0 → K 54 kc ks loc st h) ∧ (x = 0 → wps rm K Q c_X_held_46 kc ks loc (st) h)) := rfl
theorem s_X_held_46 {x : Nat} {l : eg_Lo} : wps rm K Q c_X_held_46 kc ks (some (.ref x) :: l) (st) h = wps rm K Q c_X_held_47 kc ks (some (.ref x) :: l) (.ref x :: st) h := rfl
theorem s_X_held_47  : wps rm K Q c_X_held_47 kc ks loc (st) h = wps rm K Q c_X_held_50 kc ks loc (.long (-1000000000000000006) :: st) h := rfl
theorem s_X_held_50  {a1 : Value} {x : Nat} : wps rm K Q c_X_held_50 kc ks loc (a1 :: .ref (x + 1) :: st) h = (eg_cls h x 11 ∧ st.length ≤ 4 ∧ eg_Cs n_X_found (.ref (x + 1) :: [a1]) h (fun v h9 => wps rm K Q c_X_held_53 kc ks loc (v.toList ++ st) h9)) := eg_c1_1
theorem s_X_held_53 {x : Int64} : wps rm K Q c_X_held_53 kc ks loc ([.long x]) h = (kc = rm.cells ∧ Q (some (.long x)) h) := rfl
theorem s_X_held_54 {x : Nat} {l : eg_Lo} : wps rm K Q c_X_held_54 kc ks (some (.ref x) :: l) (st) h = wps rm K Q c_X_held_55 kc ks (some (.ref x) :: l) (.ref x :: st) h := rfl
theorem s_X_held_55 {x : Nat} : wps rm K Q c_X_held_55 kc ks loc (.ref (x + 1) :: st) h = eg_gf h x 11 2 (fun v => wps rm K Q c_X_held_58 kc ks loc (v :: st) h) := rfl
theorem s_X_held_58 {x : Int32} {l0 : Option Value} {l : eg_Lo} : wps rm K Q c_X_held_58 kc ks (l0 :: some (.int x) :: l) (st) h = wps rm K Q c_X_held_59 kc ks (l0 :: some (.int x) :: l) (.int x :: st) h := rfl
theorem s_X_held_59 {x : Nat} {i : Int32} : wps rm K Q c_X_held_59 kc ks loc (.int i :: .ref (x + 1) :: st) h = eg_aa h x i (fun v => wps rm K Q c_X_held_60 kc ks loc (v :: st) h) := rfl
theorem s_X_held_60 {x : Nat} : wps rm K Q c_X_held_60 kc ks loc (.ref (x + 1) :: st) h = eg_gf h x 2 0 (fun v => wps rm K Q c_X_held_63 kc ks loc (v :: st) h) := rfl
theorem s_X_held_63 {x : Int32} {l0 l1 : Option Value} {l : eg_Lo} : wps rm K Q c_X_held_63 kc ks (l0 :: l1 :: some (.int x) :: l) (st) h = wps rm K Q c_X_held_64 kc ks (l0 :: l1 :: some (.int x) :: l) (.int x :: st) h := rfl
theorem s_X_held_64 {x : Nat} {i : Int32} : wps rm K Q c_X_held_64 kc ks loc (.int i :: .ref (x + 1) :: st) h = eg_ia h x i (fun v => wps rm K Q c_X_held_65 kc ks loc (.int v :: st) h) := rfl
theorem s_X_held_65 {x : Int32} : wps rm K Q c_X_held_65 kc ks loc (.int x :: st) h = wps rm K Q c_X_held_66 kc ks loc (.long (x.toInt64) :: st) h := rfl
theorem s_X_held_66 {x : Int64} : wps rm K Q c_X_held_66 kc ks loc ([.long x]) h = (kc = rm.cells ∧ Q (some (.long x)) h) := rfl
def T_X_held : List (Nat × List eg_I) := [(15, c_X_held_15), (46, c_X_held_46), (54, c_X_held_54)]
theorem j_X_held_15 {R : Nat → Nat → Nat → eg_Lo → List Value → List eg_E → Prop} {f pc0 : Nat} : eg_run rm R Q T_X_held (f + 1) 15 kc ks loc st h = wps rm (eg_run rm R Q T_X_held f) Q c_X_held_15 kc ks loc st h := rfl
theorem j_X_held_46 {R : Nat → Nat → Nat → eg_Lo → List Value → List eg_E → Prop} {f pc0 : Nat} : eg_run rm R Q T_X_held (f + 1) 46 kc ks loc st h = wps rm (eg_run rm R Q T_X_held f) Q c_X_held_46 kc ks loc st h := rfl
theorem j_X_held_54 {R : Nat → Nat → Nat → eg_Lo → List Value → List eg_E → Prop} {f pc0 : Nat} : eg_run rm R Q T_X_held (f + 1) 54 kc ks loc st h = wps rm (eg_run rm R Q T_X_held f) Q c_X_held_54 kc ks loc st h := rfl
end
theorem q_X_held : (T_X_held.all fun q => eg_seq m_X_held q.1 q.2) = true := by decide +kernel
theorem b_X_held {as : List Value} {h : List eg_E} {Q : Option Value → List eg_E → Prop} (hf : (eg_fl as).length ≤ 3) (hw : wps (eg_rm m_X_held) (eg_run (eg_rm m_X_held) (eg_R m_X_held Q (h.length + 0)) Q T_X_held 5) Q c_X_held_0 0 0 (eg_entry 3 as) [] h) : eg_Runs n_X_held as h Q := eg_begin (d := m_X_held) rfl (by decide) (by decide +kernel) q_X_held hf hw
/-! ===== X_missOf ===== -/
def c_X_missOf_48 : List eg_I := .inl (48, 1, .lreturn, 0, 0) :: []
def c_X_missOf_45 : List eg_I := .inr (45, 1, 232, n_Frac_side, 1, 4, 0, 0) :: c_X_missOf_48
def c_X_missOf_44 : List eg_I := .inl (44, 1, .iload 2, 0, 0) :: c_X_missOf_45
def c_X_missOf_41 : List eg_I := .inl (41, 3, .getfield 228, 2, 2) :: c_X_missOf_44
def c_X_missOf_40 : List eg_I := .inl (40, 1, .aaload, 0, 0) :: c_X_missOf_41
def c_X_missOf_39 : List eg_I := .inl (39, 1, .iload 1, 0, 0) :: c_X_missOf_40
def c_X_missOf_36 : List eg_I := .inl (36, 3, .getfield 23, 11, 2) :: c_X_missOf_39
def c_X_missOf_35 : List eg_I := .inl (35, 1, .aload 0, 0, 0) :: c_X_missOf_36
def c_X_missOf_34 : List eg_I := .inl (34, 1, .lreturn, 0, 0) :: []
def c_X_missOf_31 : List eg_I := .inr (31, 1, 86, n_X_found, 1, 11, 0, 0) :: c_X_missOf_34
def c_X_missOf_28 : List eg_I := .inl (28, 3, .sipush (-1000000000000000006), 158, 0) :: c_X_missOf_31
def c_X_missOf_27 : List eg_I := .inl (27, 1, .aload 0, 0, 0) :: c_X_missOf_28
def c_X_missOf_24 : List eg_I := .inl (24, 3, .ifCond .ne (11), 35, 0) :: c_X_missOf_27
def c_X_missOf_21 : List eg_I := .inr (21, 1, 218, n_Fig_isOne, 0, 2, 0, 0) :: c_X_missOf_24
def c_X_missOf_20 : List eg_I := .inl (20, 1, .aaload, 0, 0) :: c_X_missOf_21
def c_X_missOf_19 : List eg_I := .inl (19, 1, .iload 1, 0, 0) :: c_X_missOf_20
def c_X_missOf_16 : List eg_I := .inl (16, 3, .getfield 23, 11, 2) :: c_X_missOf_19
def c_X_missOf_15 : List eg_I := .inl (15, 1, .aload 0, 0, 0) :: c_X_missOf_16
def c_X_missOf_14 : List eg_I := .inl (14, 1, .lreturn, 0, 0) :: []
def c_X_missOf_11 : List eg_I := .inr (11, 1, 86, n_X_found, 1, 11, 0, 0) :: c_X_missOf_14
def c_X_missOf_8 : List eg_I := .inl (8, 3, .sipush (-1000000000000000001), 84, 0) :: c_X_missOf_11
def c_X_missOf_7 : List eg_I := .inl (7, 1, .aload 0, 0, 0) :: c_X_missOf_8
def c_X_missOf_4 : List eg_I := .inl (4, 3, .ifCond .ne (11), 15, 0) :: c_X_missOf_7
def c_X_missOf_1 : List eg_I := .inr (1, 0, 202, n_X_isFigure, 1, 11, 0, 0) :: c_X_missOf_4
def c_X_missOf_0 : List eg_I := .inl (0, 1, .iload 1, 0, 0) :: c_X_missOf_1
section
variable {rm : Room} {K : Nat → Nat → Nat → eg_Lo → List Value → List eg_E → Prop} {Q : Option Value → List eg_E → Prop} {kc ks : Nat} {loc : eg_Lo} {st : List Value} {h : List eg_E}
theorem s_X_missOf_0 {x : Int32} {l0 : Option Value} {l : eg_Lo} : wps rm K Q c_X_missOf_0 kc ks (l0 :: some (.int x) :: l) (st) h = wps rm K Q c_X_missOf_1 kc ks (l0 :: some (.int x) :: l) (.int x :: st) h := rfl
theorem s_X_missOf_1  {a1 : Value} : wps rm K Q c_X_missOf_1 kc ks loc (a1 :: st) h = (st.length ≤ 4 ∧ eg_Cs n_X_isFigure [a1] h (fun v h9 => wps rm K Q c_X_missOf_4 kc ks loc (v.toList ++ st) h9)) := eg_c0_1
theorem s_X_missOf_4 {x : Int32} : wps rm K Q c_X_missOf_4 kc ks loc (.int x :: st) h = ((¬ x = 0 → K 15 kc ks loc st h) ∧ (x = 0 → wps rm K Q c_X_missOf_7 kc ks loc (st) h)) := rfl
theorem s_X_missOf_7 {x : Nat} {l : eg_Lo} : wps rm K Q c_X_missOf_7 kc ks (some (.ref x) :: l) (st) h = wps rm K Q c_X_missOf_8 kc ks (some (.ref x) :: l) (.ref x :: st) h := rfl
theorem s_X_missOf_8  : wps rm K Q c_X_missOf_8 kc ks loc (st) h = wps rm K Q c_X_missOf_11 kc ks loc (.long (-1000000000000000001) :: st) h := rfl
theorem s_X_missOf_11  {a1 : Value} {x : Nat} : wps rm K Q c_X_missOf_11 kc ks loc (a1 :: .ref (x + 1) :: st) h = (eg_cls h x 11 ∧ st.length ≤ 4 ∧ eg_Cs n_X_found (.ref (x + 1) :: [a1]) h (fun v h9 => wps rm K Q c_X_missOf_14 kc ks loc (v.toList ++ st) h9)) := eg_c1_1
theorem s_X_missOf_14 {x : Int64} : wps rm K Q c_X_missOf_14 kc ks loc ([.long x]) h = (kc = rm.cells ∧ Q (some (.long x)) h) := rfl
theorem s_X_missOf_15 {x : Nat} {l : eg_Lo} : wps rm K Q c_X_missOf_15 kc ks (some (.ref x) :: l) (st) h = wps rm K Q c_X_missOf_16 kc ks (some (.ref x) :: l) (.ref x :: st) h := rfl
theorem s_X_missOf_16 {x : Nat} : wps rm K Q c_X_missOf_16 kc ks loc (.ref (x + 1) :: st) h = eg_gf h x 11 2 (fun v => wps rm K Q c_X_missOf_19 kc ks loc (v :: st) h) := rfl
theorem s_X_missOf_19 {x : Int32} {l0 : Option Value} {l : eg_Lo} : wps rm K Q c_X_missOf_19 kc ks (l0 :: some (.int x) :: l) (st) h = wps rm K Q c_X_missOf_20 kc ks (l0 :: some (.int x) :: l) (.int x :: st) h := rfl
theorem s_X_missOf_20 {x : Nat} {i : Int32} : wps rm K Q c_X_missOf_20 kc ks loc (.int i :: .ref (x + 1) :: st) h = eg_aa h x i (fun v => wps rm K Q c_X_missOf_21 kc ks loc (v :: st) h) := rfl
theorem s_X_missOf_21  {x : Nat} : wps rm K Q c_X_missOf_21 kc ks loc (.ref (x + 1) :: st) h = (eg_cls h x 2 ∧ st.length ≤ 4 ∧ eg_Cs n_Fig_isOne (.ref (x + 1) :: []) h (fun v h9 => wps rm K Q c_X_missOf_24 kc ks loc (v.toList ++ st) h9)) := eg_c1_0
theorem s_X_missOf_24 {x : Int32} : wps rm K Q c_X_missOf_24 kc ks loc (.int x :: st) h = ((¬ x = 0 → K 35 kc ks loc st h) ∧ (x = 0 → wps rm K Q c_X_missOf_27 kc ks loc (st) h)) := rfl
theorem s_X_missOf_27 {x : Nat} {l : eg_Lo} : wps rm K Q c_X_missOf_27 kc ks (some (.ref x) :: l) (st) h = wps rm K Q c_X_missOf_28 kc ks (some (.ref x) :: l) (.ref x :: st) h := rfl
theorem s_X_missOf_28  : wps rm K Q c_X_missOf_28 kc ks loc (st) h = wps rm K Q c_X_missOf_31 kc ks loc (.long (-1000000000000000006) :: st) h := rfl
theorem s_X_missOf_31  {a1 : Value} {x : Nat} : wps rm K Q c_X_missOf_31 kc ks loc (a1 :: .ref (x + 1) :: st) h = (eg_cls h x 11 ∧ st.length ≤ 4 ∧ eg_Cs n_X_found (.ref (x + 1) :: [a1]) h (fun v h9 => wps rm K Q c_X_missOf_34 kc ks loc (v.toList ++ st) h9)) := eg_c1_1
theorem s_X_missOf_34 {x : Int64} : wps rm K Q c_X_missOf_34 kc ks loc ([.long x]) h = (kc = rm.cells ∧ Q (some (.long x)) h) := rfl
theorem s_X_missOf_35 {x : Nat} {l : eg_Lo} : wps rm K Q c_X_missOf_35 kc ks (some (.ref x) :: l) (st) h = wps rm K Q c_X_missOf_36 kc ks (some (.ref x) :: l) (.ref x :: st) h := rfl
theorem s_X_missOf_36 {x : Nat} : wps rm K Q c_X_missOf_36 kc ks loc (.ref (x + 1) :: st) h = eg_gf h x 11 2 (fun v => wps rm K Q c_X_missOf_39 kc ks loc (v :: st) h) := rfl
theorem s_X_missOf_39 {x : Int32} {l0 : Option Value} {l : eg_Lo} : wps rm K Q c_X_missOf_39 kc ks (l0 :: some (.int x) :: l) (st) h = wps rm K Q c_X_missOf_40 kc ks (l0 :: some (.int x) :: l) (.int x :: st) h := rfl
theorem s_X_missOf_40 {x : Nat} {i : Int32} : wps rm K Q c_X_missOf_40 kc ks loc (.int i :: .ref (x + 1) :: st) h = eg_aa h x i (fun v => wps rm K Q c_X_missOf_41 kc ks loc (v :: st) h) := rfl
theorem s_X_missOf_41 {x : Nat} : wps rm K Q c_X_missOf_41 kc ks loc (.ref (x + 1) :: st) h = eg_gf h x 2 2 (fun v => wps rm K Q c_X_missOf_44 kc ks loc (v :: st) h) := rfl
theorem s_X_missOf_44 {x : Int32} {l0 l1 : Option Value} {l : eg_Lo} : wps rm K Q c_X_missOf_44 kc ks (l0 :: l1 :: some (.int x) :: l) (st) h = wps rm K Q c_X_missOf_45 kc ks (l0 :: l1 :: some (.int x) :: l) (.int x :: st) h := rfl
theorem s_X_missOf_45  {a1 : Value} {x : Nat} : wps rm K Q c_X_missOf_45 kc ks loc (a1 :: .ref (x + 1) :: st) h = (eg_cls h x 4 ∧ st.length ≤ 4 ∧ eg_Cs n_Frac_side (.ref (x + 1) :: [a1]) h (fun v h9 => wps rm K Q c_X_missOf_48 kc ks loc (v.toList ++ st) h9)) := eg_c1_1
theorem s_X_missOf_48 {x : Int64} : wps rm K Q c_X_missOf_48 kc ks loc ([.long x]) h = (kc = rm.cells ∧ Q (some (.long x)) h) := rfl
def T_X_missOf : List (Nat × List eg_I) := [(15, c_X_missOf_15), (35, c_X_missOf_35)]
theorem j_X_missOf_15 {R : Nat → Nat → Nat → eg_Lo → List Value → List eg_E → Prop} {f pc0 : Nat} : eg_run rm R Q T_X_missOf (f + 1) 15 kc ks loc st h = wps rm (eg_run rm R Q T_X_missOf f) Q c_X_missOf_15 kc ks loc st h := rfl
theorem j_X_missOf_35 {R : Nat → Nat → Nat → eg_Lo → List Value → List eg_E → Prop} {f pc0 : Nat} : eg_run rm R Q T_X_missOf (f + 1) 35 kc ks loc st h = wps rm (eg_run rm R Q T_X_missOf f) Q c_X_missOf_35 kc ks loc st h := rfl
end
theorem q_X_missOf : (T_X_missOf.all fun q => eg_seq m_X_missOf q.1 q.2) = true := by decide +kernel
theorem b_X_missOf {as : List Value} {h : List eg_E} {Q : Option Value → List eg_E → Prop} (hf : (eg_fl as).length ≤ 3) (hw : wps (eg_rm m_X_missOf) (eg_run (eg_rm m_X_missOf) (eg_R m_X_missOf Q (h.length + 0)) Q T_X_missOf 4) Q c_X_missOf_0 0 0 (eg_entry 3 as) [] h) : eg_Runs n_X_missOf as h Q := eg_begin (d := m_X_missOf) rfl (by decide) (by decide +kernel) q_X_missOf hf hw
/-! ===== X_way ===== -/
def c_X_way_76 : List eg_I := .inl (76, 1, .lreturn, 0, 0) :: []
def c_X_way_75 : List eg_I := .inl (75, 1, .laload, 0, 0) :: c_X_way_76
def c_X_way_74 : List eg_I := .inl (74, 1, .iload 2, 0, 0) :: c_X_way_75
def c_X_way_71 : List eg_I := .inl (71, 3, .getfield 238, 2, 1) :: c_X_way_74
def c_X_way_70 : List eg_I := .inl (70, 1, .aaload, 0, 0) :: c_X_way_71
def c_X_way_69 : List eg_I := .inl (69, 1, .iload 1, 0, 0) :: c_X_way_70
def c_X_way_66 : List eg_I := .inl (66, 3, .getfield 23, 11, 2) :: c_X_way_69
def c_X_way_65 : List eg_I := .inl (65, 1, .aload 0, 0, 0) :: c_X_way_66
def c_X_way_64 : List eg_I := .inl (64, 1, .lreturn, 0, 0) :: []
def c_X_way_61 : List eg_I := .inr (61, 1, 86, n_X_found, 1, 11, 0, 0) :: c_X_way_64
def c_X_way_58 : List eg_I := .inl (58, 3, .sipush (-1000000000000000004), 183, 0) :: c_X_way_61
def c_X_way_57 : List eg_I := .inl (57, 1, .aload 0, 0, 0) :: c_X_way_58
def c_X_way_54 : List eg_I := .inl (54, 3, .ifCond .ne (11), 65, 0) :: c_X_way_57
def c_X_way_51 : List eg_I := .inr (51, 1, 222, n_Fig_isOfKind, 1, 2, 0, 0) :: c_X_way_54
def c_X_way_50 : List eg_I := .inl (50, 1, .iconst (1), 0, 0) :: c_X_way_51
def c_X_way_49 : List eg_I := .inl (49, 1, .aaload, 0, 0) :: c_X_way_50
def c_X_way_48 : List eg_I := .inl (48, 1, .iload 1, 0, 0) :: c_X_way_49
def c_X_way_45 : List eg_I := .inl (45, 3, .getfield 23, 11, 2) :: c_X_way_48
def c_X_way_44 : List eg_I := .inl (44, 1, .aload 0, 0, 0) :: c_X_way_45
def c_X_way_43 : List eg_I := .inl (43, 1, .lreturn, 0, 0) :: []
def c_X_way_40 : List eg_I := .inr (40, 1, 86, n_X_found, 1, 11, 0, 0) :: c_X_way_43
def c_X_way_37 : List eg_I := .inl (37, 3, .sipush (-1000000000000000006), 158, 0) :: c_X_way_40
def c_X_way_36 : List eg_I := .inl (36, 1, .aload 0, 0, 0) :: c_X_way_37
def c_X_way_33 : List eg_I := .inl (33, 3, .ifCond .ne (11), 44, 0) :: c_X_way_36
def c_X_way_30 : List eg_I := .inr (30, 1, 218, n_Fig_isOne, 0, 2, 0, 0) :: c_X_way_33
def c_X_way_29 : List eg_I := .inl (29, 1, .aaload, 0, 0) :: c_X_way_30
def c_X_way_28 : List eg_I := .inl (28, 1, .iload 1, 0, 0) :: c_X_way_29
def c_X_way_25 : List eg_I := .inl (25, 3, .getfield 23, 11, 2) :: c_X_way_28
def c_X_way_24 : List eg_I := .inl (24, 1, .aload 0, 0, 0) :: c_X_way_25
def c_X_way_23 : List eg_I := .inl (23, 1, .lreturn, 0, 0) :: []
def c_X_way_20 : List eg_I := .inr (20, 1, 86, n_X_found, 1, 11, 0, 0) :: c_X_way_23
def c_X_way_17 : List eg_I := .inl (17, 3, .sipush (-1000000000000000001), 84, 0) :: c_X_way_20
def c_X_way_16 : List eg_I := .inl (16, 1, .aload 0, 0, 0) :: c_X_way_17
def c_X_way_13 : List eg_I := .inl (13, 3, .ifCond .ne (11), 24, 0) :: c_X_way_16
def c_X_way_10 : List eg_I := .inr (10, 0, 80, n_X_isWithin, 3, 11, 0, 0) :: c_X_way_13
def c_X_way_9 : List eg_I := .inl (9, 1, .iconst (2), 0, 0) :: c_X_way_10
def c_X_way_8 : List eg_I := .inl (8, 1, .iconst (0), 0, 0) :: c_X_way_9
def c_X_way_7 : List eg_I := .inl (7, 1, .iload 2, 0, 0) :: c_X_way_8
def c_X_way_4 : List eg_I := .inl (4, 3, .ifCond .eq (12), 16, 0) :: c_X_way_7
def c_X_way_1 : List eg_I := .inr (1, 0, 202, n_X_isFigure, 1, 11, 0, 0) :: c_X_way_4
def c_X_way_0 : List eg_I := .inl (0, 1, .iload 1, 0, 0) :: c_X_way_1
section
variable {rm : Room} {K : Nat → Nat → Nat → eg_Lo → List Value → List eg_E → Prop} {Q : Option Value → List eg_E → Prop} {kc ks : Nat} {loc : eg_Lo} {st : List Value} {h : List eg_E}
theorem s_X_way_0 {x : Int32} {l0 : Option Value} {l : eg_Lo} : wps rm K Q c_X_way_0 kc ks (l0 :: some (.int x) :: l) (st) h = wps rm K Q c_X_way_1 kc ks (l0 :: some (.int x) :: l) (.int x :: st) h := rfl
theorem s_X_way_1  {a1 : Value} : wps rm K Q c_X_way_1 kc ks loc (a1 :: st) h = (st.length ≤ 4 ∧ eg_Cs n_X_isFigure [a1] h (fun v h9 => wps rm K Q c_X_way_4 kc ks loc (v.toList ++ st) h9)) := eg_c0_1
theorem s_X_way_4 {x : Int32} : wps rm K Q c_X_way_4 kc ks loc (.int x :: st) h = ((x = 0 → K 16 kc ks loc st h) ∧ (¬ x = 0 → wps rm K Q c_X_way_7 kc ks loc (st) h)) := rfl
theorem s_X_way_7 {x : Int32} {l0 l1 : Option Value} {l : eg_Lo} : wps rm K Q c_X_way_7 kc ks (l0 :: l1 :: some (.int x) :: l) (st) h = wps rm K Q c_X_way_8 kc ks (l0 :: l1 :: some (.int x) :: l) (.int x :: st) h := rfl
theorem s_X_way_8  : wps rm K Q c_X_way_8 kc ks loc (st) h = wps rm K Q c_X_way_9 kc ks loc (.int (0) :: st) h := rfl
theorem s_X_way_9  : wps rm K Q c_X_way_9 kc ks loc (st) h = wps rm K Q c_X_way_10 kc ks loc (.int (2) :: st) h := rfl
theorem s_X_way_10  {a1 : Value} {a2 : Value} {a3 : Value} : wps rm K Q c_X_way_10 kc ks loc (a3 :: a2 :: a1 :: st) h = (st.length ≤ 4 ∧ eg_Cs n_X_isWithin [a1, a2, a3] h (fun v h9 => wps rm K Q c_X_way_13 kc ks loc (v.toList ++ st) h9)) := eg_c0_3
theorem s_X_way_13 {x : Int32} : wps rm K Q c_X_way_13 kc ks loc (.int x :: st) h = ((¬ x = 0 → K 24 kc ks loc st h) ∧ (x = 0 → wps rm K Q c_X_way_16 kc ks loc (st) h)) := rfl
theorem s_X_way_16 {x : Nat} {l : eg_Lo} : wps rm K Q c_X_way_16 kc ks (some (.ref x) :: l) (st) h = wps rm K Q c_X_way_17 kc ks (some (.ref x) :: l) (.ref x :: st) h := rfl
theorem s_X_way_17  : wps rm K Q c_X_way_17 kc ks loc (st) h = wps rm K Q c_X_way_20 kc ks loc (.long (-1000000000000000001) :: st) h := rfl
theorem s_X_way_20  {a1 : Value} {x : Nat} : wps rm K Q c_X_way_20 kc ks loc (a1 :: .ref (x + 1) :: st) h = (eg_cls h x 11 ∧ st.length ≤ 4 ∧ eg_Cs n_X_found (.ref (x + 1) :: [a1]) h (fun v h9 => wps rm K Q c_X_way_23 kc ks loc (v.toList ++ st) h9)) := eg_c1_1
theorem s_X_way_23 {x : Int64} : wps rm K Q c_X_way_23 kc ks loc ([.long x]) h = (kc = rm.cells ∧ Q (some (.long x)) h) := rfl
theorem s_X_way_24 {x : Nat} {l : eg_Lo} : wps rm K Q c_X_way_24 kc ks (some (.ref x) :: l) (st) h = wps rm K Q c_X_way_25 kc ks (some (.ref x) :: l) (.ref x :: st) h := rfl
theorem s_X_way_25 {x : Nat} : wps rm K Q c_X_way_25 kc ks loc (.ref (x + 1) :: st) h = eg_gf h x 11 2 (fun v => wps rm K Q c_X_way_28 kc ks loc (v :: st) h) := rfl
theorem s_X_way_28 {x : Int32} {l0 : Option Value} {l : eg_Lo} : wps rm K Q c_X_way_28 kc ks (l0 :: some (.int x) :: l) (st) h = wps rm K Q c_X_way_29 kc ks (l0 :: some (.int x) :: l) (.int x :: st) h := rfl
theorem s_X_way_29 {x : Nat} {i : Int32} : wps rm K Q c_X_way_29 kc ks loc (.int i :: .ref (x + 1) :: st) h = eg_aa h x i (fun v => wps rm K Q c_X_way_30 kc ks loc (v :: st) h) := rfl
theorem s_X_way_30  {x : Nat} : wps rm K Q c_X_way_30 kc ks loc (.ref (x + 1) :: st) h = (eg_cls h x 2 ∧ st.length ≤ 4 ∧ eg_Cs n_Fig_isOne (.ref (x + 1) :: []) h (fun v h9 => wps rm K Q c_X_way_33 kc ks loc (v.toList ++ st) h9)) := eg_c1_0
theorem s_X_way_33 {x : Int32} : wps rm K Q c_X_way_33 kc ks loc (.int x :: st) h = ((¬ x = 0 → K 44 kc ks loc st h) ∧ (x = 0 → wps rm K Q c_X_way_36 kc ks loc (st) h)) := rfl
theorem s_X_way_36 {x : Nat} {l : eg_Lo} : wps rm K Q c_X_way_36 kc ks (some (.ref x) :: l) (st) h = wps rm K Q c_X_way_37 kc ks (some (.ref x) :: l) (.ref x :: st) h := rfl
theorem s_X_way_37  : wps rm K Q c_X_way_37 kc ks loc (st) h = wps rm K Q c_X_way_40 kc ks loc (.long (-1000000000000000006) :: st) h := rfl
theorem s_X_way_40  {a1 : Value} {x : Nat} : wps rm K Q c_X_way_40 kc ks loc (a1 :: .ref (x + 1) :: st) h = (eg_cls h x 11 ∧ st.length ≤ 4 ∧ eg_Cs n_X_found (.ref (x + 1) :: [a1]) h (fun v h9 => wps rm K Q c_X_way_43 kc ks loc (v.toList ++ st) h9)) := eg_c1_1
theorem s_X_way_43 {x : Int64} : wps rm K Q c_X_way_43 kc ks loc ([.long x]) h = (kc = rm.cells ∧ Q (some (.long x)) h) := rfl
theorem s_X_way_44 {x : Nat} {l : eg_Lo} : wps rm K Q c_X_way_44 kc ks (some (.ref x) :: l) (st) h = wps rm K Q c_X_way_45 kc ks (some (.ref x) :: l) (.ref x :: st) h := rfl
theorem s_X_way_45 {x : Nat} : wps rm K Q c_X_way_45 kc ks loc (.ref (x + 1) :: st) h = eg_gf h x 11 2 (fun v => wps rm K Q c_X_way_48 kc ks loc (v :: st) h) := rfl
theorem s_X_way_48 {x : Int32} {l0 : Option Value} {l : eg_Lo} : wps rm K Q c_X_way_48 kc ks (l0 :: some (.int x) :: l) (st) h = wps rm K Q c_X_way_49 kc ks (l0 :: some (.int x) :: l) (.int x :: st) h := rfl
theorem s_X_way_49 {x : Nat} {i : Int32} : wps rm K Q c_X_way_49 kc ks loc (.int i :: .ref (x + 1) :: st) h = eg_aa h x i (fun v => wps rm K Q c_X_way_50 kc ks loc (v :: st) h) := rfl
theorem s_X_way_50  : wps rm K Q c_X_way_50 kc ks loc (st) h = wps rm K Q c_X_way_51 kc ks loc (.int (1) :: st) h := rfl
theorem s_X_way_51  {a1 : Value} {x : Nat} : wps rm K Q c_X_way_51 kc ks loc (a1 :: .ref (x + 1) :: st) h = (eg_cls h x 2 ∧ st.length ≤ 4 ∧ eg_Cs n_Fig_isOfKind (.ref (x + 1) :: [a1]) h (fun v h9 => wps rm K Q c_X_way_54 kc ks loc (v.toList ++ st) h9)) := eg_c1_1
theorem s_X_way_54 {x : Int32} : wps rm K Q c_X_way_54 kc ks loc (.int x :: st) h = ((¬ x = 0 → K 65 kc ks loc st h) ∧ (x = 0 → wps rm K Q c_X_way_57 kc ks loc (st) h)) := rfl
theorem s_X_way_57 {x : Nat} {l : eg_Lo} : wps rm K Q c_X_way_57 kc ks (some (.ref x) :: l) (st) h = wps rm K Q c_X_way_58 kc ks (some (.ref x) :: l) (.ref x :: st) h := rfl
theorem s_X_way_58  : wps rm K Q c_X_way_58 kc ks loc (st) h = wps rm K Q c_X_way_61 kc ks loc (.long (-1000000000000000004) :: st) h := rfl
theorem s_X_way_61  {a1 : Value} {x : Nat} : wps rm K Q c_X_way_61 kc ks loc (a1 :: .ref (x + 1) :: st) h = (eg_cls h x 11 ∧ st.length ≤ 4 ∧ eg_Cs n_X_found (.ref (x + 1) :: [a1]) h (fun v h9 => wps rm K Q c_X_way_64 kc ks loc (v.toList ++ st) h9)) := eg_c1_1
theorem s_X_way_64 {x : Int64} : wps rm K Q c_X_way_64 kc ks loc ([.long x]) h = (kc = rm.cells ∧ Q (some (.long x)) h) := rfl
theorem s_X_way_65 {x : Nat} {l : eg_Lo} : wps rm K Q c_X_way_65 kc ks (some (.ref x) :: l) (st) h = wps rm K Q c_X_way_66 kc ks (some (.ref x) :: l) (.ref x :: st) h := rfl
theorem s_X_way_66 {x : Nat} : wps rm K Q c_X_way_66 kc ks loc (.ref (x + 1) :: st) h = eg_gf h x 11 2 (fun v => wps rm K Q c_X_way_69 kc ks loc (v :: st) h) := rfl
theorem s_X_way_69 {x : Int32} {l0 : Option Value} {l : eg_Lo} : wps rm K Q c_X_way_69 kc ks (l0 :: some (.int x) :: l) (st) h = wps rm K Q c_X_way_70 kc ks (l0 :: some (.int x) :: l) (.int x :: st) h := rfl
theorem s_X_way_70 {x : Nat} {i : Int32} : wps rm K Q c_X_way_70 kc ks loc (.int i :: .ref (x + 1) :: st) h = eg_aa h x i (fun v => wps rm K Q c_X_way_71 kc ks loc (v :: st) h) := rfl
theorem s_X_way_71 {x : Nat} : wps rm K Q c_X_way_71 kc ks loc (.ref (x + 1) :: st) h = eg_gf h x 2 1 (fun v => wps rm K Q c_X_way_74 kc ks loc (v :: st) h) := rfl
theorem s_X_way_74 {x : Int32} {l0 l1 : Option Value} {l : eg_Lo} : wps rm K Q c_X_way_74 kc ks (l0 :: l1 :: some (.int x) :: l) (st) h = wps rm K Q c_X_way_75 kc ks (l0 :: l1 :: some (.int x) :: l) (.int x :: st) h := rfl
theorem s_X_way_75 {x : Nat} {i : Int32} : wps rm K Q c_X_way_75 kc ks loc (.int i :: .ref (x + 1) :: st) h = eg_la h x i (fun v => wps rm K Q c_X_way_76 kc ks loc (.long v :: st) h) := rfl
theorem s_X_way_76 {x : Int64} : wps rm K Q c_X_way_76 kc ks loc ([.long x]) h = (kc = rm.cells ∧ Q (some (.long x)) h) := rfl
def T_X_way : List (Nat × List eg_I) := [(16, c_X_way_16), (24, c_X_way_24), (44, c_X_way_44), (65, c_X_way_65)]
theorem j_X_way_16 {R : Nat → Nat → Nat → eg_Lo → List Value → List eg_E → Prop} {f pc0 : Nat} : eg_run rm R Q T_X_way (f + 1) 16 kc ks loc st h = wps rm (eg_run rm R Q T_X_way f) Q c_X_way_16 kc ks loc st h := rfl
theorem j_X_way_24 {R : Nat → Nat → Nat → eg_Lo → List Value → List eg_E → Prop} {f pc0 : Nat} : eg_run rm R Q T_X_way (f + 1) 24 kc ks loc st h = wps rm (eg_run rm R Q T_X_way f) Q c_X_way_24 kc ks loc st h := rfl
theorem j_X_way_44 {R : Nat → Nat → Nat → eg_Lo → List Value → List eg_E → Prop} {f pc0 : Nat} : eg_run rm R Q T_X_way (f + 1) 44 kc ks loc st h = wps rm (eg_run rm R Q T_X_way f) Q c_X_way_44 kc ks loc st h := rfl
theorem j_X_way_65 {R : Nat → Nat → Nat → eg_Lo → List Value → List eg_E → Prop} {f pc0 : Nat} : eg_run rm R Q T_X_way (f + 1) 65 kc ks loc st h = wps rm (eg_run rm R Q T_X_way f) Q c_X_way_65 kc ks loc st h := rfl
end
theorem q_X_way : (T_X_way.all fun q => eg_seq m_X_way q.1 q.2) = true := by decide +kernel
theorem b_X_way {as : List Value} {h : List eg_E} {Q : Option Value → List eg_E → Prop} (hf : (eg_fl as).length ≤ 3) (hw : wps (eg_rm m_X_way) (eg_run (eg_rm m_X_way) (eg_R m_X_way Q (h.length + 0)) Q T_X_way 6) Q c_X_way_0 0 0 (eg_entry 3 as) [] h) : eg_Runs n_X_way as h Q := eg_begin (d := m_X_way) rfl (by decide) (by decide +kernel) q_X_way hf hw
/-! ===== X_middle ===== -/
def c_X_middle_85 : List eg_I := .inl (85, 1, .lreturn, 0, 0) :: []
def c_X_middle_82 : List eg_I := .inr (82, 1, 232, n_Frac_side, 1, 4, 0, 0) :: c_X_middle_85
def c_X_middle_81 : List eg_I := .inl (81, 1, .iload 3, 0, 0) :: c_X_middle_82
def c_X_middle_78 : List eg_I := .inl (78, 3, .getfield 245, 2, 3) :: c_X_middle_81
def c_X_middle_77 : List eg_I := .inl (77, 1, .aaload, 0, 0) :: c_X_middle_78
def c_X_middle_76 : List eg_I := .inl (76, 1, .iload 1, 0, 0) :: c_X_middle_77
def c_X_middle_73 : List eg_I := .inl (73, 3, .getfield 23, 11, 2) :: c_X_middle_76
def c_X_middle_72 : List eg_I := .inl (72, 1, .aload 0, 0, 0) :: c_X_middle_73
def c_X_middle_69 : List eg_I := .inl (69, 3, .goto (12), 81, 0) :: []
def c_X_middle_66 : List eg_I := .inl (66, 3, .getfield 242, 2, 4) :: c_X_middle_69
def c_X_middle_65 : List eg_I := .inl (65, 1, .aaload, 0, 0) :: c_X_middle_66
def c_X_middle_64 : List eg_I := .inl (64, 1, .iload 1, 0, 0) :: c_X_middle_65
def c_X_middle_61 : List eg_I := .inl (61, 3, .getfield 23, 11, 2) :: c_X_middle_64
def c_X_middle_60 : List eg_I := .inl (60, 1, .aload 0, 0, 0) :: c_X_middle_61
def c_X_middle_57 : List eg_I := .inl (57, 3, .ifCond .eq (15), 72, 0) :: c_X_middle_60
def c_X_middle_56 : List eg_I := .inl (56, 1, .iload 2, 0, 0) :: c_X_middle_57
def c_X_middle_55 : List eg_I := .inl (55, 1, .lreturn, 0, 0) :: []
def c_X_middle_52 : List eg_I := .inr (52, 1, 86, n_X_found, 1, 11, 0, 0) :: c_X_middle_55
def c_X_middle_49 : List eg_I := .inl (49, 3, .sipush (-1000000000000000004), 183, 0) :: c_X_middle_52
def c_X_middle_48 : List eg_I := .inl (48, 1, .aload 0, 0, 0) :: c_X_middle_49
def c_X_middle_45 : List eg_I := .inl (45, 3, .ifCond .ne (11), 56, 0) :: c_X_middle_48
def c_X_middle_42 : List eg_I := .inr (42, 1, 222, n_Fig_isOfKind, 1, 2, 0, 0) :: c_X_middle_45
def c_X_middle_41 : List eg_I := .inl (41, 1, .iconst (4), 0, 0) :: c_X_middle_42
def c_X_middle_40 : List eg_I := .inl (40, 1, .aaload, 0, 0) :: c_X_middle_41
def c_X_middle_39 : List eg_I := .inl (39, 1, .iload 1, 0, 0) :: c_X_middle_40
def c_X_middle_36 : List eg_I := .inl (36, 3, .getfield 23, 11, 2) :: c_X_middle_39
def c_X_middle_35 : List eg_I := .inl (35, 1, .aload 0, 0, 0) :: c_X_middle_36
def c_X_middle_34 : List eg_I := .inl (34, 1, .lreturn, 0, 0) :: []
def c_X_middle_31 : List eg_I := .inr (31, 1, 86, n_X_found, 1, 11, 0, 0) :: c_X_middle_34
def c_X_middle_28 : List eg_I := .inl (28, 3, .sipush (-1000000000000000006), 158, 0) :: c_X_middle_31
def c_X_middle_27 : List eg_I := .inl (27, 1, .aload 0, 0, 0) :: c_X_middle_28
def c_X_middle_24 : List eg_I := .inl (24, 3, .ifCond .ne (11), 35, 0) :: c_X_middle_27
def c_X_middle_21 : List eg_I := .inr (21, 1, 218, n_Fig_isOne, 0, 2, 0, 0) :: c_X_middle_24
def c_X_middle_20 : List eg_I := .inl (20, 1, .aaload, 0, 0) :: c_X_middle_21
def c_X_middle_19 : List eg_I := .inl (19, 1, .iload 1, 0, 0) :: c_X_middle_20
def c_X_middle_16 : List eg_I := .inl (16, 3, .getfield 23, 11, 2) :: c_X_middle_19
def c_X_middle_15 : List eg_I := .inl (15, 1, .aload 0, 0, 0) :: c_X_middle_16
def c_X_middle_14 : List eg_I := .inl (14, 1, .lreturn, 0, 0) :: []
def c_X_middle_11 : List eg_I := .inr (11, 1, 86, n_X_found, 1, 11, 0, 0) :: c_X_middle_14
def c_X_middle_8 : List eg_I := .inl (8, 3, .sipush (-1000000000000000001), 84, 0) :: c_X_middle_11
def c_X_middle_7 : List eg_I := .inl (7, 1, .aload 0, 0, 0) :: c_X_middle_8
def c_X_middle_4 : List eg_I := .inl (4, 3, .ifCond .ne (11), 15, 0) :: c_X_middle_7
def c_X_middle_1 : List eg_I := .inr (1, 0, 202, n_X_isFigure, 1, 11, 0, 0) :: c_X_middle_4
def c_X_middle_0 : List eg_I := .inl (0, 1, .iload 1, 0, 0) :: c_X_middle_1
section
variable {rm : Room} {K : Nat → Nat → Nat → eg_Lo → List Value → List eg_E → Prop} {Q : Option Value → List eg_E → Prop} {kc ks : Nat} {loc : eg_Lo} {st : List Value} {h : List eg_E}
theorem s_X_middle_0 {x : Int32} {l0 : Option Value} {l : eg_Lo} : wps rm K Q c_X_middle_0 kc ks (l0 :: some (.int x) :: l) (st) h = wps rm K Q c_X_middle_1 kc ks (l0 :: some (.int x) :: l) (.int x :: st) h := rfl
theorem s_X_middle_1  {a1 : Value} : wps rm K Q c_X_middle_1 kc ks loc (a1 :: st) h = (st.length ≤ 4 ∧ eg_Cs n_X_isFigure [a1] h (fun v h9 => wps rm K Q c_X_middle_4 kc ks loc (v.toList ++ st) h9)) := eg_c0_1
theorem s_X_middle_4 {x : Int32} : wps rm K Q c_X_middle_4 kc ks loc (.int x :: st) h = ((¬ x = 0 → K 15 kc ks loc st h) ∧ (x = 0 → wps rm K Q c_X_middle_7 kc ks loc (st) h)) := rfl
theorem s_X_middle_7 {x : Nat} {l : eg_Lo} : wps rm K Q c_X_middle_7 kc ks (some (.ref x) :: l) (st) h = wps rm K Q c_X_middle_8 kc ks (some (.ref x) :: l) (.ref x :: st) h := rfl
theorem s_X_middle_8  : wps rm K Q c_X_middle_8 kc ks loc (st) h = wps rm K Q c_X_middle_11 kc ks loc (.long (-1000000000000000001) :: st) h := rfl
theorem s_X_middle_11  {a1 : Value} {x : Nat} : wps rm K Q c_X_middle_11 kc ks loc (a1 :: .ref (x + 1) :: st) h = (eg_cls h x 11 ∧ st.length ≤ 4 ∧ eg_Cs n_X_found (.ref (x + 1) :: [a1]) h (fun v h9 => wps rm K Q c_X_middle_14 kc ks loc (v.toList ++ st) h9)) := eg_c1_1
theorem s_X_middle_14 {x : Int64} : wps rm K Q c_X_middle_14 kc ks loc ([.long x]) h = (kc = rm.cells ∧ Q (some (.long x)) h) := rfl
theorem s_X_middle_15 {x : Nat} {l : eg_Lo} : wps rm K Q c_X_middle_15 kc ks (some (.ref x) :: l) (st) h = wps rm K Q c_X_middle_16 kc ks (some (.ref x) :: l) (.ref x :: st) h := rfl
theorem s_X_middle_16 {x : Nat} : wps rm K Q c_X_middle_16 kc ks loc (.ref (x + 1) :: st) h = eg_gf h x 11 2 (fun v => wps rm K Q c_X_middle_19 kc ks loc (v :: st) h) := rfl
theorem s_X_middle_19 {x : Int32} {l0 : Option Value} {l : eg_Lo} : wps rm K Q c_X_middle_19 kc ks (l0 :: some (.int x) :: l) (st) h = wps rm K Q c_X_middle_20 kc ks (l0 :: some (.int x) :: l) (.int x :: st) h := rfl
theorem s_X_middle_20 {x : Nat} {i : Int32} : wps rm K Q c_X_middle_20 kc ks loc (.int i :: .ref (x + 1) :: st) h = eg_aa h x i (fun v => wps rm K Q c_X_middle_21 kc ks loc (v :: st) h) := rfl
theorem s_X_middle_21  {x : Nat} : wps rm K Q c_X_middle_21 kc ks loc (.ref (x + 1) :: st) h = (eg_cls h x 2 ∧ st.length ≤ 4 ∧ eg_Cs n_Fig_isOne (.ref (x + 1) :: []) h (fun v h9 => wps rm K Q c_X_middle_24 kc ks loc (v.toList ++ st) h9)) := eg_c1_0
theorem s_X_middle_24 {x : Int32} : wps rm K Q c_X_middle_24 kc ks loc (.int x :: st) h = ((¬ x = 0 → K 35 kc ks loc st h) ∧ (x = 0 → wps rm K Q c_X_middle_27 kc ks loc (st) h)) := rfl
theorem s_X_middle_27 {x : Nat} {l : eg_Lo} : wps rm K Q c_X_middle_27 kc ks (some (.ref x) :: l) (st) h = wps rm K Q c_X_middle_28 kc ks (some (.ref x) :: l) (.ref x :: st) h := rfl
theorem s_X_middle_28  : wps rm K Q c_X_middle_28 kc ks loc (st) h = wps rm K Q c_X_middle_31 kc ks loc (.long (-1000000000000000006) :: st) h := rfl
theorem s_X_middle_31  {a1 : Value} {x : Nat} : wps rm K Q c_X_middle_31 kc ks loc (a1 :: .ref (x + 1) :: st) h = (eg_cls h x 11 ∧ st.length ≤ 4 ∧ eg_Cs n_X_found (.ref (x + 1) :: [a1]) h (fun v h9 => wps rm K Q c_X_middle_34 kc ks loc (v.toList ++ st) h9)) := eg_c1_1
theorem s_X_middle_34 {x : Int64} : wps rm K Q c_X_middle_34 kc ks loc ([.long x]) h = (kc = rm.cells ∧ Q (some (.long x)) h) := rfl
theorem s_X_middle_35 {x : Nat} {l : eg_Lo} : wps rm K Q c_X_middle_35 kc ks (some (.ref x) :: l) (st) h = wps rm K Q c_X_middle_36 kc ks (some (.ref x) :: l) (.ref x :: st) h := rfl
theorem s_X_middle_36 {x : Nat} : wps rm K Q c_X_middle_36 kc ks loc (.ref (x + 1) :: st) h = eg_gf h x 11 2 (fun v => wps rm K Q c_X_middle_39 kc ks loc (v :: st) h) := rfl
theorem s_X_middle_39 {x : Int32} {l0 : Option Value} {l : eg_Lo} : wps rm K Q c_X_middle_39 kc ks (l0 :: some (.int x) :: l) (st) h = wps rm K Q c_X_middle_40 kc ks (l0 :: some (.int x) :: l) (.int x :: st) h := rfl
theorem s_X_middle_40 {x : Nat} {i : Int32} : wps rm K Q c_X_middle_40 kc ks loc (.int i :: .ref (x + 1) :: st) h = eg_aa h x i (fun v => wps rm K Q c_X_middle_41 kc ks loc (v :: st) h) := rfl
theorem s_X_middle_41  : wps rm K Q c_X_middle_41 kc ks loc (st) h = wps rm K Q c_X_middle_42 kc ks loc (.int (4) :: st) h := rfl
theorem s_X_middle_42  {a1 : Value} {x : Nat} : wps rm K Q c_X_middle_42 kc ks loc (a1 :: .ref (x + 1) :: st) h = (eg_cls h x 2 ∧ st.length ≤ 4 ∧ eg_Cs n_Fig_isOfKind (.ref (x + 1) :: [a1]) h (fun v h9 => wps rm K Q c_X_middle_45 kc ks loc (v.toList ++ st) h9)) := eg_c1_1
theorem s_X_middle_45 {x : Int32} : wps rm K Q c_X_middle_45 kc ks loc (.int x :: st) h = ((¬ x = 0 → K 56 kc ks loc st h) ∧ (x = 0 → wps rm K Q c_X_middle_48 kc ks loc (st) h)) := rfl
theorem s_X_middle_48 {x : Nat} {l : eg_Lo} : wps rm K Q c_X_middle_48 kc ks (some (.ref x) :: l) (st) h = wps rm K Q c_X_middle_49 kc ks (some (.ref x) :: l) (.ref x :: st) h := rfl
theorem s_X_middle_49  : wps rm K Q c_X_middle_49 kc ks loc (st) h = wps rm K Q c_X_middle_52 kc ks loc (.long (-1000000000000000004) :: st) h := rfl
theorem s_X_middle_52  {a1 : Value} {x : Nat} : wps rm K Q c_X_middle_52 kc ks loc (a1 :: .ref (x + 1) :: st) h = (eg_cls h x 11 ∧ st.length ≤ 4 ∧ eg_Cs n_X_found (.ref (x + 1) :: [a1]) h (fun v h9 => wps rm K Q c_X_middle_55 kc ks loc (v.toList ++ st) h9)) := eg_c1_1
theorem s_X_middle_55 {x : Int64} : wps rm K Q c_X_middle_55 kc ks loc ([.long x]) h = (kc = rm.cells ∧ Q (some (.long x)) h) := rfl
theorem s_X_middle_56 {x : Int32} {l0 l1 : Option Value} {l : eg_Lo} : wps rm K Q c_X_middle_56 kc ks (l0 :: l1 :: some (.int x) :: l) (st) h = wps rm K Q c_X_middle_57 kc ks (l0 :: l1 :: some (.int x) :: l) (.int x :: st) h := rfl
theorem s_X_middle_57 {x : Int32} : wps rm K Q c_X_middle_57 kc ks loc (.int x :: st) h = ((x = 0 → K 72 kc ks loc st h) ∧ (¬ x = 0 → wps rm K Q c_X_middle_60 kc ks loc (st) h)) := rfl
theorem s_X_middle_60 {x : Nat} {l : eg_Lo} : wps rm K Q c_X_middle_60 kc ks (some (.ref x) :: l) (st) h = wps rm K Q c_X_middle_61 kc ks (some (.ref x) :: l) (.ref x :: st) h := rfl
theorem s_X_middle_61 {x : Nat} : wps rm K Q c_X_middle_61 kc ks loc (.ref (x + 1) :: st) h = eg_gf h x 11 2 (fun v => wps rm K Q c_X_middle_64 kc ks loc (v :: st) h) := rfl
theorem s_X_middle_64 {x : Int32} {l0 : Option Value} {l : eg_Lo} : wps rm K Q c_X_middle_64 kc ks (l0 :: some (.int x) :: l) (st) h = wps rm K Q c_X_middle_65 kc ks (l0 :: some (.int x) :: l) (.int x :: st) h := rfl
theorem s_X_middle_65 {x : Nat} {i : Int32} : wps rm K Q c_X_middle_65 kc ks loc (.int i :: .ref (x + 1) :: st) h = eg_aa h x i (fun v => wps rm K Q c_X_middle_66 kc ks loc (v :: st) h) := rfl
theorem s_X_middle_66 {x : Nat} : wps rm K Q c_X_middle_66 kc ks loc (.ref (x + 1) :: st) h = eg_gf h x 2 4 (fun v => wps rm K Q c_X_middle_69 kc ks loc (v :: st) h) := rfl
theorem s_X_middle_69  : wps rm K Q c_X_middle_69 kc ks loc (st) h = K 81 kc ks loc st h := rfl
theorem s_X_middle_72 {x : Nat} {l : eg_Lo} : wps rm K Q c_X_middle_72 kc ks (some (.ref x) :: l) (st) h = wps rm K Q c_X_middle_73 kc ks (some (.ref x) :: l) (.ref x :: st) h := rfl
theorem s_X_middle_73 {x : Nat} : wps rm K Q c_X_middle_73 kc ks loc (.ref (x + 1) :: st) h = eg_gf h x 11 2 (fun v => wps rm K Q c_X_middle_76 kc ks loc (v :: st) h) := rfl
theorem s_X_middle_76 {x : Int32} {l0 : Option Value} {l : eg_Lo} : wps rm K Q c_X_middle_76 kc ks (l0 :: some (.int x) :: l) (st) h = wps rm K Q c_X_middle_77 kc ks (l0 :: some (.int x) :: l) (.int x :: st) h := rfl
theorem s_X_middle_77 {x : Nat} {i : Int32} : wps rm K Q c_X_middle_77 kc ks loc (.int i :: .ref (x + 1) :: st) h = eg_aa h x i (fun v => wps rm K Q c_X_middle_78 kc ks loc (v :: st) h) := rfl
theorem s_X_middle_78 {x : Nat} : wps rm K Q c_X_middle_78 kc ks loc (.ref (x + 1) :: st) h = eg_gf h x 2 3 (fun v => wps rm K Q c_X_middle_81 kc ks loc (v :: st) h) := rfl
theorem s_X_middle_81 {x : Int32} {l0 l1 l2 : Option Value} {l : eg_Lo} : wps rm K Q c_X_middle_81 kc ks (l0 :: l1 :: l2 :: some (.int x) :: l) (st) h = wps rm K Q c_X_middle_82 kc ks (l0 :: l1 :: l2 :: some (.int x) :: l) (.int x :: st) h := rfl
theorem s_X_middle_82  {a1 : Value} {x : Nat} : wps rm K Q c_X_middle_82 kc ks loc (a1 :: .ref (x + 1) :: st) h = (eg_cls h x 4 ∧ st.length ≤ 4 ∧ eg_Cs n_Frac_side (.ref (x + 1) :: [a1]) h (fun v h9 => wps rm K Q c_X_middle_85 kc ks loc (v.toList ++ st) h9)) := eg_c1_1
theorem s_X_middle_85 {x : Int64} : wps rm K Q c_X_middle_85 kc ks loc ([.long x]) h = (kc = rm.cells ∧ Q (some (.long x)) h) := rfl
def T_X_middle : List (Nat × List eg_I) := [(15, c_X_middle_15), (35, c_X_middle_35), (56, c_X_middle_56), (72, c_X_middle_72), (81, c_X_middle_81)]
theorem j_X_middle_15 {R : Nat → Nat → Nat → eg_Lo → List Value → List eg_E → Prop} {f pc0 : Nat} : eg_run rm R Q T_X_middle (f + 1) 15 kc ks loc st h = wps rm (eg_run rm R Q T_X_middle f) Q c_X_middle_15 kc ks loc st h := rfl
theorem j_X_middle_35 {R : Nat → Nat → Nat → eg_Lo → List Value → List eg_E → Prop} {f pc0 : Nat} : eg_run rm R Q T_X_middle (f + 1) 35 kc ks loc st h = wps rm (eg_run rm R Q T_X_middle f) Q c_X_middle_35 kc ks loc st h := rfl
theorem j_X_middle_56 {R : Nat → Nat → Nat → eg_Lo → List Value → List eg_E → Prop} {f pc0 : Nat} : eg_run rm R Q T_X_middle (f + 1) 56 kc ks loc st h = wps rm (eg_run rm R Q T_X_middle f) Q c_X_middle_56 kc ks loc st h := rfl
theorem j_X_middle_72 {R : Nat → Nat → Nat → eg_Lo → List Value → List eg_E → Prop} {f pc0 : Nat} : eg_run rm R Q T_X_middle (f + 1) 72 kc ks loc st h = wps rm (eg_run rm R Q T_X_middle f) Q c_X_middle_72 kc ks loc st h := rfl
theorem j_X_middle_81 {R : Nat → Nat → Nat → eg_Lo → List Value → List eg_E → Prop} {f pc0 : Nat} : eg_run rm R Q T_X_middle (f + 1) 81 kc ks loc st h = wps rm (eg_run rm R Q T_X_middle f) Q c_X_middle_81 kc ks loc st h := rfl
end
theorem q_X_middle : (T_X_middle.all fun q => eg_seq m_X_middle q.1 q.2) = true := by decide +kernel
theorem b_X_middle {as : List Value} {h : List eg_E} {Q : Option Value → List eg_E → Prop} (hf : (eg_fl as).length ≤ 4) (hw : wps (eg_rm m_X_middle) (eg_run (eg_rm m_X_middle) (eg_R m_X_middle Q (h.length + 0)) Q T_X_middle 7) Q c_X_middle_0 0 0 (eg_entry 4 as) [] h) : eg_Runs n_X_middle as h Q := eg_begin (d := m_X_middle) rfl (by decide) (by decide +kernel) q_X_middle hf hw
/-! ===== X_ask ===== -/
def c_X_ask_64 : List eg_I := .inl (64, 1, .lreturn, 0, 0) :: []
def c_X_ask_63 : List eg_I := .inl (63, 1, .sipush (0), 0, 0) :: c_X_ask_64
def c_X_ask_60 : List eg_I := .inl (60, 3, .goto (4), 64, 0) :: []
def c_X_ask_59 : List eg_I := .inl (59, 1, .sipush (1), 0, 0) :: c_X_ask_60
def c_X_ask_56 : List eg_I := .inl (56, 3, .ifCond .eq (7), 63, 0) :: c_X_ask_59
def c_X_ask_53 : List eg_I := .inr (53, 1, 248, n_Fig_keeps, 1, 2, 0, 0) :: c_X_ask_56
def c_X_ask_52 : List eg_I := .inl (52, 1, .iload 2, 0, 0) :: c_X_ask_53
def c_X_ask_51 : List eg_I := .inl (51, 1, .aaload, 0, 0) :: c_X_ask_52
def c_X_ask_50 : List eg_I := .inl (50, 1, .iload 1, 0, 0) :: c_X_ask_51
def c_X_ask_47 : List eg_I := .inl (47, 3, .getfield 23, 11, 2) :: c_X_ask_50
def c_X_ask_46 : List eg_I := .inl (46, 1, .aload 0, 0, 0) :: c_X_ask_47
def c_X_ask_45 : List eg_I := .inl (45, 1, .lreturn, 0, 0) :: []
def c_X_ask_42 : List eg_I := .inr (42, 1, 86, n_X_found, 1, 11, 0, 0) :: c_X_ask_45
def c_X_ask_39 : List eg_I := .inl (39, 3, .sipush (-1000000000000000006), 158, 0) :: c_X_ask_42
def c_X_ask_38 : List eg_I := .inl (38, 1, .aload 0, 0, 0) :: c_X_ask_39
def c_X_ask_35 : List eg_I := .inl (35, 3, .ifCond .ne (11), 46, 0) :: c_X_ask_38
def c_X_ask_32 : List eg_I := .inr (32, 1, 218, n_Fig_isOne, 0, 2, 0, 0) :: c_X_ask_35
def c_X_ask_31 : List eg_I := .inl (31, 1, .aaload, 0, 0) :: c_X_ask_32
def c_X_ask_30 : List eg_I := .inl (30, 1, .iload 1, 0, 0) :: c_X_ask_31
def c_X_ask_27 : List eg_I := .inl (27, 3, .getfield 23, 11, 2) :: c_X_ask_30
def c_X_ask_26 : List eg_I := .inl (26, 1, .aload 0, 0, 0) :: c_X_ask_27
def c_X_ask_25 : List eg_I := .inl (25, 1, .lreturn, 0, 0) :: []
def c_X_ask_22 : List eg_I := .inr (22, 1, 86, n_X_found, 1, 11, 0, 0) :: c_X_ask_25
def c_X_ask_19 : List eg_I := .inl (19, 3, .sipush (-1000000000000000001), 84, 0) :: c_X_ask_22
def c_X_ask_18 : List eg_I := .inl (18, 1, .aload 0, 0, 0) :: c_X_ask_19
def c_X_ask_15 : List eg_I := .inl (15, 3, .ifCond .ne (11), 26, 0) :: c_X_ask_18
def c_X_ask_12 : List eg_I := .inr (12, 0, 80, n_X_isWithin, 3, 11, 0, 0) :: c_X_ask_15
def c_X_ask_9 : List eg_I := .inl (9, 3, .iconst (2000), 0, 0) :: c_X_ask_12
def c_X_ask_8 : List eg_I := .inl (8, 1, .iconst (0), 0, 0) :: c_X_ask_9
def c_X_ask_7 : List eg_I := .inl (7, 1, .iload 2, 0, 0) :: c_X_ask_8
def c_X_ask_4 : List eg_I := .inl (4, 3, .ifCond .eq (14), 18, 0) :: c_X_ask_7
def c_X_ask_1 : List eg_I := .inr (1, 0, 202, n_X_isFigure, 1, 11, 0, 0) :: c_X_ask_4
def c_X_ask_0 : List eg_I := .inl (0, 1, .iload 1, 0, 0) :: c_X_ask_1
section
variable {rm : Room} {K : Nat → Nat → Nat → eg_Lo → List Value → List eg_E → Prop} {Q : Option Value → List eg_E → Prop} {kc ks : Nat} {loc : eg_Lo} {st : List Value} {h : List eg_E}
theorem s_X_ask_0 {x : Int32} {l0 : Option Value} {l : eg_Lo} : wps rm K Q c_X_ask_0 kc ks (l0 :: some (.int x) :: l) (st) h = wps rm K Q c_X_ask_1 kc ks (l0 :: some (.int x) :: l) (.int x :: st) h := rfl
theorem s_X_ask_1  {a1 : Value} : wps rm K Q c_X_ask_1 kc ks loc (a1 :: st) h = (st.length ≤ 4 ∧ eg_Cs n_X_isFigure [a1] h (fun v h9 => wps rm K Q c_X_ask_4 kc ks loc (v.toList ++ st) h9)) := eg_c0_1
theorem s_X_ask_4 {x : Int32} : wps rm K Q c_X_ask_4 kc ks loc (.int x :: st) h = ((x = 0 → K 18 kc ks loc st h) ∧ (¬ x = 0 → wps rm K Q c_X_ask_7 kc ks loc (st) h)) := rfl
theorem s_X_ask_7 {x : Int32} {l0 l1 : Option Value} {l : eg_Lo} : wps rm K Q c_X_ask_7 kc ks (l0 :: l1 :: some (.int x) :: l) (st) h = wps rm K Q c_X_ask_8 kc ks (l0 :: l1 :: some (.int x) :: l) (.int x :: st) h := rfl
theorem s_X_ask_8  : wps rm K Q c_X_ask_8 kc ks loc (st) h = wps rm K Q c_X_ask_9 kc ks loc (.int (0) :: st) h := rfl
theorem s_X_ask_9  : wps rm K Q c_X_ask_9 kc ks loc (st) h = wps rm K Q c_X_ask_12 kc ks loc (.int (2000) :: st) h := rfl
theorem s_X_ask_12  {a1 : Value} {a2 : Value} {a3 : Value} : wps rm K Q c_X_ask_12 kc ks loc (a3 :: a2 :: a1 :: st) h = (st.length ≤ 4 ∧ eg_Cs n_X_isWithin [a1, a2, a3] h (fun v h9 => wps rm K Q c_X_ask_15 kc ks loc (v.toList ++ st) h9)) := eg_c0_3
theorem s_X_ask_15 {x : Int32} : wps rm K Q c_X_ask_15 kc ks loc (.int x :: st) h = ((¬ x = 0 → K 26 kc ks loc st h) ∧ (x = 0 → wps rm K Q c_X_ask_18 kc ks loc (st) h)) := rfl
theorem s_X_ask_18 {x : Nat} {l : eg_Lo} : wps rm K Q c_X_ask_18 kc ks (some (.ref x) :: l) (st) h = wps rm K Q c_X_ask_19 kc ks (some (.ref x) :: l) (.ref x :: st) h := rfl
theorem s_X_ask_19  : wps rm K Q c_X_ask_19 kc ks loc (st) h = wps rm K Q c_X_ask_22 kc ks loc (.long (-1000000000000000001) :: st) h := rfl
theorem s_X_ask_22  {a1 : Value} {x : Nat} : wps rm K Q c_X_ask_22 kc ks loc (a1 :: .ref (x + 1) :: st) h = (eg_cls h x 11 ∧ st.length ≤ 4 ∧ eg_Cs n_X_found (.ref (x + 1) :: [a1]) h (fun v h9 => wps rm K Q c_X_ask_25 kc ks loc (v.toList ++ st) h9)) := eg_c1_1
theorem s_X_ask_25 {x : Int64} : wps rm K Q c_X_ask_25 kc ks loc ([.long x]) h = (kc = rm.cells ∧ Q (some (.long x)) h) := rfl
theorem s_X_ask_26 {x : Nat} {l : eg_Lo} : wps rm K Q c_X_ask_26 kc ks (some (.ref x) :: l) (st) h = wps rm K Q c_X_ask_27 kc ks (some (.ref x) :: l) (.ref x :: st) h := rfl
theorem s_X_ask_27 {x : Nat} : wps rm K Q c_X_ask_27 kc ks loc (.ref (x + 1) :: st) h = eg_gf h x 11 2 (fun v => wps rm K Q c_X_ask_30 kc ks loc (v :: st) h) := rfl
theorem s_X_ask_30 {x : Int32} {l0 : Option Value} {l : eg_Lo} : wps rm K Q c_X_ask_30 kc ks (l0 :: some (.int x) :: l) (st) h = wps rm K Q c_X_ask_31 kc ks (l0 :: some (.int x) :: l) (.int x :: st) h := rfl
theorem s_X_ask_31 {x : Nat} {i : Int32} : wps rm K Q c_X_ask_31 kc ks loc (.int i :: .ref (x + 1) :: st) h = eg_aa h x i (fun v => wps rm K Q c_X_ask_32 kc ks loc (v :: st) h) := rfl
theorem s_X_ask_32  {x : Nat} : wps rm K Q c_X_ask_32 kc ks loc (.ref (x + 1) :: st) h = (eg_cls h x 2 ∧ st.length ≤ 4 ∧ eg_Cs n_Fig_isOne (.ref (x + 1) :: []) h (fun v h9 => wps rm K Q c_X_ask_35 kc ks loc (v.toList ++ st) h9)) := eg_c1_0
theorem s_X_ask_35 {x : Int32} : wps rm K Q c_X_ask_35 kc ks loc (.int x :: st) h = ((¬ x = 0 → K 46 kc ks loc st h) ∧ (x = 0 → wps rm K Q c_X_ask_38 kc ks loc (st) h)) := rfl
theorem s_X_ask_38 {x : Nat} {l : eg_Lo} : wps rm K Q c_X_ask_38 kc ks (some (.ref x) :: l) (st) h = wps rm K Q c_X_ask_39 kc ks (some (.ref x) :: l) (.ref x :: st) h := rfl
theorem s_X_ask_39  : wps rm K Q c_X_ask_39 kc ks loc (st) h = wps rm K Q c_X_ask_42 kc ks loc (.long (-1000000000000000006) :: st) h := rfl
theorem s_X_ask_42  {a1 : Value} {x : Nat} : wps rm K Q c_X_ask_42 kc ks loc (a1 :: .ref (x + 1) :: st) h = (eg_cls h x 11 ∧ st.length ≤ 4 ∧ eg_Cs n_X_found (.ref (x + 1) :: [a1]) h (fun v h9 => wps rm K Q c_X_ask_45 kc ks loc (v.toList ++ st) h9)) := eg_c1_1
theorem s_X_ask_45 {x : Int64} : wps rm K Q c_X_ask_45 kc ks loc ([.long x]) h = (kc = rm.cells ∧ Q (some (.long x)) h) := rfl
theorem s_X_ask_46 {x : Nat} {l : eg_Lo} : wps rm K Q c_X_ask_46 kc ks (some (.ref x) :: l) (st) h = wps rm K Q c_X_ask_47 kc ks (some (.ref x) :: l) (.ref x :: st) h := rfl
theorem s_X_ask_47 {x : Nat} : wps rm K Q c_X_ask_47 kc ks loc (.ref (x + 1) :: st) h = eg_gf h x 11 2 (fun v => wps rm K Q c_X_ask_50 kc ks loc (v :: st) h) := rfl
theorem s_X_ask_50 {x : Int32} {l0 : Option Value} {l : eg_Lo} : wps rm K Q c_X_ask_50 kc ks (l0 :: some (.int x) :: l) (st) h = wps rm K Q c_X_ask_51 kc ks (l0 :: some (.int x) :: l) (.int x :: st) h := rfl
theorem s_X_ask_51 {x : Nat} {i : Int32} : wps rm K Q c_X_ask_51 kc ks loc (.int i :: .ref (x + 1) :: st) h = eg_aa h x i (fun v => wps rm K Q c_X_ask_52 kc ks loc (v :: st) h) := rfl
theorem s_X_ask_52 {x : Int32} {l0 l1 : Option Value} {l : eg_Lo} : wps rm K Q c_X_ask_52 kc ks (l0 :: l1 :: some (.int x) :: l) (st) h = wps rm K Q c_X_ask_53 kc ks (l0 :: l1 :: some (.int x) :: l) (.int x :: st) h := rfl
theorem s_X_ask_53  {a1 : Value} {x : Nat} : wps rm K Q c_X_ask_53 kc ks loc (a1 :: .ref (x + 1) :: st) h = (eg_cls h x 2 ∧ st.length ≤ 4 ∧ eg_Cs n_Fig_keeps (.ref (x + 1) :: [a1]) h (fun v h9 => wps rm K Q c_X_ask_56 kc ks loc (v.toList ++ st) h9)) := eg_c1_1
theorem s_X_ask_56 {x : Int32} : wps rm K Q c_X_ask_56 kc ks loc (.int x :: st) h = ((x = 0 → K 63 kc ks loc st h) ∧ (¬ x = 0 → wps rm K Q c_X_ask_59 kc ks loc (st) h)) := rfl
theorem s_X_ask_59  : wps rm K Q c_X_ask_59 kc ks loc (st) h = wps rm K Q c_X_ask_60 kc ks loc (.long (1) :: st) h := rfl
theorem s_X_ask_60  : wps rm K Q c_X_ask_60 kc ks loc (st) h = K 64 kc ks loc st h := rfl
theorem s_X_ask_63  : wps rm K Q c_X_ask_63 kc ks loc (st) h = wps rm K Q c_X_ask_64 kc ks loc (.long (0) :: st) h := rfl
theorem s_X_ask_64 {x : Int64} : wps rm K Q c_X_ask_64 kc ks loc ([.long x]) h = (kc = rm.cells ∧ Q (some (.long x)) h) := rfl
def T_X_ask : List (Nat × List eg_I) := [(18, c_X_ask_18), (26, c_X_ask_26), (46, c_X_ask_46), (63, c_X_ask_63), (64, c_X_ask_64)]
theorem j_X_ask_18 {R : Nat → Nat → Nat → eg_Lo → List Value → List eg_E → Prop} {f pc0 : Nat} : eg_run rm R Q T_X_ask (f + 1) 18 kc ks loc st h = wps rm (eg_run rm R Q T_X_ask f) Q c_X_ask_18 kc ks loc st h := rfl
theorem j_X_ask_26 {R : Nat → Nat → Nat → eg_Lo → List Value → List eg_E → Prop} {f pc0 : Nat} : eg_run rm R Q T_X_ask (f + 1) 26 kc ks loc st h = wps rm (eg_run rm R Q T_X_ask f) Q c_X_ask_26 kc ks loc st h := rfl
theorem j_X_ask_46 {R : Nat → Nat → Nat → eg_Lo → List Value → List eg_E → Prop} {f pc0 : Nat} : eg_run rm R Q T_X_ask (f + 1) 46 kc ks loc st h = wps rm (eg_run rm R Q T_X_ask f) Q c_X_ask_46 kc ks loc st h := rfl
theorem j_X_ask_63 {R : Nat → Nat → Nat → eg_Lo → List Value → List eg_E → Prop} {f pc0 : Nat} : eg_run rm R Q T_X_ask (f + 1) 63 kc ks loc st h = wps rm (eg_run rm R Q T_X_ask f) Q c_X_ask_63 kc ks loc st h := rfl
theorem j_X_ask_64 {R : Nat → Nat → Nat → eg_Lo → List Value → List eg_E → Prop} {f pc0 : Nat} : eg_run rm R Q T_X_ask (f + 1) 64 kc ks loc st h = wps rm (eg_run rm R Q T_X_ask f) Q c_X_ask_64 kc ks loc st h := rfl
end
theorem q_X_ask : (T_X_ask.all fun q => eg_seq m_X_ask q.1 q.2) = true := by decide +kernel
theorem b_X_ask {as : List Value} {h : List eg_E} {Q : Option Value → List eg_E → Prop} (hf : (eg_fl as).length ≤ 3) (hw : wps (eg_rm m_X_ask) (eg_run (eg_rm m_X_ask) (eg_R m_X_ask Q (h.length + 0)) Q T_X_ask 7) Q c_X_ask_0 0 0 (eg_entry 3 as) [] h) : eg_Runs n_X_ask as h Q := eg_begin (d := m_X_ask) rfl (by decide) (by decide +kernel) q_X_ask hf hw
/-! ===== X_level ===== -/
def c_X_level_45 : List eg_I := .inl (45, 1, .lreturn, 0, 0) :: []
def c_X_level_44 : List eg_I := .inl (44, 1, .i2l, 0, 0) :: c_X_level_45
def c_X_level_41 : List eg_I := .inr (41, 1, 251, n_Fig_leastKept, 0, 2, 0, 0) :: c_X_level_44
def c_X_level_40 : List eg_I := .inl (40, 1, .aaload, 0, 0) :: c_X_level_41
def c_X_level_39 : List eg_I := .inl (39, 1, .iload 1, 0, 0) :: c_X_level_40
def c_X_level_36 : List eg_I := .inl (36, 3, .getfield 23, 11, 2) :: c_X_level_39
def c_X_level_35 : List eg_I := .inl (35, 1, .aload 0, 0, 0) :: c_X_level_36
def c_X_level_34 : List eg_I := .inl (34, 1, .lreturn, 0, 0) :: []
def c_X_level_31 : List eg_I := .inr (31, 1, 86, n_X_found, 1, 11, 0, 0) :: c_X_level_34
def c_X_level_28 : List eg_I := .inl (28, 3, .sipush (-1000000000000000006), 158, 0) :: c_X_level_31
def c_X_level_27 : List eg_I := .inl (27, 1, .aload 0, 0, 0) :: c_X_level_28
def c_X_level_24 : List eg_I := .inl (24, 3, .ifCond .ne (11), 35, 0) :: c_X_level_27
def c_X_level_21 : List eg_I := .inr (21, 1, 218, n_Fig_isOne, 0, 2, 0, 0) :: c_X_level_24
def c_X_level_20 : List eg_I := .inl (20, 1, .aaload, 0, 0) :: c_X_level_21
def c_X_level_19 : List eg_I := .inl (19, 1, .iload 1, 0, 0) :: c_X_level_20
def c_X_level_16 : List eg_I := .inl (16, 3, .getfield 23, 11, 2) :: c_X_level_19
def c_X_level_15 : List eg_I := .inl (15, 1, .aload 0, 0, 0) :: c_X_level_16
def c_X_level_14 : List eg_I := .inl (14, 1, .lreturn, 0, 0) :: []
def c_X_level_11 : List eg_I := .inr (11, 1, 86, n_X_found, 1, 11, 0, 0) :: c_X_level_14
def c_X_level_8 : List eg_I := .inl (8, 3, .sipush (-1000000000000000001), 84, 0) :: c_X_level_11
def c_X_level_7 : List eg_I := .inl (7, 1, .aload 0, 0, 0) :: c_X_level_8
def c_X_level_4 : List eg_I := .inl (4, 3, .ifCond .ne (11), 15, 0) :: c_X_level_7
def c_X_level_1 : List eg_I := .inr (1, 0, 202, n_X_isFigure, 1, 11, 0, 0) :: c_X_level_4
def c_X_level_0 : List eg_I := .inl (0, 1, .iload 1, 0, 0) :: c_X_level_1
section
variable {rm : Room} {K : Nat → Nat → Nat → eg_Lo → List Value → List eg_E → Prop} {Q : Option Value → List eg_E → Prop} {kc ks : Nat} {loc : eg_Lo} {st : List Value} {h : List eg_E}
theorem s_X_level_0 {x : Int32} {l0 : Option Value} {l : eg_Lo} : wps rm K Q c_X_level_0 kc ks (l0 :: some (.int x) :: l) (st) h = wps rm K Q c_X_level_1 kc ks (l0 :: some (.int x) :: l) (.int x :: st) h := rfl
theorem s_X_level_1  {a1 : Value} : wps rm K Q c_X_level_1 kc ks loc (a1 :: st) h = (st.length ≤ 4 ∧ eg_Cs n_X_isFigure [a1] h (fun v h9 => wps rm K Q c_X_level_4 kc ks loc (v.toList ++ st) h9)) := eg_c0_1
theorem s_X_level_4 {x : Int32} : wps rm K Q c_X_level_4 kc ks loc (.int x :: st) h = ((¬ x = 0 → K 15 kc ks loc st h) ∧ (x = 0 → wps rm K Q c_X_level_7 kc ks loc (st) h)) := rfl
theorem s_X_level_7 {x : Nat} {l : eg_Lo} : wps rm K Q c_X_level_7 kc ks (some (.ref x) :: l) (st) h = wps rm K Q c_X_level_8 kc ks (some (.ref x) :: l) (.ref x :: st) h := rfl
theorem s_X_level_8  : wps rm K Q c_X_level_8 kc ks loc (st) h = wps rm K Q c_X_level_11 kc ks loc (.long (-1000000000000000001) :: st) h := rfl
theorem s_X_level_11  {a1 : Value} {x : Nat} : wps rm K Q c_X_level_11 kc ks loc (a1 :: .ref (x + 1) :: st) h = (eg_cls h x 11 ∧ st.length ≤ 4 ∧ eg_Cs n_X_found (.ref (x + 1) :: [a1]) h (fun v h9 => wps rm K Q c_X_level_14 kc ks loc (v.toList ++ st) h9)) := eg_c1_1
theorem s_X_level_14 {x : Int64} : wps rm K Q c_X_level_14 kc ks loc ([.long x]) h = (kc = rm.cells ∧ Q (some (.long x)) h) := rfl
theorem s_X_level_15 {x : Nat} {l : eg_Lo} : wps rm K Q c_X_level_15 kc ks (some (.ref x) :: l) (st) h = wps rm K Q c_X_level_16 kc ks (some (.ref x) :: l) (.ref x :: st) h := rfl
theorem s_X_level_16 {x : Nat} : wps rm K Q c_X_level_16 kc ks loc (.ref (x + 1) :: st) h = eg_gf h x 11 2 (fun v => wps rm K Q c_X_level_19 kc ks loc (v :: st) h) := rfl
theorem s_X_level_19 {x : Int32} {l0 : Option Value} {l : eg_Lo} : wps rm K Q c_X_level_19 kc ks (l0 :: some (.int x) :: l) (st) h = wps rm K Q c_X_level_20 kc ks (l0 :: some (.int x) :: l) (.int x :: st) h := rfl
theorem s_X_level_20 {x : Nat} {i : Int32} : wps rm K Q c_X_level_20 kc ks loc (.int i :: .ref (x + 1) :: st) h = eg_aa h x i (fun v => wps rm K Q c_X_level_21 kc ks loc (v :: st) h) := rfl
theorem s_X_level_21  {x : Nat} : wps rm K Q c_X_level_21 kc ks loc (.ref (x + 1) :: st) h = (eg_cls h x 2 ∧ st.length ≤ 4 ∧ eg_Cs n_Fig_isOne (.ref (x + 1) :: []) h (fun v h9 => wps rm K Q c_X_level_24 kc ks loc (v.toList ++ st) h9)) := eg_c1_0
theorem s_X_level_24 {x : Int32} : wps rm K Q c_X_level_24 kc ks loc (.int x :: st) h = ((¬ x = 0 → K 35 kc ks loc st h) ∧ (x = 0 → wps rm K Q c_X_level_27 kc ks loc (st) h)) := rfl
theorem s_X_level_27 {x : Nat} {l : eg_Lo} : wps rm K Q c_X_level_27 kc ks (some (.ref x) :: l) (st) h = wps rm K Q c_X_level_28 kc ks (some (.ref x) :: l) (.ref x :: st) h := rfl
theorem s_X_level_28  : wps rm K Q c_X_level_28 kc ks loc (st) h = wps rm K Q c_X_level_31 kc ks loc (.long (-1000000000000000006) :: st) h := rfl
theorem s_X_level_31  {a1 : Value} {x : Nat} : wps rm K Q c_X_level_31 kc ks loc (a1 :: .ref (x + 1) :: st) h = (eg_cls h x 11 ∧ st.length ≤ 4 ∧ eg_Cs n_X_found (.ref (x + 1) :: [a1]) h (fun v h9 => wps rm K Q c_X_level_34 kc ks loc (v.toList ++ st) h9)) := eg_c1_1
theorem s_X_level_34 {x : Int64} : wps rm K Q c_X_level_34 kc ks loc ([.long x]) h = (kc = rm.cells ∧ Q (some (.long x)) h) := rfl
theorem s_X_level_35 {x : Nat} {l : eg_Lo} : wps rm K Q c_X_level_35 kc ks (some (.ref x) :: l) (st) h = wps rm K Q c_X_level_36 kc ks (some (.ref x) :: l) (.ref x :: st) h := rfl
theorem s_X_level_36 {x : Nat} : wps rm K Q c_X_level_36 kc ks loc (.ref (x + 1) :: st) h = eg_gf h x 11 2 (fun v => wps rm K Q c_X_level_39 kc ks loc (v :: st) h) := rfl
theorem s_X_level_39 {x : Int32} {l0 : Option Value} {l : eg_Lo} : wps rm K Q c_X_level_39 kc ks (l0 :: some (.int x) :: l) (st) h = wps rm K Q c_X_level_40 kc ks (l0 :: some (.int x) :: l) (.int x :: st) h := rfl
theorem s_X_level_40 {x : Nat} {i : Int32} : wps rm K Q c_X_level_40 kc ks loc (.int i :: .ref (x + 1) :: st) h = eg_aa h x i (fun v => wps rm K Q c_X_level_41 kc ks loc (v :: st) h) := rfl
theorem s_X_level_41  {x : Nat} : wps rm K Q c_X_level_41 kc ks loc (.ref (x + 1) :: st) h = (eg_cls h x 2 ∧ st.length ≤ 4 ∧ eg_Cs n_Fig_leastKept (.ref (x + 1) :: []) h (fun v h9 => wps rm K Q c_X_level_44 kc ks loc (v.toList ++ st) h9)) := eg_c1_0
theorem s_X_level_44 {x : Int32} : wps rm K Q c_X_level_44 kc ks loc (.int x :: st) h = wps rm K Q c_X_level_45 kc ks loc (.long (x.toInt64) :: st) h := rfl
theorem s_X_level_45 {x : Int64} : wps rm K Q c_X_level_45 kc ks loc ([.long x]) h = (kc = rm.cells ∧ Q (some (.long x)) h) := rfl
def T_X_level : List (Nat × List eg_I) := [(15, c_X_level_15), (35, c_X_level_35)]
theorem j_X_level_15 {R : Nat → Nat → Nat → eg_Lo → List Value → List eg_E → Prop} {f pc0 : Nat} : eg_run rm R Q T_X_level (f + 1) 15 kc ks loc st h = wps rm (eg_run rm R Q T_X_level f) Q c_X_level_15 kc ks loc st h := rfl
theorem j_X_level_35 {R : Nat → Nat → Nat → eg_Lo → List Value → List eg_E → Prop} {f pc0 : Nat} : eg_run rm R Q T_X_level (f + 1) 35 kc ks loc st h = wps rm (eg_run rm R Q T_X_level f) Q c_X_level_35 kc ks loc st h := rfl
end
theorem q_X_level : (T_X_level.all fun q => eg_seq m_X_level q.1 q.2) = true := by decide +kernel
theorem b_X_level {as : List Value} {h : List eg_E} {Q : Option Value → List eg_E → Prop} (hf : (eg_fl as).length ≤ 2) (hw : wps (eg_rm m_X_level) (eg_run (eg_rm m_X_level) (eg_R m_X_level Q (h.length + 0)) Q T_X_level 4) Q c_X_level_0 0 0 (eg_entry 2 as) [] h) : eg_Runs n_X_level as h Q := eg_begin (d := m_X_level) rfl (by decide) (by decide +kernel) q_X_level hf hw
/-! ===== X_more ===== -/
def c_X_more_150 : List eg_I := .inl (150, 1, .lreturn, 0, 0) :: []
def c_X_more_149 : List eg_I := .inl (149, 1, .sipush (0), 0, 0) :: c_X_more_150
def c_X_more_146 : List eg_I := .inl (146, 3, .goto (4), 150, 0) :: []
def c_X_more_145 : List eg_I := .inl (145, 1, .sipush (1), 0, 0) :: c_X_more_146
def c_X_more_142 : List eg_I := .inl (142, 3, .if_icmp .gt (7), 149, 0) :: c_X_more_145
def c_X_more_141 : List eg_I := .inl (141, 1, .iadd, 0, 0) :: c_X_more_142
def c_X_more_139 : List eg_I := .inl (139, 2, .iload 5, 0, 0) :: c_X_more_141
def c_X_more_138 : List eg_I := .inl (138, 1, .iload 2, 0, 0) :: c_X_more_139
def c_X_more_135 : List eg_I := .inr (135, 1, 251, n_Fig_leastKept, 0, 2, 0, 0) :: c_X_more_138
def c_X_more_134 : List eg_I := .inl (134, 1, .aaload, 0, 0) :: c_X_more_135
def c_X_more_133 : List eg_I := .inl (133, 1, .iload 1, 0, 0) :: c_X_more_134
def c_X_more_130 : List eg_I := .inl (130, 3, .getfield 23, 11, 2) :: c_X_more_133
def c_X_more_129 : List eg_I := .inl (129, 1, .aload 0, 0, 0) :: c_X_more_130
def c_X_more_127 : List eg_I := .inl (127, 2, .istore 5, 0, 0) :: c_X_more_129
def c_X_more_124 : List eg_I := .inr (124, 0, 254, n_Math_max, 2, 13, 0, 0) :: c_X_more_127
def c_X_more_123 : List eg_I := .inl (123, 1, .isub, 0, 0) :: c_X_more_124
def c_X_more_120 : List eg_I := .inr (120, 1, 251, n_Fig_leastKept, 0, 2, 0, 0) :: c_X_more_123
def c_X_more_119 : List eg_I := .inl (119, 1, .aaload, 0, 0) :: c_X_more_120
def c_X_more_118 : List eg_I := .inl (118, 1, .iload 3, 0, 0) :: c_X_more_119
def c_X_more_115 : List eg_I := .inl (115, 3, .getfield 23, 11, 2) :: c_X_more_118
def c_X_more_114 : List eg_I := .inl (114, 1, .aload 0, 0, 0) :: c_X_more_115
def c_X_more_112 : List eg_I := .inl (112, 2, .iload 4, 0, 0) :: c_X_more_114
def c_X_more_111 : List eg_I := .inl (111, 1, .iconst (0), 0, 0) :: c_X_more_112
def c_X_more_110 : List eg_I := .inl (110, 1, .lreturn, 0, 0) :: []
def c_X_more_107 : List eg_I := .inr (107, 1, 86, n_X_found, 1, 11, 0, 0) :: c_X_more_110
def c_X_more_104 : List eg_I := .inl (104, 3, .sipush (-1000000000000000004), 183, 0) :: c_X_more_107
def c_X_more_103 : List eg_I := .inl (103, 1, .aload 0, 0, 0) :: c_X_more_104
def c_X_more_100 : List eg_I := .inl (100, 3, .ifCond .ne (11), 111, 0) :: c_X_more_103
def c_X_more_97 : List eg_I := .inr (97, 1, 222, n_Fig_isOfKind, 1, 2, 0, 0) :: c_X_more_100
def c_X_more_96 : List eg_I := .inl (96, 1, .iconst (4), 0, 0) :: c_X_more_97
def c_X_more_95 : List eg_I := .inl (95, 1, .aaload, 0, 0) :: c_X_more_96
def c_X_more_94 : List eg_I := .inl (94, 1, .iload 3, 0, 0) :: c_X_more_95
def c_X_more_91 : List eg_I := .inl (91, 3, .getfield 23, 11, 2) :: c_X_more_94
def c_X_more_90 : List eg_I := .inl (90, 1, .aload 0, 0, 0) :: c_X_more_91
def c_X_more_87 : List eg_I := .inl (87, 3, .ifCond .eq (16), 103, 0) :: c_X_more_90
def c_X_more_84 : List eg_I := .inr (84, 1, 222, n_Fig_isOfKind, 1, 2, 0, 0) :: c_X_more_87
def c_X_more_83 : List eg_I := .inl (83, 1, .iconst (1), 0, 0) :: c_X_more_84
def c_X_more_82 : List eg_I := .inl (82, 1, .aaload, 0, 0) :: c_X_more_83
def c_X_more_81 : List eg_I := .inl (81, 1, .iload 1, 0, 0) :: c_X_more_82
def c_X_more_78 : List eg_I := .inl (78, 3, .getfield 23, 11, 2) :: c_X_more_81
def c_X_more_77 : List eg_I := .inl (77, 1, .aload 0, 0, 0) :: c_X_more_78
def c_X_more_76 : List eg_I := .inl (76, 1, .lreturn, 0, 0) :: []
def c_X_more_73 : List eg_I := .inr (73, 1, 86, n_X_found, 1, 11, 0, 0) :: c_X_more_76
def c_X_more_70 : List eg_I := .inl (70, 3, .sipush (-1000000000000000006), 158, 0) :: c_X_more_73
def c_X_more_69 : List eg_I := .inl (69, 1, .aload 0, 0, 0) :: c_X_more_70
def c_X_more_66 : List eg_I := .inl (66, 3, .ifCond .ne (11), 77, 0) :: c_X_more_69
def c_X_more_63 : List eg_I := .inr (63, 1, 218, n_Fig_isOne, 0, 2, 0, 0) :: c_X_more_66
def c_X_more_62 : List eg_I := .inl (62, 1, .aaload, 0, 0) :: c_X_more_63
def c_X_more_61 : List eg_I := .inl (61, 1, .iload 3, 0, 0) :: c_X_more_62
def c_X_more_58 : List eg_I := .inl (58, 3, .getfield 23, 11, 2) :: c_X_more_61
def c_X_more_57 : List eg_I := .inl (57, 1, .aload 0, 0, 0) :: c_X_more_58
def c_X_more_54 : List eg_I := .inl (54, 3, .ifCond .eq (15), 69, 0) :: c_X_more_57
def c_X_more_51 : List eg_I := .inr (51, 1, 218, n_Fig_isOne, 0, 2, 0, 0) :: c_X_more_54
def c_X_more_50 : List eg_I := .inl (50, 1, .aaload, 0, 0) :: c_X_more_51
def c_X_more_49 : List eg_I := .inl (49, 1, .iload 1, 0, 0) :: c_X_more_50
def c_X_more_46 : List eg_I := .inl (46, 3, .getfield 23, 11, 2) :: c_X_more_49
def c_X_more_45 : List eg_I := .inl (45, 1, .aload 0, 0, 0) :: c_X_more_46
def c_X_more_44 : List eg_I := .inl (44, 1, .lreturn, 0, 0) :: []
def c_X_more_41 : List eg_I := .inr (41, 1, 86, n_X_found, 1, 11, 0, 0) :: c_X_more_44
def c_X_more_38 : List eg_I := .inl (38, 3, .sipush (-1000000000000000001), 84, 0) :: c_X_more_41
def c_X_more_37 : List eg_I := .inl (37, 1, .aload 0, 0, 0) :: c_X_more_38
def c_X_more_34 : List eg_I := .inl (34, 3, .ifCond .ne (11), 45, 0) :: c_X_more_37
def c_X_more_31 : List eg_I := .inr (31, 0, 80, n_X_isWithin, 3, 11, 0, 0) :: c_X_more_34
def c_X_more_28 : List eg_I := .inl (28, 3, .iconst (2000), 0, 0) :: c_X_more_31
def c_X_more_27 : List eg_I := .inl (27, 1, .iconst (0), 0, 0) :: c_X_more_28
def c_X_more_25 : List eg_I := .inl (25, 2, .iload 4, 0, 0) :: c_X_more_27
def c_X_more_22 : List eg_I := .inl (22, 3, .ifCond .eq (15), 37, 0) :: c_X_more_25
def c_X_more_19 : List eg_I := .inr (19, 0, 80, n_X_isWithin, 3, 11, 0, 0) :: c_X_more_22
def c_X_more_16 : List eg_I := .inl (16, 3, .iconst (2000), 0, 0) :: c_X_more_19
def c_X_more_15 : List eg_I := .inl (15, 1, .iconst (0), 0, 0) :: c_X_more_16
def c_X_more_14 : List eg_I := .inl (14, 1, .iload 2, 0, 0) :: c_X_more_15
def c_X_more_11 : List eg_I := .inl (11, 3, .ifCond .eq (26), 37, 0) :: c_X_more_14
def c_X_more_8 : List eg_I := .inr (8, 0, 202, n_X_isFigure, 1, 11, 0, 0) :: c_X_more_11
def c_X_more_7 : List eg_I := .inl (7, 1, .iload 3, 0, 0) :: c_X_more_8
def c_X_more_4 : List eg_I := .inl (4, 3, .ifCond .eq (33), 37, 0) :: c_X_more_7
def c_X_more_1 : List eg_I := .inr (1, 0, 202, n_X_isFigure, 1, 11, 0, 0) :: c_X_more_4
def c_X_more_0 : List eg_I := .inl (0, 1, .iload 1, 0, 0) :: c_X_more_1
section
variable {rm : Room} {K : Nat → Nat → Nat → eg_Lo → List Value → List eg_E → Prop} {Q : Option Value → List eg_E → Prop} {kc ks : Nat} {loc : eg_Lo} {st : List Value} {h : List eg_E}
theorem s_X_more_0 {x : Int32} {l0 : Option Value} {l : eg_Lo} : wps rm K Q c_X_more_0 kc ks (l0 :: some (.int x) :: l) (st) h = wps rm K Q c_X_more_1 kc ks (l0 :: some (.int x) :: l) (.int x :: st) h := rfl
theorem s_X_more_1  {a1 : Value} : wps rm K Q c_X_more_1 kc ks loc (a1 :: st) h = (st.length ≤ 4 ∧ eg_Cs n_X_isFigure [a1] h (fun v h9 => wps rm K Q c_X_more_4 kc ks loc (v.toList ++ st) h9)) := eg_c0_1
theorem s_X_more_4 {x : Int32} : wps rm K Q c_X_more_4 kc ks loc (.int x :: st) h = ((x = 0 → K 37 kc ks loc st h) ∧ (¬ x = 0 → wps rm K Q c_X_more_7 kc ks loc (st) h)) := rfl
theorem s_X_more_7 {x : Int32} {l0 l1 l2 : Option Value} {l : eg_Lo} : wps rm K Q c_X_more_7 kc ks (l0 :: l1 :: l2 :: some (.int x) :: l) (st) h = wps rm K Q c_X_more_8 kc ks (l0 :: l1 :: l2 :: some (.int x) :: l) (.int x :: st) h := rfl
theorem s_X_more_8  {a1 : Value} : wps rm K Q c_X_more_8 kc ks loc (a1 :: st) h = (st.length ≤ 4 ∧ eg_Cs n_X_isFigure [a1] h (fun v h9 => wps rm K Q c_X_more_11 kc ks loc (v.toList ++ st) h9)) := eg_c0_1
theorem s_X_more_11 {x : Int32} : wps rm K Q c_X_more_11 kc ks loc (.int x :: st) h = ((x = 0 → K 37 kc ks loc st h) ∧ (¬ x = 0 → wps rm K Q c_X_more_14 kc ks loc (st) h)) := rfl
theorem s_X_more_14 {x : Int32} {l0 l1 : Option Value} {l : eg_Lo} : wps rm K Q c_X_more_14 kc ks (l0 :: l1 :: some (.int x) :: l) (st) h = wps rm K Q c_X_more_15 kc ks (l0 :: l1 :: some (.int x) :: l) (.int x :: st) h := rfl
theorem s_X_more_15  : wps rm K Q c_X_more_15 kc ks loc (st) h = wps rm K Q c_X_more_16 kc ks loc (.int (0) :: st) h := rfl
theorem s_X_more_16  : wps rm K Q c_X_more_16 kc ks loc (st) h = wps rm K Q c_X_more_19 kc ks loc (.int (2000) :: st) h := rfl
theorem s_X_more_19  {a1 : Value} {a2 : Value} {a3 : Value} : wps rm K Q c_X_more_19 kc ks loc (a3 :: a2 :: a1 :: st) h = (st.length ≤ 4 ∧ eg_Cs n_X_isWithin [a1, a2, a3] h (fun v h9 => wps rm K Q c_X_more_22 kc ks loc (v.toList ++ st) h9)) := eg_c0_3
theorem s_X_more_22 {x : Int32} : wps rm K Q c_X_more_22 kc ks loc (.int x :: st) h = ((x = 0 → K 37 kc ks loc st h) ∧ (¬ x = 0 → wps rm K Q c_X_more_25 kc ks loc (st) h)) := rfl
theorem s_X_more_25 {x : Int32} {l0 l1 l2 l3 : Option Value} {l : eg_Lo} : wps rm K Q c_X_more_25 kc ks (l0 :: l1 :: l2 :: l3 :: some (.int x) :: l) (st) h = wps rm K Q c_X_more_27 kc ks (l0 :: l1 :: l2 :: l3 :: some (.int x) :: l) (.int x :: st) h := rfl
theorem s_X_more_27  : wps rm K Q c_X_more_27 kc ks loc (st) h = wps rm K Q c_X_more_28 kc ks loc (.int (0) :: st) h := rfl
theorem s_X_more_28  : wps rm K Q c_X_more_28 kc ks loc (st) h = wps rm K Q c_X_more_31 kc ks loc (.int (2000) :: st) h := rfl
theorem s_X_more_31  {a1 : Value} {a2 : Value} {a3 : Value} : wps rm K Q c_X_more_31 kc ks loc (a3 :: a2 :: a1 :: st) h = (st.length ≤ 4 ∧ eg_Cs n_X_isWithin [a1, a2, a3] h (fun v h9 => wps rm K Q c_X_more_34 kc ks loc (v.toList ++ st) h9)) := eg_c0_3
theorem s_X_more_34 {x : Int32} : wps rm K Q c_X_more_34 kc ks loc (.int x :: st) h = ((¬ x = 0 → K 45 kc ks loc st h) ∧ (x = 0 → wps rm K Q c_X_more_37 kc ks loc (st) h)) := rfl
theorem s_X_more_37 {x : Nat} {l : eg_Lo} : wps rm K Q c_X_more_37 kc ks (some (.ref x) :: l) (st) h = wps rm K Q c_X_more_38 kc ks (some (.ref x) :: l) (.ref x :: st) h := rfl
theorem s_X_more_38  : wps rm K Q c_X_more_38 kc ks loc (st) h = wps rm K Q c_X_more_41 kc ks loc (.long (-1000000000000000001) :: st) h := rfl
theorem s_X_more_41  {a1 : Value} {x : Nat} : wps rm K Q c_X_more_41 kc ks loc (a1 :: .ref (x + 1) :: st) h = (eg_cls h x 11 ∧ st.length ≤ 4 ∧ eg_Cs n_X_found (.ref (x + 1) :: [a1]) h (fun v h9 => wps rm K Q c_X_more_44 kc ks loc (v.toList ++ st) h9)) := eg_c1_1
theorem s_X_more_44 {x : Int64} : wps rm K Q c_X_more_44 kc ks loc ([.long x]) h = (kc = rm.cells ∧ Q (some (.long x)) h) := rfl
theorem s_X_more_45 {x : Nat} {l : eg_Lo} : wps rm K Q c_X_more_45 kc ks (some (.ref x) :: l) (st) h = wps rm K Q c_X_more_46 kc ks (some (.ref x) :: l) (.ref x :: st) h := rfl
theorem s_X_more_46 {x : Nat} : wps rm K Q c_X_more_46 kc ks loc (.ref (x + 1) :: st) h = eg_gf h x 11 2 (fun v => wps rm K Q c_X_more_49 kc ks loc (v :: st) h) := rfl
theorem s_X_more_49 {x : Int32} {l0 : Option Value} {l : eg_Lo} : wps rm K Q c_X_more_49 kc ks (l0 :: some (.int x) :: l) (st) h = wps rm K Q c_X_more_50 kc ks (l0 :: some (.int x) :: l) (.int x :: st) h := rfl
theorem s_X_more_50 {x : Nat} {i : Int32} : wps rm K Q c_X_more_50 kc ks loc (.int i :: .ref (x + 1) :: st) h = eg_aa h x i (fun v => wps rm K Q c_X_more_51 kc ks loc (v :: st) h) := rfl
theorem s_X_more_51  {x : Nat} : wps rm K Q c_X_more_51 kc ks loc (.ref (x + 1) :: st) h = (eg_cls h x 2 ∧ st.length ≤ 4 ∧ eg_Cs n_Fig_isOne (.ref (x + 1) :: []) h (fun v h9 => wps rm K Q c_X_more_54 kc ks loc (v.toList ++ st) h9)) := eg_c1_0
theorem s_X_more_54 {x : Int32} : wps rm K Q c_X_more_54 kc ks loc (.int x :: st) h = ((x = 0 → K 69 kc ks loc st h) ∧ (¬ x = 0 → wps rm K Q c_X_more_57 kc ks loc (st) h)) := rfl
theorem s_X_more_57 {x : Nat} {l : eg_Lo} : wps rm K Q c_X_more_57 kc ks (some (.ref x) :: l) (st) h = wps rm K Q c_X_more_58 kc ks (some (.ref x) :: l) (.ref x :: st) h := rfl
theorem s_X_more_58 {x : Nat} : wps rm K Q c_X_more_58 kc ks loc (.ref (x + 1) :: st) h = eg_gf h x 11 2 (fun v => wps rm K Q c_X_more_61 kc ks loc (v :: st) h) := rfl
theorem s_X_more_61 {x : Int32} {l0 l1 l2 : Option Value} {l : eg_Lo} : wps rm K Q c_X_more_61 kc ks (l0 :: l1 :: l2 :: some (.int x) :: l) (st) h = wps rm K Q c_X_more_62 kc ks (l0 :: l1 :: l2 :: some (.int x) :: l) (.int x :: st) h := rfl
theorem s_X_more_62 {x : Nat} {i : Int32} : wps rm K Q c_X_more_62 kc ks loc (.int i :: .ref (x + 1) :: st) h = eg_aa h x i (fun v => wps rm K Q c_X_more_63 kc ks loc (v :: st) h) := rfl
theorem s_X_more_63  {x : Nat} : wps rm K Q c_X_more_63 kc ks loc (.ref (x + 1) :: st) h = (eg_cls h x 2 ∧ st.length ≤ 4 ∧ eg_Cs n_Fig_isOne (.ref (x + 1) :: []) h (fun v h9 => wps rm K Q c_X_more_66 kc ks loc (v.toList ++ st) h9)) := eg_c1_0
theorem s_X_more_66 {x : Int32} : wps rm K Q c_X_more_66 kc ks loc (.int x :: st) h = ((¬ x = 0 → K 77 kc ks loc st h) ∧ (x = 0 → wps rm K Q c_X_more_69 kc ks loc (st) h)) := rfl
theorem s_X_more_69 {x : Nat} {l : eg_Lo} : wps rm K Q c_X_more_69 kc ks (some (.ref x) :: l) (st) h = wps rm K Q c_X_more_70 kc ks (some (.ref x) :: l) (.ref x :: st) h := rfl
theorem s_X_more_70  : wps rm K Q c_X_more_70 kc ks loc (st) h = wps rm K Q c_X_more_73 kc ks loc (.long (-1000000000000000006) :: st) h := rfl
theorem s_X_more_73  {a1 : Value} {x : Nat} : wps rm K Q c_X_more_73 kc ks loc (a1 :: .ref (x + 1) :: st) h = (eg_cls h x 11 ∧ st.length ≤ 4 ∧ eg_Cs n_X_found (.ref (x + 1) :: [a1]) h (fun v h9 => wps rm K Q c_X_more_76 kc ks loc (v.toList ++ st) h9)) := eg_c1_1
theorem s_X_more_76 {x : Int64} : wps rm K Q c_X_more_76 kc ks loc ([.long x]) h = (kc = rm.cells ∧ Q (some (.long x)) h) := rfl
theorem s_X_more_77 {x : Nat} {l : eg_Lo} : wps rm K Q c_X_more_77 kc ks (some (.ref x) :: l) (st) h = wps rm K Q c_X_more_78 kc ks (some (.ref x) :: l) (.ref x :: st) h := rfl
theorem s_X_more_78 {x : Nat} : wps rm K Q c_X_more_78 kc ks loc (.ref (x + 1) :: st) h = eg_gf h x 11 2 (fun v => wps rm K Q c_X_more_81 kc ks loc (v :: st) h) := rfl
theorem s_X_more_81 {x : Int32} {l0 : Option Value} {l : eg_Lo} : wps rm K Q c_X_more_81 kc ks (l0 :: some (.int x) :: l) (st) h = wps rm K Q c_X_more_82 kc ks (l0 :: some (.int x) :: l) (.int x :: st) h := rfl
theorem s_X_more_82 {x : Nat} {i : Int32} : wps rm K Q c_X_more_82 kc ks loc (.int i :: .ref (x + 1) :: st) h = eg_aa h x i (fun v => wps rm K Q c_X_more_83 kc ks loc (v :: st) h) := rfl
theorem s_X_more_83  : wps rm K Q c_X_more_83 kc ks loc (st) h = wps rm K Q c_X_more_84 kc ks loc (.int (1) :: st) h := rfl
theorem s_X_more_84  {a1 : Value} {x : Nat} : wps rm K Q c_X_more_84 kc ks loc (a1 :: .ref (x + 1) :: st) h = (eg_cls h x 2 ∧ st.length ≤ 4 ∧ eg_Cs n_Fig_isOfKind (.ref (x + 1) :: [a1]) h (fun v h9 => wps rm K Q c_X_more_87 kc ks loc (v.toList ++ st) h9)) := eg_c1_1
theorem s_X_more_87 {x : Int32} : wps rm K Q c_X_more_87 kc ks loc (.int x :: st) h = ((x = 0 → K 103 kc ks loc st h) ∧ (¬ x = 0 → wps rm K Q c_X_more_90 kc ks loc (st) h)) := rfl
theorem s_X_more_90 {x : Nat} {l : eg_Lo} : wps rm K Q c_X_more_90 kc ks (some (.ref x) :: l) (st) h = wps rm K Q c_X_more_91 kc ks (some (.ref x) :: l) (.ref x :: st) h := rfl
theorem s_X_more_91 {x : Nat} : wps rm K Q c_X_more_91 kc ks loc (.ref (x + 1) :: st) h = eg_gf h x 11 2 (fun v => wps rm K Q c_X_more_94 kc ks loc (v :: st) h) := rfl
theorem s_X_more_94 {x : Int32} {l0 l1 l2 : Option Value} {l : eg_Lo} : wps rm K Q c_X_more_94 kc ks (l0 :: l1 :: l2 :: some (.int x) :: l) (st) h = wps rm K Q c_X_more_95 kc ks (l0 :: l1 :: l2 :: some (.int x) :: l) (.int x :: st) h := rfl
theorem s_X_more_95 {x : Nat} {i : Int32} : wps rm K Q c_X_more_95 kc ks loc (.int i :: .ref (x + 1) :: st) h = eg_aa h x i (fun v => wps rm K Q c_X_more_96 kc ks loc (v :: st) h) := rfl
theorem s_X_more_96  : wps rm K Q c_X_more_96 kc ks loc (st) h = wps rm K Q c_X_more_97 kc ks loc (.int (4) :: st) h := rfl
theorem s_X_more_97  {a1 : Value} {x : Nat} : wps rm K Q c_X_more_97 kc ks loc (a1 :: .ref (x + 1) :: st) h = (eg_cls h x 2 ∧ st.length ≤ 4 ∧ eg_Cs n_Fig_isOfKind (.ref (x + 1) :: [a1]) h (fun v h9 => wps rm K Q c_X_more_100 kc ks loc (v.toList ++ st) h9)) := eg_c1_1
theorem s_X_more_100 {x : Int32} : wps rm K Q c_X_more_100 kc ks loc (.int x :: st) h = ((¬ x = 0 → K 111 kc ks loc st h) ∧ (x = 0 → wps rm K Q c_X_more_103 kc ks loc (st) h)) := rfl
theorem s_X_more_103 {x : Nat} {l : eg_Lo} : wps rm K Q c_X_more_103 kc ks (some (.ref x) :: l) (st) h = wps rm K Q c_X_more_104 kc ks (some (.ref x) :: l) (.ref x :: st) h := rfl
theorem s_X_more_104  : wps rm K Q c_X_more_104 kc ks loc (st) h = wps rm K Q c_X_more_107 kc ks loc (.long (-1000000000000000004) :: st) h := rfl
theorem s_X_more_107  {a1 : Value} {x : Nat} : wps rm K Q c_X_more_107 kc ks loc (a1 :: .ref (x + 1) :: st) h = (eg_cls h x 11 ∧ st.length ≤ 4 ∧ eg_Cs n_X_found (.ref (x + 1) :: [a1]) h (fun v h9 => wps rm K Q c_X_more_110 kc ks loc (v.toList ++ st) h9)) := eg_c1_1
theorem s_X_more_110 {x : Int64} : wps rm K Q c_X_more_110 kc ks loc ([.long x]) h = (kc = rm.cells ∧ Q (some (.long x)) h) := rfl
theorem s_X_more_111  : wps rm K Q c_X_more_111 kc ks loc (st) h = wps rm K Q c_X_more_112 kc ks loc (.int (0) :: st) h := rfl
theorem s_X_more_112 {x : Int32} {l0 l1 l2 l3 : Option Value} {l : eg_Lo} : wps rm K Q c_X_more_112 kc ks (l0 :: l1 :: l2 :: l3 :: some (.int x) :: l) (st) h = wps rm K Q c_X_more_114 kc ks (l0 :: l1 :: l2 :: l3 :: some (.int x) :: l) (.int x :: st) h := rfl
theorem s_X_more_114 {x : Nat} {l : eg_Lo} : wps rm K Q c_X_more_114 kc ks (some (.ref x) :: l) (st) h = wps rm K Q c_X_more_115 kc ks (some (.ref x) :: l) (.ref x :: st) h := rfl
theorem s_X_more_115 {x : Nat} : wps rm K Q c_X_more_115 kc ks loc (.ref (x + 1) :: st) h = eg_gf h x 11 2 (fun v => wps rm K Q c_X_more_118 kc ks loc (v :: st) h) := rfl
theorem s_X_more_118 {x : Int32} {l0 l1 l2 : Option Value} {l : eg_Lo} : wps rm K Q c_X_more_118 kc ks (l0 :: l1 :: l2 :: some (.int x) :: l) (st) h = wps rm K Q c_X_more_119 kc ks (l0 :: l1 :: l2 :: some (.int x) :: l) (.int x :: st) h := rfl
theorem s_X_more_119 {x : Nat} {i : Int32} : wps rm K Q c_X_more_119 kc ks loc (.int i :: .ref (x + 1) :: st) h = eg_aa h x i (fun v => wps rm K Q c_X_more_120 kc ks loc (v :: st) h) := rfl
theorem s_X_more_120  {x : Nat} : wps rm K Q c_X_more_120 kc ks loc (.ref (x + 1) :: st) h = (eg_cls h x 2 ∧ st.length ≤ 4 ∧ eg_Cs n_Fig_leastKept (.ref (x + 1) :: []) h (fun v h9 => wps rm K Q c_X_more_123 kc ks loc (v.toList ++ st) h9)) := eg_c1_0
theorem s_X_more_123 {x y : Int32} : wps rm K Q c_X_more_123 kc ks loc (.int y :: .int x :: st) h = wps rm K Q c_X_more_124 kc ks loc (.int (x - y) :: st) h := rfl
theorem s_X_more_124  {a1 : Value} {a2 : Value} : wps rm K Q c_X_more_124 kc ks loc (a2 :: a1 :: st) h = (st.length ≤ 4 ∧ eg_Cs n_Math_max [a1, a2] h (fun v h9 => wps rm K Q c_X_more_127 kc ks loc (v.toList ++ st) h9)) := eg_c0_2
theorem s_X_more_127 {x : Int32} : wps rm K Q c_X_more_127 kc ks loc (.int x :: st) h = wps rm K Q c_X_more_129 kc ks (eg_set1 loc 5 (.int x)) (st) h := rfl
theorem s_X_more_129 {x : Nat} {l : eg_Lo} : wps rm K Q c_X_more_129 kc ks (some (.ref x) :: l) (st) h = wps rm K Q c_X_more_130 kc ks (some (.ref x) :: l) (.ref x :: st) h := rfl
theorem s_X_more_130 {x : Nat} : wps rm K Q c_X_more_130 kc ks loc (.ref (x + 1) :: st) h = eg_gf h x 11 2 (fun v => wps rm K Q c_X_more_133 kc ks loc (v :: st) h) := rfl
theorem s_X_more_133 {x : Int32} {l0 : Option Value} {l : eg_Lo} : wps rm K Q c_X_more_133 kc ks (l0 :: some (.int x) :: l) (st) h = wps rm K Q c_X_more_134 kc ks (l0 :: some (.int x) :: l) (.int x :: st) h := rfl
theorem s_X_more_134 {x : Nat} {i : Int32} : wps rm K Q c_X_more_134 kc ks loc (.int i :: .ref (x + 1) :: st) h = eg_aa h x i (fun v => wps rm K Q c_X_more_135 kc ks loc (v :: st) h) := rfl
theorem s_X_more_135  {x : Nat} : wps rm K Q c_X_more_135 kc ks loc (.ref (x + 1) :: st) h = (eg_cls h x 2 ∧ st.length ≤ 4 ∧ eg_Cs n_Fig_leastKept (.ref (x + 1) :: []) h (fun v h9 => wps rm K Q c_X_more_138 kc ks loc (v.toList ++ st) h9)) := eg_c1_0
theorem s_X_more_138 {x : Int32} {l0 l1 : Option Value} {l : eg_Lo} : wps rm K Q c_X_more_138 kc ks (l0 :: l1 :: some (.int x) :: l) (st) h = wps rm K Q c_X_more_139 kc ks (l0 :: l1 :: some (.int x) :: l) (.int x :: st) h := rfl
theorem s_X_more_139 {x : Int32} {l0 l1 l2 l3 l4 : Option Value} {l : eg_Lo} : wps rm K Q c_X_more_139 kc ks (l0 :: l1 :: l2 :: l3 :: l4 :: some (.int x) :: l) (st) h = wps rm K Q c_X_more_141 kc ks (l0 :: l1 :: l2 :: l3 :: l4 :: some (.int x) :: l) (.int x :: st) h := rfl
theorem s_X_more_141 {x y : Int32} : wps rm K Q c_X_more_141 kc ks loc (.int y :: .int x :: st) h = wps rm K Q c_X_more_142 kc ks loc (.int (x + y) :: st) h := rfl
theorem s_X_more_142 {x y : Int32} : wps rm K Q c_X_more_142 kc ks loc (.int y :: .int x :: st) h = ((y < x → K 149 kc ks loc st h) ∧ (¬ y < x → wps rm K Q c_X_more_145 kc ks loc (st) h)) := rfl
theorem s_X_more_145  : wps rm K Q c_X_more_145 kc ks loc (st) h = wps rm K Q c_X_more_146 kc ks loc (.long (1) :: st) h := rfl
theorem s_X_more_146  : wps rm K Q c_X_more_146 kc ks loc (st) h = K 150 kc ks loc st h := rfl
theorem s_X_more_149  : wps rm K Q c_X_more_149 kc ks loc (st) h = wps rm K Q c_X_more_150 kc ks loc (.long (0) :: st) h := rfl
theorem s_X_more_150 {x : Int64} : wps rm K Q c_X_more_150 kc ks loc ([.long x]) h = (kc = rm.cells ∧ Q (some (.long x)) h) := rfl
def T_X_more : List (Nat × List eg_I) := [(37, c_X_more_37), (45, c_X_more_45), (69, c_X_more_69), (77, c_X_more_77), (103, c_X_more_103), (111, c_X_more_111), (149, c_X_more_149), (150, c_X_more_150)]
theorem j_X_more_37 {R : Nat → Nat → Nat → eg_Lo → List Value → List eg_E → Prop} {f pc0 : Nat} : eg_run rm R Q T_X_more (f + 1) 37 kc ks loc st h = wps rm (eg_run rm R Q T_X_more f) Q c_X_more_37 kc ks loc st h := rfl
theorem j_X_more_45 {R : Nat → Nat → Nat → eg_Lo → List Value → List eg_E → Prop} {f pc0 : Nat} : eg_run rm R Q T_X_more (f + 1) 45 kc ks loc st h = wps rm (eg_run rm R Q T_X_more f) Q c_X_more_45 kc ks loc st h := rfl
theorem j_X_more_69 {R : Nat → Nat → Nat → eg_Lo → List Value → List eg_E → Prop} {f pc0 : Nat} : eg_run rm R Q T_X_more (f + 1) 69 kc ks loc st h = wps rm (eg_run rm R Q T_X_more f) Q c_X_more_69 kc ks loc st h := rfl
theorem j_X_more_77 {R : Nat → Nat → Nat → eg_Lo → List Value → List eg_E → Prop} {f pc0 : Nat} : eg_run rm R Q T_X_more (f + 1) 77 kc ks loc st h = wps rm (eg_run rm R Q T_X_more f) Q c_X_more_77 kc ks loc st h := rfl
theorem j_X_more_103 {R : Nat → Nat → Nat → eg_Lo → List Value → List eg_E → Prop} {f pc0 : Nat} : eg_run rm R Q T_X_more (f + 1) 103 kc ks loc st h = wps rm (eg_run rm R Q T_X_more f) Q c_X_more_103 kc ks loc st h := rfl
theorem j_X_more_111 {R : Nat → Nat → Nat → eg_Lo → List Value → List eg_E → Prop} {f pc0 : Nat} : eg_run rm R Q T_X_more (f + 1) 111 kc ks loc st h = wps rm (eg_run rm R Q T_X_more f) Q c_X_more_111 kc ks loc st h := rfl
theorem j_X_more_149 {R : Nat → Nat → Nat → eg_Lo → List Value → List eg_E → Prop} {f pc0 : Nat} : eg_run rm R Q T_X_more (f + 1) 149 kc ks loc st h = wps rm (eg_run rm R Q T_X_more f) Q c_X_more_149 kc ks loc st h := rfl
theorem j_X_more_150 {R : Nat → Nat → Nat → eg_Lo → List Value → List eg_E → Prop} {f pc0 : Nat} : eg_run rm R Q T_X_more (f + 1) 150 kc ks loc st h = wps rm (eg_run rm R Q T_X_more f) Q c_X_more_150 kc ks loc st h := rfl
end
theorem q_X_more : (T_X_more.all fun q => eg_seq m_X_more q.1 q.2) = true := by decide +kernel
theorem b_X_more {as : List Value} {h : List eg_E} {Q : Option Value → List eg_E → Prop} (hf : (eg_fl as).length ≤ 6) (hw : wps (eg_rm m_X_more) (eg_run (eg_rm m_X_more) (eg_R m_X_more Q (h.length + 0)) Q T_X_more 10) Q c_X_more_0 0 0 (eg_entry 6 as) [] h) : eg_Runs n_X_more as h Q := eg_begin (d := m_X_more) rfl (by decide) (by decide +kernel) q_X_more hf hw
/-! ===== X_frame ===== -/
def c_X_frame_149 : List eg_I := .inl (149, 1, .lreturn, 0, 0) :: []
def c_X_frame_148 : List eg_I := .inl (148, 1, .sipush (1), 0, 0) :: c_X_frame_149
def c_X_frame_145 : List eg_I := .inr (145, 1, 264, n_Frame_begin, 2, 5, 0, 0) :: c_X_frame_148
def c_X_frame_143 : List eg_I := .inl (143, 2, .iload 6, 0, 0) :: c_X_frame_145
def c_X_frame_142 : List eg_I := .inl (142, 1, .aaload, 0, 0) :: c_X_frame_143
def c_X_frame_140 : List eg_I := .inl (140, 2, .iload 5, 0, 0) :: c_X_frame_142
def c_X_frame_137 : List eg_I := .inl (137, 3, .getfield 11, 11, 0) :: c_X_frame_140
def c_X_frame_136 : List eg_I := .inl (136, 1, .aload 0, 0, 0) :: c_X_frame_137
def c_X_frame_133 : List eg_I := .inl (133, 3, .getfield 51, 11, 6) :: c_X_frame_136
def c_X_frame_132 : List eg_I := .inl (132, 1, .aload 0, 0, 0) :: c_X_frame_133
def c_X_frame_131 : List eg_I := .inl (131, 1, .lreturn, 0, 0) :: []
def c_X_frame_128 : List eg_I := .inr (128, 1, 86, n_X_found, 1, 11, 0, 0) :: c_X_frame_131
def c_X_frame_125 : List eg_I := .inl (125, 3, .sipush (-1000000000000000003), 163, 0) :: c_X_frame_128
def c_X_frame_124 : List eg_I := .inl (124, 1, .aload 0, 0, 0) :: c_X_frame_125
def c_X_frame_121 : List eg_I := .inl (121, 3, .ifCond .ne (11), 132, 0) :: c_X_frame_124
def c_X_frame_118 : List eg_I := .inr (118, 1, 260, n_Frame_layWays, 4, 5, 0, 0) :: c_X_frame_121
def c_X_frame_116 : List eg_I := .inl (116, 2, .iload 4, 0, 0) :: c_X_frame_118
def c_X_frame_115 : List eg_I := .inl (115, 1, .iload 3, 0, 0) :: c_X_frame_116
def c_X_frame_114 : List eg_I := .inl (114, 1, .iload 2, 0, 0) :: c_X_frame_115
def c_X_frame_111 : List eg_I := .inl (111, 3, .getfield 238, 2, 1) :: c_X_frame_114
def c_X_frame_110 : List eg_I := .inl (110, 1, .aaload, 0, 0) :: c_X_frame_111
def c_X_frame_109 : List eg_I := .inl (109, 1, .iload 1, 0, 0) :: c_X_frame_110
def c_X_frame_106 : List eg_I := .inl (106, 3, .getfield 23, 11, 2) :: c_X_frame_109
def c_X_frame_105 : List eg_I := .inl (105, 1, .aload 0, 0, 0) :: c_X_frame_106
def c_X_frame_102 : List eg_I := .inl (102, 3, .getfield 51, 11, 6) :: c_X_frame_105
def c_X_frame_101 : List eg_I := .inl (101, 1, .aload 0, 0, 0) :: c_X_frame_102
def c_X_frame_100 : List eg_I := .inl (100, 1, .lreturn, 0, 0) :: []
def c_X_frame_97 : List eg_I := .inr (97, 1, 86, n_X_found, 1, 11, 0, 0) :: c_X_frame_100
def c_X_frame_94 : List eg_I := .inl (94, 3, .sipush (-1000000000000000007), 113, 0) :: c_X_frame_97
def c_X_frame_93 : List eg_I := .inl (93, 1, .aload 0, 0, 0) :: c_X_frame_94
def c_X_frame_90 : List eg_I := .inl (90, 3, .ifCond .eq (11), 101, 0) :: c_X_frame_93
def c_X_frame_89 : List eg_I := .inl (89, 1, .baload, 0, 0) :: c_X_frame_90
def c_X_frame_87 : List eg_I := .inl (87, 2, .iload 6, 0, 0) :: c_X_frame_89
def c_X_frame_84 : List eg_I := .inl (84, 3, .getfield 109, 8, 3) :: c_X_frame_87
def c_X_frame_83 : List eg_I := .inl (83, 1, .aaload, 0, 0) :: c_X_frame_84
def c_X_frame_81 : List eg_I := .inl (81, 2, .iload 5, 0, 0) :: c_X_frame_83
def c_X_frame_78 : List eg_I := .inl (78, 3, .getfield 11, 11, 0) :: c_X_frame_81
def c_X_frame_77 : List eg_I := .inl (77, 1, .aload 0, 0, 0) :: c_X_frame_78
def c_X_frame_76 : List eg_I := .inl (76, 1, .lreturn, 0, 0) :: []
def c_X_frame_73 : List eg_I := .inr (73, 1, 86, n_X_found, 1, 11, 0, 0) :: c_X_frame_76
def c_X_frame_70 : List eg_I := .inl (70, 3, .sipush (-1000000000000000004), 183, 0) :: c_X_frame_73
def c_X_frame_69 : List eg_I := .inl (69, 1, .aload 0, 0, 0) :: c_X_frame_70
def c_X_frame_66 : List eg_I := .inl (66, 3, .if_icmp .eq (11), 77, 0) :: c_X_frame_69
def c_X_frame_65 : List eg_I := .inl (65, 1, .iconst (3), 0, 0) :: c_X_frame_66
def c_X_frame_62 : List eg_I := .inl (62, 3, .getfield 221, 2, 5) :: c_X_frame_65
def c_X_frame_61 : List eg_I := .inl (61, 1, .aaload, 0, 0) :: c_X_frame_62
def c_X_frame_60 : List eg_I := .inl (60, 1, .iload 1, 0, 0) :: c_X_frame_61
def c_X_frame_57 : List eg_I := .inl (57, 3, .getfield 23, 11, 2) :: c_X_frame_60
def c_X_frame_56 : List eg_I := .inl (56, 1, .aload 0, 0, 0) :: c_X_frame_57
def c_X_frame_55 : List eg_I := .inl (55, 1, .lreturn, 0, 0) :: []
def c_X_frame_52 : List eg_I := .inr (52, 1, 86, n_X_found, 1, 11, 0, 0) :: c_X_frame_55
def c_X_frame_49 : List eg_I := .inl (49, 3, .sipush (-1000000000000000006), 158, 0) :: c_X_frame_52
def c_X_frame_48 : List eg_I := .inl (48, 1, .aload 0, 0, 0) :: c_X_frame_49
def c_X_frame_45 : List eg_I := .inl (45, 3, .ifCond .ne (11), 56, 0) :: c_X_frame_48
def c_X_frame_42 : List eg_I := .inr (42, 1, 218, n_Fig_isOne, 0, 2, 0, 0) :: c_X_frame_45
def c_X_frame_41 : List eg_I := .inl (41, 1, .aaload, 0, 0) :: c_X_frame_42
def c_X_frame_40 : List eg_I := .inl (40, 1, .iload 1, 0, 0) :: c_X_frame_41
def c_X_frame_37 : List eg_I := .inl (37, 3, .getfield 23, 11, 2) :: c_X_frame_40
def c_X_frame_36 : List eg_I := .inl (36, 1, .aload 0, 0, 0) :: c_X_frame_37
def c_X_frame_35 : List eg_I := .inl (35, 1, .lreturn, 0, 0) :: []
def c_X_frame_32 : List eg_I := .inr (32, 1, 86, n_X_found, 1, 11, 0, 0) :: c_X_frame_35
def c_X_frame_29 : List eg_I := .inl (29, 3, .sipush (-1000000000000000001), 84, 0) :: c_X_frame_32
def c_X_frame_28 : List eg_I := .inl (28, 1, .aload 0, 0, 0) :: c_X_frame_29
def c_X_frame_25 : List eg_I := .inl (25, 3, .ifCond .ne (11), 36, 0) :: c_X_frame_28
def c_X_frame_22 : List eg_I := .inr (22, 0, 257, n_X_isDirection, 3, 11, 0, 0) :: c_X_frame_25
def c_X_frame_20 : List eg_I := .inl (20, 2, .iload 4, 0, 0) :: c_X_frame_22
def c_X_frame_19 : List eg_I := .inl (19, 1, .iload 3, 0, 0) :: c_X_frame_20
def c_X_frame_18 : List eg_I := .inl (18, 1, .iload 2, 0, 0) :: c_X_frame_19
def c_X_frame_15 : List eg_I := .inl (15, 3, .ifCond .eq (13), 28, 0) :: c_X_frame_18
def c_X_frame_12 : List eg_I := .inr (12, 1, 106, n_X_isPoint, 2, 11, 0, 0) :: c_X_frame_15
def c_X_frame_10 : List eg_I := .inl (10, 2, .iload 6, 0, 0) :: c_X_frame_12
def c_X_frame_8 : List eg_I := .inl (8, 2, .iload 5, 0, 0) :: c_X_frame_10
def c_X_frame_7 : List eg_I := .inl (7, 1, .aload 0, 0, 0) :: c_X_frame_8
def c_X_frame_4 : List eg_I := .inl (4, 3, .ifCond .eq (24), 28, 0) :: c_X_frame_7
def c_X_frame_1 : List eg_I := .inr (1, 0, 202, n_X_isFigure, 1, 11, 0, 0) :: c_X_frame_4
def c_X_frame_0 : List eg_I := .inl (0, 1, .iload 1, 0, 0) :: c_X_frame_1
section
variable {rm : Room} {K : Nat → Nat → Nat → eg_Lo → List Value → List eg_E → Prop} {Q : Option Value → List eg_E → Prop} {kc ks : Nat} {loc : eg_Lo} {st : List Value} {h : List eg_E}
theorem s_X_frame_0 {x : Int32} {l0 : Option Value} {l : eg_Lo} : wps rm K Q c_X_frame_0 kc ks (l0 :: some (.int x) :: l) (st) h = wps rm K Q c_X_frame_1 kc ks (l0 :: some (.int x) :: l) (.int x :: st) h := rfl
theorem s_X_frame_1  {a1 : Value} : wps rm K Q c_X_frame_1 kc ks loc (a1 :: st) h = (st.length ≤ 4 ∧ eg_Cs n_X_isFigure [a1] h (fun v h9 => wps rm K Q c_X_frame_4 kc ks loc (v.toList ++ st) h9)) := eg_c0_1
theorem s_X_frame_4 {x : Int32} : wps rm K Q c_X_frame_4 kc ks loc (.int x :: st) h = ((x = 0 → K 28 kc ks loc st h) ∧ (¬ x = 0 → wps rm K Q c_X_frame_7 kc ks loc (st) h)) := rfl
theorem s_X_frame_7 {x : Nat} {l : eg_Lo} : wps rm K Q c_X_frame_7 kc ks (some (.ref x) :: l) (st) h = wps rm K Q c_X_frame_8 kc ks (some (.ref x) :: l) (.ref x :: st) h := rfl
theorem s_X_frame_8 {x : Int32} {l0 l1 l2 l3 l4 : Option Value} {l : eg_Lo} : wps rm K Q c_X_frame_8 kc ks (l0 :: l1 :: l2 :: l3 :: l4 :: some (.int x) :: l) (st) h = wps rm K Q c_X_frame_10 kc ks (l0 :: l1 :: l2 :: l3 :: l4 :: some (.int x) :: l) (.int x :: st) h := rfl
theorem s_X_frame_10 {x : Int32} {l0 l1 l2 l3 l4 l5 : Option Value} {l : eg_Lo} : wps rm K Q c_X_frame_10 kc ks (l0 :: l1 :: l2 :: l3 :: l4 :: l5 :: some (.int x) :: l) (st) h = wps rm K Q c_X_frame_12 kc ks (l0 :: l1 :: l2 :: l3 :: l4 :: l5 :: some (.int x) :: l) (.int x :: st) h := rfl
theorem s_X_frame_12  {a1 : Value} {a2 : Value} {x : Nat} : wps rm K Q c_X_frame_12 kc ks loc (a2 :: a1 :: .ref (x + 1) :: st) h = (eg_cls h x 11 ∧ st.length ≤ 4 ∧ eg_Cs n_X_isPoint (.ref (x + 1) :: [a1, a2]) h (fun v h9 => wps rm K Q c_X_frame_15 kc ks loc (v.toList ++ st) h9)) := eg_c1_2
theorem s_X_frame_15 {x : Int32} : wps rm K Q c_X_frame_15 kc ks loc (.int x :: st) h = ((x = 0 → K 28 kc ks loc st h) ∧ (¬ x = 0 → wps rm K Q c_X_frame_18 kc ks loc (st) h)) := rfl
theorem s_X_frame_18 {x : Int32} {l0 l1 : Option Value} {l : eg_Lo} : wps rm K Q c_X_frame_18 kc ks (l0 :: l1 :: some (.int x) :: l) (st) h = wps rm K Q c_X_frame_19 kc ks (l0 :: l1 :: some (.int x) :: l) (.int x :: st) h := rfl
theorem s_X_frame_19 {x : Int32} {l0 l1 l2 : Option Value} {l : eg_Lo} : wps rm K Q c_X_frame_19 kc ks (l0 :: l1 :: l2 :: some (.int x) :: l) (st) h = wps rm K Q c_X_frame_20 kc ks (l0 :: l1 :: l2 :: some (.int x) :: l) (.int x :: st) h := rfl
theorem s_X_frame_20 {x : Int32} {l0 l1 l2 l3 : Option Value} {l : eg_Lo} : wps rm K Q c_X_frame_20 kc ks (l0 :: l1 :: l2 :: l3 :: some (.int x) :: l) (st) h = wps rm K Q c_X_frame_22 kc ks (l0 :: l1 :: l2 :: l3 :: some (.int x) :: l) (.int x :: st) h := rfl
theorem s_X_frame_22  {a1 : Value} {a2 : Value} {a3 : Value} : wps rm K Q c_X_frame_22 kc ks loc (a3 :: a2 :: a1 :: st) h = (st.length ≤ 4 ∧ eg_Cs n_X_isDirection [a1, a2, a3] h (fun v h9 => wps rm K Q c_X_frame_25 kc ks loc (v.toList ++ st) h9)) := eg_c0_3
theorem s_X_frame_25 {x : Int32} : wps rm K Q c_X_frame_25 kc ks loc (.int x :: st) h = ((¬ x = 0 → K 36 kc ks loc st h) ∧ (x = 0 → wps rm K Q c_X_frame_28 kc ks loc (st) h)) := rfl
theorem s_X_frame_28 {x : Nat} {l : eg_Lo} : wps rm K Q c_X_frame_28 kc ks (some (.ref x) :: l) (st) h = wps rm K Q c_X_frame_29 kc ks (some (.ref x) :: l) (.ref x :: st) h := rfl
theorem s_X_frame_29  : wps rm K Q c_X_frame_29 kc ks loc (st) h = wps rm K Q c_X_frame_32 kc ks loc (.long (-1000000000000000001) :: st) h := rfl
theorem s_X_frame_32  {a1 : Value} {x : Nat} : wps rm K Q c_X_frame_32 kc ks loc (a1 :: .ref (x + 1) :: st) h = (eg_cls h x 11 ∧ st.length ≤ 4 ∧ eg_Cs n_X_found (.ref (x + 1) :: [a1]) h (fun v h9 => wps rm K Q c_X_frame_35 kc ks loc (v.toList ++ st) h9)) := eg_c1_1
theorem s_X_frame_35 {x : Int64} : wps rm K Q c_X_frame_35 kc ks loc ([.long x]) h = (kc = rm.cells ∧ Q (some (.long x)) h) := rfl
theorem s_X_frame_36 {x : Nat} {l : eg_Lo} : wps rm K Q c_X_frame_36 kc ks (some (.ref x) :: l) (st) h = wps rm K Q c_X_frame_37 kc ks (some (.ref x) :: l) (.ref x :: st) h := rfl
theorem s_X_frame_37 {x : Nat} : wps rm K Q c_X_frame_37 kc ks loc (.ref (x + 1) :: st) h = eg_gf h x 11 2 (fun v => wps rm K Q c_X_frame_40 kc ks loc (v :: st) h) := rfl
theorem s_X_frame_40 {x : Int32} {l0 : Option Value} {l : eg_Lo} : wps rm K Q c_X_frame_40 kc ks (l0 :: some (.int x) :: l) (st) h = wps rm K Q c_X_frame_41 kc ks (l0 :: some (.int x) :: l) (.int x :: st) h := rfl
theorem s_X_frame_41 {x : Nat} {i : Int32} : wps rm K Q c_X_frame_41 kc ks loc (.int i :: .ref (x + 1) :: st) h = eg_aa h x i (fun v => wps rm K Q c_X_frame_42 kc ks loc (v :: st) h) := rfl
theorem s_X_frame_42  {x : Nat} : wps rm K Q c_X_frame_42 kc ks loc (.ref (x + 1) :: st) h = (eg_cls h x 2 ∧ st.length ≤ 4 ∧ eg_Cs n_Fig_isOne (.ref (x + 1) :: []) h (fun v h9 => wps rm K Q c_X_frame_45 kc ks loc (v.toList ++ st) h9)) := eg_c1_0
theorem s_X_frame_45 {x : Int32} : wps rm K Q c_X_frame_45 kc ks loc (.int x :: st) h = ((¬ x = 0 → K 56 kc ks loc st h) ∧ (x = 0 → wps rm K Q c_X_frame_48 kc ks loc (st) h)) := rfl
theorem s_X_frame_48 {x : Nat} {l : eg_Lo} : wps rm K Q c_X_frame_48 kc ks (some (.ref x) :: l) (st) h = wps rm K Q c_X_frame_49 kc ks (some (.ref x) :: l) (.ref x :: st) h := rfl
theorem s_X_frame_49  : wps rm K Q c_X_frame_49 kc ks loc (st) h = wps rm K Q c_X_frame_52 kc ks loc (.long (-1000000000000000006) :: st) h := rfl
theorem s_X_frame_52  {a1 : Value} {x : Nat} : wps rm K Q c_X_frame_52 kc ks loc (a1 :: .ref (x + 1) :: st) h = (eg_cls h x 11 ∧ st.length ≤ 4 ∧ eg_Cs n_X_found (.ref (x + 1) :: [a1]) h (fun v h9 => wps rm K Q c_X_frame_55 kc ks loc (v.toList ++ st) h9)) := eg_c1_1
theorem s_X_frame_55 {x : Int64} : wps rm K Q c_X_frame_55 kc ks loc ([.long x]) h = (kc = rm.cells ∧ Q (some (.long x)) h) := rfl
theorem s_X_frame_56 {x : Nat} {l : eg_Lo} : wps rm K Q c_X_frame_56 kc ks (some (.ref x) :: l) (st) h = wps rm K Q c_X_frame_57 kc ks (some (.ref x) :: l) (.ref x :: st) h := rfl
theorem s_X_frame_57 {x : Nat} : wps rm K Q c_X_frame_57 kc ks loc (.ref (x + 1) :: st) h = eg_gf h x 11 2 (fun v => wps rm K Q c_X_frame_60 kc ks loc (v :: st) h) := rfl
theorem s_X_frame_60 {x : Int32} {l0 : Option Value} {l : eg_Lo} : wps rm K Q c_X_frame_60 kc ks (l0 :: some (.int x) :: l) (st) h = wps rm K Q c_X_frame_61 kc ks (l0 :: some (.int x) :: l) (.int x :: st) h := rfl
theorem s_X_frame_61 {x : Nat} {i : Int32} : wps rm K Q c_X_frame_61 kc ks loc (.int i :: .ref (x + 1) :: st) h = eg_aa h x i (fun v => wps rm K Q c_X_frame_62 kc ks loc (v :: st) h) := rfl
theorem s_X_frame_62 {x : Nat} : wps rm K Q c_X_frame_62 kc ks loc (.ref (x + 1) :: st) h = eg_gf h x 2 5 (fun v => wps rm K Q c_X_frame_65 kc ks loc (v :: st) h) := rfl
theorem s_X_frame_65  : wps rm K Q c_X_frame_65 kc ks loc (st) h = wps rm K Q c_X_frame_66 kc ks loc (.int (3) :: st) h := rfl
theorem s_X_frame_66 {x y : Int32} : wps rm K Q c_X_frame_66 kc ks loc (.int y :: .int x :: st) h = ((x = y → K 77 kc ks loc st h) ∧ (¬ x = y → wps rm K Q c_X_frame_69 kc ks loc (st) h)) := rfl
theorem s_X_frame_69 {x : Nat} {l : eg_Lo} : wps rm K Q c_X_frame_69 kc ks (some (.ref x) :: l) (st) h = wps rm K Q c_X_frame_70 kc ks (some (.ref x) :: l) (.ref x :: st) h := rfl
theorem s_X_frame_70  : wps rm K Q c_X_frame_70 kc ks loc (st) h = wps rm K Q c_X_frame_73 kc ks loc (.long (-1000000000000000004) :: st) h := rfl
theorem s_X_frame_73  {a1 : Value} {x : Nat} : wps rm K Q c_X_frame_73 kc ks loc (a1 :: .ref (x + 1) :: st) h = (eg_cls h x 11 ∧ st.length ≤ 4 ∧ eg_Cs n_X_found (.ref (x + 1) :: [a1]) h (fun v h9 => wps rm K Q c_X_frame_76 kc ks loc (v.toList ++ st) h9)) := eg_c1_1
theorem s_X_frame_76 {x : Int64} : wps rm K Q c_X_frame_76 kc ks loc ([.long x]) h = (kc = rm.cells ∧ Q (some (.long x)) h) := rfl
theorem s_X_frame_77 {x : Nat} {l : eg_Lo} : wps rm K Q c_X_frame_77 kc ks (some (.ref x) :: l) (st) h = wps rm K Q c_X_frame_78 kc ks (some (.ref x) :: l) (.ref x :: st) h := rfl
theorem s_X_frame_78 {x : Nat} : wps rm K Q c_X_frame_78 kc ks loc (.ref (x + 1) :: st) h = eg_gf h x 11 0 (fun v => wps rm K Q c_X_frame_81 kc ks loc (v :: st) h) := rfl
theorem s_X_frame_81 {x : Int32} {l0 l1 l2 l3 l4 : Option Value} {l : eg_Lo} : wps rm K Q c_X_frame_81 kc ks (l0 :: l1 :: l2 :: l3 :: l4 :: some (.int x) :: l) (st) h = wps rm K Q c_X_frame_83 kc ks (l0 :: l1 :: l2 :: l3 :: l4 :: some (.int x) :: l) (.int x :: st) h := rfl
theorem s_X_frame_83 {x : Nat} {i : Int32} : wps rm K Q c_X_frame_83 kc ks loc (.int i :: .ref (x + 1) :: st) h = eg_aa h x i (fun v => wps rm K Q c_X_frame_84 kc ks loc (v :: st) h) := rfl
theorem s_X_frame_84 {x : Nat} : wps rm K Q c_X_frame_84 kc ks loc (.ref (x + 1) :: st) h = eg_gf h x 8 3 (fun v => wps rm K Q c_X_frame_87 kc ks loc (v :: st) h) := rfl
theorem s_X_frame_87 {x : Int32} {l0 l1 l2 l3 l4 l5 : Option Value} {l : eg_Lo} : wps rm K Q c_X_frame_87 kc ks (l0 :: l1 :: l2 :: l3 :: l4 :: l5 :: some (.int x) :: l) (st) h = wps rm K Q c_X_frame_89 kc ks (l0 :: l1 :: l2 :: l3 :: l4 :: l5 :: some (.int x) :: l) (.int x :: st) h := rfl
theorem s_X_frame_89 {x : Nat} {i : Int32} : wps rm K Q c_X_frame_89 kc ks loc (.int i :: .ref (x + 1) :: st) h = eg_ba h x i (fun v => wps rm K Q c_X_frame_90 kc ks loc (.int v :: st) h) := rfl
theorem s_X_frame_90 {x : Int32} : wps rm K Q c_X_frame_90 kc ks loc (.int x :: st) h = ((x = 0 → K 101 kc ks loc st h) ∧ (¬ x = 0 → wps rm K Q c_X_frame_93 kc ks loc (st) h)) := rfl
theorem s_X_frame_93 {x : Nat} {l : eg_Lo} : wps rm K Q c_X_frame_93 kc ks (some (.ref x) :: l) (st) h = wps rm K Q c_X_frame_94 kc ks (some (.ref x) :: l) (.ref x :: st) h := rfl
theorem s_X_frame_94  : wps rm K Q c_X_frame_94 kc ks loc (st) h = wps rm K Q c_X_frame_97 kc ks loc (.long (-1000000000000000007) :: st) h := rfl
theorem s_X_frame_97  {a1 : Value} {x : Nat} : wps rm K Q c_X_frame_97 kc ks loc (a1 :: .ref (x + 1) :: st) h = (eg_cls h x 11 ∧ st.length ≤ 4 ∧ eg_Cs n_X_found (.ref (x + 1) :: [a1]) h (fun v h9 => wps rm K Q c_X_frame_100 kc ks loc (v.toList ++ st) h9)) := eg_c1_1
theorem s_X_frame_100 {x : Int64} : wps rm K Q c_X_frame_100 kc ks loc ([.long x]) h = (kc = rm.cells ∧ Q (some (.long x)) h) := rfl
theorem s_X_frame_101 {x : Nat} {l : eg_Lo} : wps rm K Q c_X_frame_101 kc ks (some (.ref x) :: l) (st) h = wps rm K Q c_X_frame_102 kc ks (some (.ref x) :: l) (.ref x :: st) h := rfl
theorem s_X_frame_102 {x : Nat} : wps rm K Q c_X_frame_102 kc ks loc (.ref (x + 1) :: st) h = eg_gf h x 11 6 (fun v => wps rm K Q c_X_frame_105 kc ks loc (v :: st) h) := rfl
theorem s_X_frame_105 {x : Nat} {l : eg_Lo} : wps rm K Q c_X_frame_105 kc ks (some (.ref x) :: l) (st) h = wps rm K Q c_X_frame_106 kc ks (some (.ref x) :: l) (.ref x :: st) h := rfl
theorem s_X_frame_106 {x : Nat} : wps rm K Q c_X_frame_106 kc ks loc (.ref (x + 1) :: st) h = eg_gf h x 11 2 (fun v => wps rm K Q c_X_frame_109 kc ks loc (v :: st) h) := rfl
theorem s_X_frame_109 {x : Int32} {l0 : Option Value} {l : eg_Lo} : wps rm K Q c_X_frame_109 kc ks (l0 :: some (.int x) :: l) (st) h = wps rm K Q c_X_frame_110 kc ks (l0 :: some (.int x) :: l) (.int x :: st) h := rfl
theorem s_X_frame_110 {x : Nat} {i : Int32} : wps rm K Q c_X_frame_110 kc ks loc (.int i :: .ref (x + 1) :: st) h = eg_aa h x i (fun v => wps rm K Q c_X_frame_111 kc ks loc (v :: st) h) := rfl
theorem s_X_frame_111 {x : Nat} : wps rm K Q c_X_frame_111 kc ks loc (.ref (x + 1) :: st) h = eg_gf h x 2 1 (fun v => wps rm K Q c_X_frame_114 kc ks loc (v :: st) h) := rfl
theorem s_X_frame_114 {x : Int32} {l0 l1 : Option Value} {l : eg_Lo} : wps rm K Q c_X_frame_114 kc ks (l0 :: l1 :: some (.int x) :: l) (st) h = wps rm K Q c_X_frame_115 kc ks (l0 :: l1 :: some (.int x) :: l) (.int x :: st) h := rfl
theorem s_X_frame_115 {x : Int32} {l0 l1 l2 : Option Value} {l : eg_Lo} : wps rm K Q c_X_frame_115 kc ks (l0 :: l1 :: l2 :: some (.int x) :: l) (st) h = wps rm K Q c_X_frame_116 kc ks (l0 :: l1 :: l2 :: some (.int x) :: l) (.int x :: st) h := rfl
theorem s_X_frame_116 {x : Int32} {l0 l1 l2 l3 : Option Value} {l : eg_Lo} : wps rm K Q c_X_frame_116 kc ks (l0 :: l1 :: l2 :: l3 :: some (.int x) :: l) (st) h = wps rm K Q c_X_frame_118 kc ks (l0 :: l1 :: l2 :: l3 :: some (.int x) :: l) (.int x :: st) h := rfl
theorem s_X_frame_118  {a1 : Value} {a2 : Value} {a3 : Value} {a4 : Value} {x : Nat} : wps rm K Q c_X_frame_118 kc ks loc (a4 :: a3 :: a2 :: a1 :: .ref (x + 1) :: st) h = (eg_cls h x 5 ∧ st.length ≤ 4 ∧ eg_Cs n_Frame_layWays (.ref (x + 1) :: [a1, a2, a3, a4]) h (fun v h9 => wps rm K Q c_X_frame_121 kc ks loc (v.toList ++ st) h9)) := eg_c1_4
theorem s_X_frame_121 {x : Int32} : wps rm K Q c_X_frame_121 kc ks loc (.int x :: st) h = ((¬ x = 0 → K 132 kc ks loc st h) ∧ (x = 0 → wps rm K Q c_X_frame_124 kc ks loc (st) h)) := rfl
theorem s_X_frame_124 {x : Nat} {l : eg_Lo} : wps rm K Q c_X_frame_124 kc ks (some (.ref x) :: l) (st) h = wps rm K Q c_X_frame_125 kc ks (some (.ref x) :: l) (.ref x :: st) h := rfl
theorem s_X_frame_125  : wps rm K Q c_X_frame_125 kc ks loc (st) h = wps rm K Q c_X_frame_128 kc ks loc (.long (-1000000000000000003) :: st) h := rfl
theorem s_X_frame_128  {a1 : Value} {x : Nat} : wps rm K Q c_X_frame_128 kc ks loc (a1 :: .ref (x + 1) :: st) h = (eg_cls h x 11 ∧ st.length ≤ 4 ∧ eg_Cs n_X_found (.ref (x + 1) :: [a1]) h (fun v h9 => wps rm K Q c_X_frame_131 kc ks loc (v.toList ++ st) h9)) := eg_c1_1
theorem s_X_frame_131 {x : Int64} : wps rm K Q c_X_frame_131 kc ks loc ([.long x]) h = (kc = rm.cells ∧ Q (some (.long x)) h) := rfl
theorem s_X_frame_132 {x : Nat} {l : eg_Lo} : wps rm K Q c_X_frame_132 kc ks (some (.ref x) :: l) (st) h = wps rm K Q c_X_frame_133 kc ks (some (.ref x) :: l) (.ref x :: st) h := rfl
theorem s_X_frame_133 {x : Nat} : wps rm K Q c_X_frame_133 kc ks loc (.ref (x + 1) :: st) h = eg_gf h x 11 6 (fun v => wps rm K Q c_X_frame_136 kc ks loc (v :: st) h) := rfl
theorem s_X_frame_136 {x : Nat} {l : eg_Lo} : wps rm K Q c_X_frame_136 kc ks (some (.ref x) :: l) (st) h = wps rm K Q c_X_frame_137 kc ks (some (.ref x) :: l) (.ref x :: st) h := rfl
theorem s_X_frame_137 {x : Nat} : wps rm K Q c_X_frame_137 kc ks loc (.ref (x + 1) :: st) h = eg_gf h x 11 0 (fun v => wps rm K Q c_X_frame_140 kc ks loc (v :: st) h) := rfl
theorem s_X_frame_140 {x : Int32} {l0 l1 l2 l3 l4 : Option Value} {l : eg_Lo} : wps rm K Q c_X_frame_140 kc ks (l0 :: l1 :: l2 :: l3 :: l4 :: some (.int x) :: l) (st) h = wps rm K Q c_X_frame_142 kc ks (l0 :: l1 :: l2 :: l3 :: l4 :: some (.int x) :: l) (.int x :: st) h := rfl
theorem s_X_frame_142 {x : Nat} {i : Int32} : wps rm K Q c_X_frame_142 kc ks loc (.int i :: .ref (x + 1) :: st) h = eg_aa h x i (fun v => wps rm K Q c_X_frame_143 kc ks loc (v :: st) h) := rfl
theorem s_X_frame_143 {x : Int32} {l0 l1 l2 l3 l4 l5 : Option Value} {l : eg_Lo} : wps rm K Q c_X_frame_143 kc ks (l0 :: l1 :: l2 :: l3 :: l4 :: l5 :: some (.int x) :: l) (st) h = wps rm K Q c_X_frame_145 kc ks (l0 :: l1 :: l2 :: l3 :: l4 :: l5 :: some (.int x) :: l) (.int x :: st) h := rfl
theorem s_X_frame_145  {a1 : Value} {a2 : Value} {x : Nat} : wps rm K Q c_X_frame_145 kc ks loc (a2 :: a1 :: .ref (x + 1) :: st) h = (eg_cls h x 5 ∧ st.length ≤ 4 ∧ eg_Cs n_Frame_begin (.ref (x + 1) :: [a1, a2]) h (fun v h9 => wps rm K Q c_X_frame_148 kc ks loc (v.toList ++ st) h9)) := eg_c1_2
theorem s_X_frame_148  : wps rm K Q c_X_frame_148 kc ks loc (st) h = wps rm K Q c_X_frame_149 kc ks loc (.long (1) :: st) h := rfl
theorem s_X_frame_149 {x : Int64} : wps rm K Q c_X_frame_149 kc ks loc ([.long x]) h = (kc = rm.cells ∧ Q (some (.long x)) h) := rfl
def T_X_frame : List (Nat × List eg_I) := [(28, c_X_frame_28), (36, c_X_frame_36), (56, c_X_frame_56), (77, c_X_frame_77), (101, c_X_frame_101), (132, c_X_frame_132)]
theorem j_X_frame_28 {R : Nat → Nat → Nat → eg_Lo → List Value → List eg_E → Prop} {f pc0 : Nat} : eg_run rm R Q T_X_frame (f + 1) 28 kc ks loc st h = wps rm (eg_run rm R Q T_X_frame f) Q c_X_frame_28 kc ks loc st h := rfl
theorem j_X_frame_36 {R : Nat → Nat → Nat → eg_Lo → List Value → List eg_E → Prop} {f pc0 : Nat} : eg_run rm R Q T_X_frame (f + 1) 36 kc ks loc st h = wps rm (eg_run rm R Q T_X_frame f) Q c_X_frame_36 kc ks loc st h := rfl
theorem j_X_frame_56 {R : Nat → Nat → Nat → eg_Lo → List Value → List eg_E → Prop} {f pc0 : Nat} : eg_run rm R Q T_X_frame (f + 1) 56 kc ks loc st h = wps rm (eg_run rm R Q T_X_frame f) Q c_X_frame_56 kc ks loc st h := rfl
theorem j_X_frame_77 {R : Nat → Nat → Nat → eg_Lo → List Value → List eg_E → Prop} {f pc0 : Nat} : eg_run rm R Q T_X_frame (f + 1) 77 kc ks loc st h = wps rm (eg_run rm R Q T_X_frame f) Q c_X_frame_77 kc ks loc st h := rfl
theorem j_X_frame_101 {R : Nat → Nat → Nat → eg_Lo → List Value → List eg_E → Prop} {f pc0 : Nat} : eg_run rm R Q T_X_frame (f + 1) 101 kc ks loc st h = wps rm (eg_run rm R Q T_X_frame f) Q c_X_frame_101 kc ks loc st h := rfl
theorem j_X_frame_132 {R : Nat → Nat → Nat → eg_Lo → List Value → List eg_E → Prop} {f pc0 : Nat} : eg_run rm R Q T_X_frame (f + 1) 132 kc ks loc st h = wps rm (eg_run rm R Q T_X_frame f) Q c_X_frame_132 kc ks loc st h := rfl
end
theorem q_X_frame : (T_X_frame.all fun q => eg_seq m_X_frame q.1 q.2) = true := by decide +kernel
theorem b_X_frame {as : List Value} {h : List eg_E} {Q : Option Value → List eg_E → Prop} (hf : (eg_fl as).length ≤ 7) (hw : wps (eg_rm m_X_frame) (eg_run (eg_rm m_X_frame) (eg_R m_X_frame Q (h.length + 0)) Q T_X_frame 8) Q c_X_frame_0 0 0 (eg_entry 7 as) [] h) : eg_Runs n_X_frame as h Q := eg_begin (d := m_X_frame) rfl (by decide) (by decide +kernel) q_X_frame hf hw
/-! ===== X_axis ===== -/
def c_X_axis_57 : List eg_I := .inl (57, 1, .lreturn, 0, 0) :: []
def c_X_axis_56 : List eg_I := .inl (56, 1, .laload, 0, 0) :: c_X_axis_57
def c_X_axis_55 : List eg_I := .inl (55, 1, .iadd, 0, 0) :: c_X_axis_56
def c_X_axis_54 : List eg_I := .inl (54, 1, .iload 2, 0, 0) :: c_X_axis_55
def c_X_axis_53 : List eg_I := .inl (53, 1, .imul, 0, 0) :: c_X_axis_54
def c_X_axis_52 : List eg_I := .inl (52, 1, .iload 1, 0, 0) :: c_X_axis_53
def c_X_axis_51 : List eg_I := .inl (51, 1, .iconst (3), 0, 0) :: c_X_axis_52
def c_X_axis_48 : List eg_I := .inl (48, 3, .getfield 272, 5, 0) :: c_X_axis_51
def c_X_axis_45 : List eg_I := .inl (45, 3, .getfield 51, 11, 6) :: c_X_axis_48
def c_X_axis_44 : List eg_I := .inl (44, 1, .aload 0, 0, 0) :: c_X_axis_45
def c_X_axis_43 : List eg_I := .inl (43, 1, .lreturn, 0, 0) :: []
def c_X_axis_40 : List eg_I := .inr (40, 1, 86, n_X_found, 1, 11, 0, 0) :: c_X_axis_43
def c_X_axis_37 : List eg_I := .inl (37, 3, .sipush (-1000000000000000006), 158, 0) :: c_X_axis_40
def c_X_axis_36 : List eg_I := .inl (36, 1, .aload 0, 0, 0) :: c_X_axis_37
def c_X_axis_33 : List eg_I := .inl (33, 3, .ifCond .ne (11), 44, 0) :: c_X_axis_36
def c_X_axis_30 : List eg_I := .inl (30, 3, .getfield 268, 5, 1) :: c_X_axis_33
def c_X_axis_27 : List eg_I := .inl (27, 3, .getfield 51, 11, 6) :: c_X_axis_30
def c_X_axis_26 : List eg_I := .inl (26, 1, .aload 0, 0, 0) :: c_X_axis_27
def c_X_axis_25 : List eg_I := .inl (25, 1, .lreturn, 0, 0) :: []
def c_X_axis_22 : List eg_I := .inr (22, 1, 86, n_X_found, 1, 11, 0, 0) :: c_X_axis_25
def c_X_axis_19 : List eg_I := .inl (19, 3, .sipush (-1000000000000000001), 84, 0) :: c_X_axis_22
def c_X_axis_18 : List eg_I := .inl (18, 1, .aload 0, 0, 0) :: c_X_axis_19
def c_X_axis_15 : List eg_I := .inl (15, 3, .ifCond .ne (11), 26, 0) :: c_X_axis_18
def c_X_axis_12 : List eg_I := .inr (12, 0, 80, n_X_isWithin, 3, 11, 0, 0) :: c_X_axis_15
def c_X_axis_11 : List eg_I := .inl (11, 1, .iconst (2), 0, 0) :: c_X_axis_12
def c_X_axis_10 : List eg_I := .inl (10, 1, .iconst (0), 0, 0) :: c_X_axis_11
def c_X_axis_9 : List eg_I := .inl (9, 1, .iload 2, 0, 0) :: c_X_axis_10
def c_X_axis_6 : List eg_I := .inl (6, 3, .ifCond .eq (12), 18, 0) :: c_X_axis_9
def c_X_axis_3 : List eg_I := .inr (3, 0, 80, n_X_isWithin, 3, 11, 0, 0) :: c_X_axis_6
def c_X_axis_2 : List eg_I := .inl (2, 1, .iconst (2), 0, 0) :: c_X_axis_3
def c_X_axis_1 : List eg_I := .inl (1, 1, .iconst (0), 0, 0) :: c_X_axis_2
def c_X_axis_0 : List eg_I := .inl (0, 1, .iload 1, 0, 0) :: c_X_axis_1
section
variable {rm : Room} {K : Nat → Nat → Nat → eg_Lo → List Value → List eg_E → Prop} {Q : Option Value → List eg_E → Prop} {kc ks : Nat} {loc : eg_Lo} {st : List Value} {h : List eg_E}
theorem s_X_axis_0 {x : Int32} {l0 : Option Value} {l : eg_Lo} : wps rm K Q c_X_axis_0 kc ks (l0 :: some (.int x) :: l) (st) h = wps rm K Q c_X_axis_1 kc ks (l0 :: some (.int x) :: l) (.int x :: st) h := rfl
theorem s_X_axis_1  : wps rm K Q c_X_axis_1 kc ks loc (st) h = wps rm K Q c_X_axis_2 kc ks loc (.int (0) :: st) h := rfl
theorem s_X_axis_2  : wps rm K Q c_X_axis_2 kc ks loc (st) h = wps rm K Q c_X_axis_3 kc ks loc (.int (2) :: st) h := rfl
theorem s_X_axis_3  {a1 : Value} {a2 : Value} {a3 : Value} : wps rm K Q c_X_axis_3 kc ks loc (a3 :: a2 :: a1 :: st) h = (st.length ≤ 4 ∧ eg_Cs n_X_isWithin [a1, a2, a3] h (fun v h9 => wps rm K Q c_X_axis_6 kc ks loc (v.toList ++ st) h9)) := eg_c0_3
theorem s_X_axis_6 {x : Int32} : wps rm K Q c_X_axis_6 kc ks loc (.int x :: st) h = ((x = 0 → K 18 kc ks loc st h) ∧ (¬ x = 0 → wps rm K Q c_X_axis_9 kc ks loc (st) h)) := rfl
theorem s_X_axis_9 {x : Int32} {l0 l1 : Option Value} {l : eg_Lo} : wps rm K Q c_X_axis_9 kc ks (l0 :: l1 :: some (.int x) :: l) (st) h = wps rm K Q c_X_axis_10 kc ks (l0 :: l1 :: some (.int x) :: l) (.int x :: st) h := rfl
theorem s_X_axis_10  : wps rm K Q c_X_axis_10 kc ks loc (st) h = wps rm K Q c_X_axis_11 kc ks loc (.int (0) :: st) h := rfl
theorem s_X_axis_11  : wps rm K Q c_X_axis_11 kc ks loc (st) h = wps rm K Q c_X_axis_12 kc ks loc (.int (2) :: st) h := rfl
theorem s_X_axis_12  {a1 : Value} {a2 : Value} {a3 : Value} : wps rm K Q c_X_axis_12 kc ks loc (a3 :: a2 :: a1 :: st) h = (st.length ≤ 4 ∧ eg_Cs n_X_isWithin [a1, a2, a3] h (fun v h9 => wps rm K Q c_X_axis_15 kc ks loc (v.toList ++ st) h9)) := eg_c0_3
theorem s_X_axis_15 {x : Int32} : wps rm K Q c_X_axis_15 kc ks loc (.int x :: st) h = ((¬ x = 0 → K 26 kc ks loc st h) ∧ (x = 0 → wps rm K Q c_X_axis_18 kc ks loc (st) h)) := rfl
theorem s_X_axis_18 {x : Nat} {l : eg_Lo} : wps rm K Q c_X_axis_18 kc ks (some (.ref x) :: l) (st) h = wps rm K Q c_X_axis_19 kc ks (some (.ref x) :: l) (.ref x :: st) h := rfl
theorem s_X_axis_19  : wps rm K Q c_X_axis_19 kc ks loc (st) h = wps rm K Q c_X_axis_22 kc ks loc (.long (-1000000000000000001) :: st) h := rfl
theorem s_X_axis_22  {a1 : Value} {x : Nat} : wps rm K Q c_X_axis_22 kc ks loc (a1 :: .ref (x + 1) :: st) h = (eg_cls h x 11 ∧ st.length ≤ 4 ∧ eg_Cs n_X_found (.ref (x + 1) :: [a1]) h (fun v h9 => wps rm K Q c_X_axis_25 kc ks loc (v.toList ++ st) h9)) := eg_c1_1
theorem s_X_axis_25 {x : Int64} : wps rm K Q c_X_axis_25 kc ks loc ([.long x]) h = (kc = rm.cells ∧ Q (some (.long x)) h) := rfl
theorem s_X_axis_26 {x : Nat} {l : eg_Lo} : wps rm K Q c_X_axis_26 kc ks (some (.ref x) :: l) (st) h = wps rm K Q c_X_axis_27 kc ks (some (.ref x) :: l) (.ref x :: st) h := rfl
theorem s_X_axis_27 {x : Nat} : wps rm K Q c_X_axis_27 kc ks loc (.ref (x + 1) :: st) h = eg_gf h x 11 6 (fun v => wps rm K Q c_X_axis_30 kc ks loc (v :: st) h) := rfl
theorem s_X_axis_30 {x : Nat} : wps rm K Q c_X_axis_30 kc ks loc (.ref (x + 1) :: st) h = eg_gf h x 5 1 (fun v => wps rm K Q c_X_axis_33 kc ks loc (v :: st) h) := rfl
theorem s_X_axis_33 {x : Int32} : wps rm K Q c_X_axis_33 kc ks loc (.int x :: st) h = ((¬ x = 0 → K 44 kc ks loc st h) ∧ (x = 0 → wps rm K Q c_X_axis_36 kc ks loc (st) h)) := rfl
theorem s_X_axis_36 {x : Nat} {l : eg_Lo} : wps rm K Q c_X_axis_36 kc ks (some (.ref x) :: l) (st) h = wps rm K Q c_X_axis_37 kc ks (some (.ref x) :: l) (.ref x :: st) h := rfl
theorem s_X_axis_37  : wps rm K Q c_X_axis_37 kc ks loc (st) h = wps rm K Q c_X_axis_40 kc ks loc (.long (-1000000000000000006) :: st) h := rfl
theorem s_X_axis_40  {a1 : Value} {x : Nat} : wps rm K Q c_X_axis_40 kc ks loc (a1 :: .ref (x + 1) :: st) h = (eg_cls h x 11 ∧ st.length ≤ 4 ∧ eg_Cs n_X_found (.ref (x + 1) :: [a1]) h (fun v h9 => wps rm K Q c_X_axis_43 kc ks loc (v.toList ++ st) h9)) := eg_c1_1
theorem s_X_axis_43 {x : Int64} : wps rm K Q c_X_axis_43 kc ks loc ([.long x]) h = (kc = rm.cells ∧ Q (some (.long x)) h) := rfl
theorem s_X_axis_44 {x : Nat} {l : eg_Lo} : wps rm K Q c_X_axis_44 kc ks (some (.ref x) :: l) (st) h = wps rm K Q c_X_axis_45 kc ks (some (.ref x) :: l) (.ref x :: st) h := rfl
theorem s_X_axis_45 {x : Nat} : wps rm K Q c_X_axis_45 kc ks loc (.ref (x + 1) :: st) h = eg_gf h x 11 6 (fun v => wps rm K Q c_X_axis_48 kc ks loc (v :: st) h) := rfl
theorem s_X_axis_48 {x : Nat} : wps rm K Q c_X_axis_48 kc ks loc (.ref (x + 1) :: st) h = eg_gf h x 5 0 (fun v => wps rm K Q c_X_axis_51 kc ks loc (v :: st) h) := rfl
theorem s_X_axis_51  : wps rm K Q c_X_axis_51 kc ks loc (st) h = wps rm K Q c_X_axis_52 kc ks loc (.int (3) :: st) h := rfl
theorem s_X_axis_52 {x : Int32} {l0 : Option Value} {l : eg_Lo} : wps rm K Q c_X_axis_52 kc ks (l0 :: some (.int x) :: l) (st) h = wps rm K Q c_X_axis_53 kc ks (l0 :: some (.int x) :: l) (.int x :: st) h := rfl
theorem s_X_axis_53 {x y : Int32} : wps rm K Q c_X_axis_53 kc ks loc (.int y :: .int x :: st) h = wps rm K Q c_X_axis_54 kc ks loc (.int (x * y) :: st) h := rfl
theorem s_X_axis_54 {x : Int32} {l0 l1 : Option Value} {l : eg_Lo} : wps rm K Q c_X_axis_54 kc ks (l0 :: l1 :: some (.int x) :: l) (st) h = wps rm K Q c_X_axis_55 kc ks (l0 :: l1 :: some (.int x) :: l) (.int x :: st) h := rfl
theorem s_X_axis_55 {x y : Int32} : wps rm K Q c_X_axis_55 kc ks loc (.int y :: .int x :: st) h = wps rm K Q c_X_axis_56 kc ks loc (.int (x + y) :: st) h := rfl
theorem s_X_axis_56 {x : Nat} {i : Int32} : wps rm K Q c_X_axis_56 kc ks loc (.int i :: .ref (x + 1) :: st) h = eg_la h x i (fun v => wps rm K Q c_X_axis_57 kc ks loc (.long v :: st) h) := rfl
theorem s_X_axis_57 {x : Int64} : wps rm K Q c_X_axis_57 kc ks loc ([.long x]) h = (kc = rm.cells ∧ Q (some (.long x)) h) := rfl
def T_X_axis : List (Nat × List eg_I) := [(18, c_X_axis_18), (26, c_X_axis_26), (44, c_X_axis_44)]
theorem j_X_axis_18 {R : Nat → Nat → Nat → eg_Lo → List Value → List eg_E → Prop} {f pc0 : Nat} : eg_run rm R Q T_X_axis (f + 1) 18 kc ks loc st h = wps rm (eg_run rm R Q T_X_axis f) Q c_X_axis_18 kc ks loc st h := rfl
theorem j_X_axis_26 {R : Nat → Nat → Nat → eg_Lo → List Value → List eg_E → Prop} {f pc0 : Nat} : eg_run rm R Q T_X_axis (f + 1) 26 kc ks loc st h = wps rm (eg_run rm R Q T_X_axis f) Q c_X_axis_26 kc ks loc st h := rfl
theorem j_X_axis_44 {R : Nat → Nat → Nat → eg_Lo → List Value → List eg_E → Prop} {f pc0 : Nat} : eg_run rm R Q T_X_axis (f + 1) 44 kc ks loc st h = wps rm (eg_run rm R Q T_X_axis f) Q c_X_axis_44 kc ks loc st h := rfl
end
theorem q_X_axis : (T_X_axis.all fun q => eg_seq m_X_axis q.1 q.2) = true := by decide +kernel
theorem b_X_axis {as : List Value} {h : List eg_E} {Q : Option Value → List eg_E → Prop} (hf : (eg_fl as).length ≤ 3) (hw : wps (eg_rm m_X_axis) (eg_run (eg_rm m_X_axis) (eg_R m_X_axis Q (h.length + 0)) Q T_X_axis 5) Q c_X_axis_0 0 0 (eg_entry 3 as) [] h) : eg_Runs n_X_axis as h Q := eg_begin (d := m_X_axis) rfl (by decide) (by decide +kernel) q_X_axis hf hw
/-! ===== X_inFrame ===== -/
def c_X_inFrame_81 : List eg_I := .inl (81, 1, .lreturn, 0, 0) :: []
def c_X_inFrame_78 : List eg_I := .inr (78, 1, 275, n_Frame_along, 3, 5, 0, 0) :: c_X_inFrame_81
def c_X_inFrame_77 : List eg_I := .inl (77, 1, .iload 2, 0, 0) :: c_X_inFrame_78
def c_X_inFrame_76 : List eg_I := .inl (76, 1, .aaload, 0, 0) :: c_X_inFrame_77
def c_X_inFrame_75 : List eg_I := .inl (75, 1, .iload 1, 0, 0) :: c_X_inFrame_76
def c_X_inFrame_72 : List eg_I := .inl (72, 3, .getfield 11, 11, 0) :: c_X_inFrame_75
def c_X_inFrame_71 : List eg_I := .inl (71, 1, .aload 0, 0, 0) :: c_X_inFrame_72
def c_X_inFrame_70 : List eg_I := .inl (70, 1, .iload 3, 0, 0) :: c_X_inFrame_71
def c_X_inFrame_67 : List eg_I := .inl (67, 3, .getfield 51, 11, 6) :: c_X_inFrame_70
def c_X_inFrame_66 : List eg_I := .inl (66, 1, .aload 0, 0, 0) :: c_X_inFrame_67
def c_X_inFrame_65 : List eg_I := .inl (65, 1, .lreturn, 0, 0) :: []
def c_X_inFrame_62 : List eg_I := .inr (62, 1, 86, n_X_found, 1, 11, 0, 0) :: c_X_inFrame_65
def c_X_inFrame_59 : List eg_I := .inl (59, 3, .sipush (-1000000000000000006), 158, 0) :: c_X_inFrame_62
def c_X_inFrame_58 : List eg_I := .inl (58, 1, .aload 0, 0, 0) :: c_X_inFrame_59
def c_X_inFrame_55 : List eg_I := .inl (55, 3, .ifCond .ne (11), 66, 0) :: c_X_inFrame_58
def c_X_inFrame_52 : List eg_I := .inl (52, 3, .getfield 268, 5, 1) :: c_X_inFrame_55
def c_X_inFrame_49 : List eg_I := .inl (49, 3, .getfield 51, 11, 6) :: c_X_inFrame_52
def c_X_inFrame_48 : List eg_I := .inl (48, 1, .aload 0, 0, 0) :: c_X_inFrame_49
def c_X_inFrame_47 : List eg_I := .inl (47, 1, .lreturn, 0, 0) :: []
def c_X_inFrame_44 : List eg_I := .inr (44, 1, 86, n_X_found, 1, 11, 0, 0) :: c_X_inFrame_47
def c_X_inFrame_41 : List eg_I := .inl (41, 3, .sipush (-1000000000000000007), 113, 0) :: c_X_inFrame_44
def c_X_inFrame_40 : List eg_I := .inl (40, 1, .aload 0, 0, 0) :: c_X_inFrame_41
def c_X_inFrame_37 : List eg_I := .inl (37, 3, .ifCond .eq (11), 48, 0) :: c_X_inFrame_40
def c_X_inFrame_36 : List eg_I := .inl (36, 1, .baload, 0, 0) :: c_X_inFrame_37
def c_X_inFrame_35 : List eg_I := .inl (35, 1, .iload 2, 0, 0) :: c_X_inFrame_36
def c_X_inFrame_32 : List eg_I := .inl (32, 3, .getfield 109, 8, 3) :: c_X_inFrame_35
def c_X_inFrame_31 : List eg_I := .inl (31, 1, .aaload, 0, 0) :: c_X_inFrame_32
def c_X_inFrame_30 : List eg_I := .inl (30, 1, .iload 1, 0, 0) :: c_X_inFrame_31
def c_X_inFrame_27 : List eg_I := .inl (27, 3, .getfield 11, 11, 0) :: c_X_inFrame_30
def c_X_inFrame_26 : List eg_I := .inl (26, 1, .aload 0, 0, 0) :: c_X_inFrame_27
def c_X_inFrame_25 : List eg_I := .inl (25, 1, .lreturn, 0, 0) :: []
def c_X_inFrame_22 : List eg_I := .inr (22, 1, 86, n_X_found, 1, 11, 0, 0) :: c_X_inFrame_25
def c_X_inFrame_19 : List eg_I := .inl (19, 3, .sipush (-1000000000000000001), 84, 0) :: c_X_inFrame_22
def c_X_inFrame_18 : List eg_I := .inl (18, 1, .aload 0, 0, 0) :: c_X_inFrame_19
def c_X_inFrame_15 : List eg_I := .inl (15, 3, .ifCond .ne (11), 26, 0) :: c_X_inFrame_18
def c_X_inFrame_12 : List eg_I := .inr (12, 0, 80, n_X_isWithin, 3, 11, 0, 0) :: c_X_inFrame_15
def c_X_inFrame_11 : List eg_I := .inl (11, 1, .iconst (2), 0, 0) :: c_X_inFrame_12
def c_X_inFrame_10 : List eg_I := .inl (10, 1, .iconst (0), 0, 0) :: c_X_inFrame_11
def c_X_inFrame_9 : List eg_I := .inl (9, 1, .iload 3, 0, 0) :: c_X_inFrame_10
def c_X_inFrame_6 : List eg_I := .inl (6, 3, .ifCond .eq (12), 18, 0) :: c_X_inFrame_9
def c_X_inFrame_3 : List eg_I := .inr (3, 1, 106, n_X_isPoint, 2, 11, 0, 0) :: c_X_inFrame_6
def c_X_inFrame_2 : List eg_I := .inl (2, 1, .iload 2, 0, 0) :: c_X_inFrame_3
def c_X_inFrame_1 : List eg_I := .inl (1, 1, .iload 1, 0, 0) :: c_X_inFrame_2
def c_X_inFrame_0 : List eg_I := .inl (0, 1, .aload 0, 0, 0) :: c_X_inFrame_1
section
variable {rm : Room} {K : Nat → Nat → Nat → eg_Lo → List Value → List eg_E → Prop} {Q : Option Value → List eg_E → Prop} {kc ks : Nat} {loc : eg_Lo} {st : List Value} {h : List eg_E}
theorem s_X_inFrame_0 {x : Nat} {l : eg_Lo} : wps rm K Q c_X_inFrame_0 kc ks (some (.ref x) :: l) (st) h = wps rm K Q c_X_inFrame_1 kc ks (some (.ref x) :: l) (.ref x :: st) h := rfl
theorem s_X_inFrame_1 {x : Int32} {l0 : Option Value} {l : eg_Lo} : wps rm K Q c_X_inFrame_1 kc ks (l0 :: some (.int x) :: l) (st) h = wps rm K Q c_X_inFrame_2 kc ks (l0 :: some (.int x) :: l) (.int x :: st) h := rfl
theorem s_X_inFrame_2 {x : Int32} {l0 l1 : Option Value} {l : eg_Lo} : wps rm K Q c_X_inFrame_2 kc ks (l0 :: l1 :: some (.int x) :: l) (st) h = wps rm K Q c_X_inFrame_3 kc ks (l0 :: l1 :: some (.int x) :: l) (.int x :: st) h := rfl
theorem s_X_inFrame_3  {a1 : Value} {a2 : Value} {x : Nat} : wps rm K Q c_X_inFrame_3 kc ks loc (a2 :: a1 :: .ref (x + 1) :: st) h = (eg_cls h x 11 ∧ st.length ≤ 4 ∧ eg_Cs n_X_isPoint (.ref (x + 1) :: [a1, a2]) h (fun v h9 => wps rm K Q c_X_inFrame_6 kc ks loc (v.toList ++ st) h9)) := eg_c1_2
theorem s_X_inFrame_6 {x : Int32} : wps rm K Q c_X_inFrame_6 kc ks loc (.int x :: st) h = ((x = 0 → K 18 kc ks loc st h) ∧ (¬ x = 0 → wps rm K Q c_X_inFrame_9 kc ks loc (st) h)) := rfl
theorem s_X_inFrame_9 {x : Int32} {l0 l1 l2 : Option Value} {l : eg_Lo} : wps rm K Q c_X_inFrame_9 kc ks (l0 :: l1 :: l2 :: some (.int x) :: l) (st) h = wps rm K Q c_X_inFrame_10 kc ks (l0 :: l1 :: l2 :: some (.int x) :: l) (.int x :: st) h := rfl
theorem s_X_inFrame_10  : wps rm K Q c_X_inFrame_10 kc ks loc (st) h = wps rm K Q c_X_inFrame_11 kc ks loc (.int (0) :: st) h := rfl
theorem s_X_inFrame_11  : wps rm K Q c_X_inFrame_11 kc ks loc (st) h = wps rm K Q c_X_inFrame_12 kc ks loc (.int (2) :: st) h := rfl
theorem s_X_inFrame_12  {a1 : Value} {a2 : Value} {a3 : Value} : wps rm K Q c_X_inFrame_12 kc ks loc (a3 :: a2 :: a1 :: st) h = (st.length ≤ 4 ∧ eg_Cs n_X_isWithin [a1, a2, a3] h (fun v h9 => wps rm K Q c_X_inFrame_15 kc ks loc (v.toList ++ st) h9)) := eg_c0_3
theorem s_X_inFrame_15 {x : Int32} : wps rm K Q c_X_inFrame_15 kc ks loc (.int x :: st) h = ((¬ x = 0 → K 26 kc ks loc st h) ∧ (x = 0 → wps rm K Q c_X_inFrame_18 kc ks loc (st) h)) := rfl
theorem s_X_inFrame_18 {x : Nat} {l : eg_Lo} : wps rm K Q c_X_inFrame_18 kc ks (some (.ref x) :: l) (st) h = wps rm K Q c_X_inFrame_19 kc ks (some (.ref x) :: l) (.ref x :: st) h := rfl
theorem s_X_inFrame_19  : wps rm K Q c_X_inFrame_19 kc ks loc (st) h = wps rm K Q c_X_inFrame_22 kc ks loc (.long (-1000000000000000001) :: st) h := rfl
theorem s_X_inFrame_22  {a1 : Value} {x : Nat} : wps rm K Q c_X_inFrame_22 kc ks loc (a1 :: .ref (x + 1) :: st) h = (eg_cls h x 11 ∧ st.length ≤ 4 ∧ eg_Cs n_X_found (.ref (x + 1) :: [a1]) h (fun v h9 => wps rm K Q c_X_inFrame_25 kc ks loc (v.toList ++ st) h9)) := eg_c1_1
theorem s_X_inFrame_25 {x : Int64} : wps rm K Q c_X_inFrame_25 kc ks loc ([.long x]) h = (kc = rm.cells ∧ Q (some (.long x)) h) := rfl
theorem s_X_inFrame_26 {x : Nat} {l : eg_Lo} : wps rm K Q c_X_inFrame_26 kc ks (some (.ref x) :: l) (st) h = wps rm K Q c_X_inFrame_27 kc ks (some (.ref x) :: l) (.ref x :: st) h := rfl
theorem s_X_inFrame_27 {x : Nat} : wps rm K Q c_X_inFrame_27 kc ks loc (.ref (x + 1) :: st) h = eg_gf h x 11 0 (fun v => wps rm K Q c_X_inFrame_30 kc ks loc (v :: st) h) := rfl
theorem s_X_inFrame_30 {x : Int32} {l0 : Option Value} {l : eg_Lo} : wps rm K Q c_X_inFrame_30 kc ks (l0 :: some (.int x) :: l) (st) h = wps rm K Q c_X_inFrame_31 kc ks (l0 :: some (.int x) :: l) (.int x :: st) h := rfl
theorem s_X_inFrame_31 {x : Nat} {i : Int32} : wps rm K Q c_X_inFrame_31 kc ks loc (.int i :: .ref (x + 1) :: st) h = eg_aa h x i (fun v => wps rm K Q c_X_inFrame_32 kc ks loc (v :: st) h) := rfl
theorem s_X_inFrame_32 {x : Nat} : wps rm K Q c_X_inFrame_32 kc ks loc (.ref (x + 1) :: st) h = eg_gf h x 8 3 (fun v => wps rm K Q c_X_inFrame_35 kc ks loc (v :: st) h) := rfl
theorem s_X_inFrame_35 {x : Int32} {l0 l1 : Option Value} {l : eg_Lo} : wps rm K Q c_X_inFrame_35 kc ks (l0 :: l1 :: some (.int x) :: l) (st) h = wps rm K Q c_X_inFrame_36 kc ks (l0 :: l1 :: some (.int x) :: l) (.int x :: st) h := rfl
theorem s_X_inFrame_36 {x : Nat} {i : Int32} : wps rm K Q c_X_inFrame_36 kc ks loc (.int i :: .ref (x + 1) :: st) h = eg_ba h x i (fun v => wps rm K Q c_X_inFrame_37 kc ks loc (.int v :: st) h) := rfl
theorem s_X_inFrame_37 {x : Int32} : wps rm K Q c_X_inFrame_37 kc ks loc (.int x :: st) h = ((x = 0 → K 48 kc ks loc st h) ∧ (¬ x = 0 → wps rm K Q c_X_inFrame_40 kc ks loc (st) h)) := rfl
theorem s_X_inFrame_40 {x : Nat} {l : eg_Lo} : wps rm K Q c_X_inFrame_40 kc ks (some (.ref x) :: l) (st) h = wps rm K Q c_X_inFrame_41 kc ks (some (.ref x) :: l) (.ref x :: st) h := rfl
theorem s_X_inFrame_41  : wps rm K Q c_X_inFrame_41 kc ks loc (st) h = wps rm K Q c_X_inFrame_44 kc ks loc (.long (-1000000000000000007) :: st) h := rfl
theorem s_X_inFrame_44  {a1 : Value} {x : Nat} : wps rm K Q c_X_inFrame_44 kc ks loc (a1 :: .ref (x + 1) :: st) h = (eg_cls h x 11 ∧ st.length ≤ 4 ∧ eg_Cs n_X_found (.ref (x + 1) :: [a1]) h (fun v h9 => wps rm K Q c_X_inFrame_47 kc ks loc (v.toList ++ st) h9)) := eg_c1_1
theorem s_X_inFrame_47 {x : Int64} : wps rm K Q c_X_inFrame_47 kc ks loc ([.long x]) h = (kc = rm.cells ∧ Q (some (.long x)) h) := rfl
theorem s_X_inFrame_48 {x : Nat} {l : eg_Lo} : wps rm K Q c_X_inFrame_48 kc ks (some (.ref x) :: l) (st) h = wps rm K Q c_X_inFrame_49 kc ks (some (.ref x) :: l) (.ref x :: st) h := rfl
theorem s_X_inFrame_49 {x : Nat} : wps rm K Q c_X_inFrame_49 kc ks loc (.ref (x + 1) :: st) h = eg_gf h x 11 6 (fun v => wps rm K Q c_X_inFrame_52 kc ks loc (v :: st) h) := rfl
theorem s_X_inFrame_52 {x : Nat} : wps rm K Q c_X_inFrame_52 kc ks loc (.ref (x + 1) :: st) h = eg_gf h x 5 1 (fun v => wps rm K Q c_X_inFrame_55 kc ks loc (v :: st) h) := rfl
theorem s_X_inFrame_55 {x : Int32} : wps rm K Q c_X_inFrame_55 kc ks loc (.int x :: st) h = ((¬ x = 0 → K 66 kc ks loc st h) ∧ (x = 0 → wps rm K Q c_X_inFrame_58 kc ks loc (st) h)) := rfl
theorem s_X_inFrame_58 {x : Nat} {l : eg_Lo} : wps rm K Q c_X_inFrame_58 kc ks (some (.ref x) :: l) (st) h = wps rm K Q c_X_inFrame_59 kc ks (some (.ref x) :: l) (.ref x :: st) h := rfl
theorem s_X_inFrame_59  : wps rm K Q c_X_inFrame_59 kc ks loc (st) h = wps rm K Q c_X_inFrame_62 kc ks loc (.long (-1000000000000000006) :: st) h := rfl
theorem s_X_inFrame_62  {a1 : Value} {x : Nat} : wps rm K Q c_X_inFrame_62 kc ks loc (a1 :: .ref (x + 1) :: st) h = (eg_cls h x 11 ∧ st.length ≤ 4 ∧ eg_Cs n_X_found (.ref (x + 1) :: [a1]) h (fun v h9 => wps rm K Q c_X_inFrame_65 kc ks loc (v.toList ++ st) h9)) := eg_c1_1
theorem s_X_inFrame_65 {x : Int64} : wps rm K Q c_X_inFrame_65 kc ks loc ([.long x]) h = (kc = rm.cells ∧ Q (some (.long x)) h) := rfl
theorem s_X_inFrame_66 {x : Nat} {l : eg_Lo} : wps rm K Q c_X_inFrame_66 kc ks (some (.ref x) :: l) (st) h = wps rm K Q c_X_inFrame_67 kc ks (some (.ref x) :: l) (.ref x :: st) h := rfl
theorem s_X_inFrame_67 {x : Nat} : wps rm K Q c_X_inFrame_67 kc ks loc (.ref (x + 1) :: st) h = eg_gf h x 11 6 (fun v => wps rm K Q c_X_inFrame_70 kc ks loc (v :: st) h) := rfl
theorem s_X_inFrame_70 {x : Int32} {l0 l1 l2 : Option Value} {l : eg_Lo} : wps rm K Q c_X_inFrame_70 kc ks (l0 :: l1 :: l2 :: some (.int x) :: l) (st) h = wps rm K Q c_X_inFrame_71 kc ks (l0 :: l1 :: l2 :: some (.int x) :: l) (.int x :: st) h := rfl
theorem s_X_inFrame_71 {x : Nat} {l : eg_Lo} : wps rm K Q c_X_inFrame_71 kc ks (some (.ref x) :: l) (st) h = wps rm K Q c_X_inFrame_72 kc ks (some (.ref x) :: l) (.ref x :: st) h := rfl
theorem s_X_inFrame_72 {x : Nat} : wps rm K Q c_X_inFrame_72 kc ks loc (.ref (x + 1) :: st) h = eg_gf h x 11 0 (fun v => wps rm K Q c_X_inFrame_75 kc ks loc (v :: st) h) := rfl
theorem s_X_inFrame_75 {x : Int32} {l0 : Option Value} {l : eg_Lo} : wps rm K Q c_X_inFrame_75 kc ks (l0 :: some (.int x) :: l) (st) h = wps rm K Q c_X_inFrame_76 kc ks (l0 :: some (.int x) :: l) (.int x :: st) h := rfl
theorem s_X_inFrame_76 {x : Nat} {i : Int32} : wps rm K Q c_X_inFrame_76 kc ks loc (.int i :: .ref (x + 1) :: st) h = eg_aa h x i (fun v => wps rm K Q c_X_inFrame_77 kc ks loc (v :: st) h) := rfl
theorem s_X_inFrame_77 {x : Int32} {l0 l1 : Option Value} {l : eg_Lo} : wps rm K Q c_X_inFrame_77 kc ks (l0 :: l1 :: some (.int x) :: l) (st) h = wps rm K Q c_X_inFrame_78 kc ks (l0 :: l1 :: some (.int x) :: l) (.int x :: st) h := rfl
theorem s_X_inFrame_78  {a1 : Value} {a2 : Value} {a3 : Value} {x : Nat} : wps rm K Q c_X_inFrame_78 kc ks loc (a3 :: a2 :: a1 :: .ref (x + 1) :: st) h = (eg_cls h x 5 ∧ st.length ≤ 4 ∧ eg_Cs n_Frame_along (.ref (x + 1) :: [a1, a2, a3]) h (fun v h9 => wps rm K Q c_X_inFrame_81 kc ks loc (v.toList ++ st) h9)) := eg_c1_3
theorem s_X_inFrame_81 {x : Int64} : wps rm K Q c_X_inFrame_81 kc ks loc ([.long x]) h = (kc = rm.cells ∧ Q (some (.long x)) h) := rfl
def T_X_inFrame : List (Nat × List eg_I) := [(18, c_X_inFrame_18), (26, c_X_inFrame_26), (48, c_X_inFrame_48), (66, c_X_inFrame_66)]
theorem j_X_inFrame_18 {R : Nat → Nat → Nat → eg_Lo → List Value → List eg_E → Prop} {f pc0 : Nat} : eg_run rm R Q T_X_inFrame (f + 1) 18 kc ks loc st h = wps rm (eg_run rm R Q T_X_inFrame f) Q c_X_inFrame_18 kc ks loc st h := rfl
theorem j_X_inFrame_26 {R : Nat → Nat → Nat → eg_Lo → List Value → List eg_E → Prop} {f pc0 : Nat} : eg_run rm R Q T_X_inFrame (f + 1) 26 kc ks loc st h = wps rm (eg_run rm R Q T_X_inFrame f) Q c_X_inFrame_26 kc ks loc st h := rfl
theorem j_X_inFrame_48 {R : Nat → Nat → Nat → eg_Lo → List Value → List eg_E → Prop} {f pc0 : Nat} : eg_run rm R Q T_X_inFrame (f + 1) 48 kc ks loc st h = wps rm (eg_run rm R Q T_X_inFrame f) Q c_X_inFrame_48 kc ks loc st h := rfl
theorem j_X_inFrame_66 {R : Nat → Nat → Nat → eg_Lo → List Value → List eg_E → Prop} {f pc0 : Nat} : eg_run rm R Q T_X_inFrame (f + 1) 66 kc ks loc st h = wps rm (eg_run rm R Q T_X_inFrame f) Q c_X_inFrame_66 kc ks loc st h := rfl
end
theorem q_X_inFrame : (T_X_inFrame.all fun q => eg_seq m_X_inFrame q.1 q.2) = true := by decide +kernel
theorem b_X_inFrame {as : List Value} {h : List eg_E} {Q : Option Value → List eg_E → Prop} (hf : (eg_fl as).length ≤ 4) (hw : wps (eg_rm m_X_inFrame) (eg_run (eg_rm m_X_inFrame) (eg_R m_X_inFrame Q (h.length + 0)) Q T_X_inFrame 6) Q c_X_inFrame_0 0 0 (eg_entry 4 as) [] h) : eg_Runs n_X_inFrame as h Q := eg_begin (d := m_X_inFrame) rfl (by decide) (by decide +kernel) q_X_inFrame hf hw
/-! ===== X_corner ===== -/
def c_X_corner_66 : List eg_I := .inl (66, 1, .lreturn, 0, 0) :: []
def c_X_corner_65 : List eg_I := .inl (65, 1, .i2l, 0, 0) :: c_X_corner_66
def c_X_corner_62 : List eg_I := .inr (62, 1, 283, n_Outl_add, 2, 7, 0, 0) :: c_X_corner_65
def c_X_corner_61 : List eg_I := .inl (61, 1, .iload 2, 0, 0) :: c_X_corner_62
def c_X_corner_60 : List eg_I := .inl (60, 1, .iload 1, 0, 0) :: c_X_corner_61
def c_X_corner_57 : List eg_I := .inl (57, 3, .getfield 58, 11, 7) :: c_X_corner_60
def c_X_corner_56 : List eg_I := .inl (56, 1, .aload 0, 0, 0) :: c_X_corner_57
def c_X_corner_55 : List eg_I := .inl (55, 1, .lreturn, 0, 0) :: []
def c_X_corner_52 : List eg_I := .inr (52, 1, 86, n_X_found, 1, 11, 0, 0) :: c_X_corner_55
def c_X_corner_49 : List eg_I := .inl (49, 3, .sipush (-1000000000000000005), 94, 0) :: c_X_corner_52
def c_X_corner_48 : List eg_I := .inl (48, 1, .aload 0, 0, 0) :: c_X_corner_49
def c_X_corner_45 : List eg_I := .inl (45, 3, .if_icmp .lt (11), 56, 0) :: c_X_corner_48
def c_X_corner_43 : List eg_I := .inl (43, 2, .iconst (10), 0, 0) :: c_X_corner_45
def c_X_corner_40 : List eg_I := .inl (40, 3, .getfield 282, 7, 1) :: c_X_corner_43
def c_X_corner_37 : List eg_I := .inl (37, 3, .getfield 58, 11, 7) :: c_X_corner_40
def c_X_corner_36 : List eg_I := .inl (36, 1, .aload 0, 0, 0) :: c_X_corner_37
def c_X_corner_35 : List eg_I := .inl (35, 1, .lreturn, 0, 0) :: []
def c_X_corner_32 : List eg_I := .inr (32, 1, 86, n_X_found, 1, 11, 0, 0) :: c_X_corner_35
def c_X_corner_29 : List eg_I := .inl (29, 3, .sipush (-1000000000000000003), 163, 0) :: c_X_corner_32
def c_X_corner_28 : List eg_I := .inl (28, 1, .aload 0, 0, 0) :: c_X_corner_29
def c_X_corner_25 : List eg_I := .inl (25, 3, .ifCond .eq (11), 36, 0) :: c_X_corner_28
def c_X_corner_22 : List eg_I := .inr (22, 1, 279, n_Outl_endsAt, 2, 7, 0, 0) :: c_X_corner_25
def c_X_corner_21 : List eg_I := .inl (21, 1, .iload 2, 0, 0) :: c_X_corner_22
def c_X_corner_20 : List eg_I := .inl (20, 1, .iload 1, 0, 0) :: c_X_corner_21
def c_X_corner_17 : List eg_I := .inl (17, 3, .getfield 58, 11, 7) :: c_X_corner_20
def c_X_corner_16 : List eg_I := .inl (16, 1, .aload 0, 0, 0) :: c_X_corner_17
def c_X_corner_15 : List eg_I := .inl (15, 1, .lreturn, 0, 0) :: []
def c_X_corner_12 : List eg_I := .inr (12, 1, 86, n_X_found, 1, 11, 0, 0) :: c_X_corner_15
def c_X_corner_9 : List eg_I := .inl (9, 3, .sipush (-1000000000000000001), 84, 0) :: c_X_corner_12
def c_X_corner_8 : List eg_I := .inl (8, 1, .aload 0, 0, 0) :: c_X_corner_9
def c_X_corner_5 : List eg_I := .inl (5, 3, .ifCond .ne (11), 16, 0) :: c_X_corner_8
def c_X_corner_2 : List eg_I := .inr (2, 0, 76, n_X_isPlace, 2, 11, 0, 0) :: c_X_corner_5
def c_X_corner_1 : List eg_I := .inl (1, 1, .iload 2, 0, 0) :: c_X_corner_2
def c_X_corner_0 : List eg_I := .inl (0, 1, .iload 1, 0, 0) :: c_X_corner_1
section
variable {rm : Room} {K : Nat → Nat → Nat → eg_Lo → List Value → List eg_E → Prop} {Q : Option Value → List eg_E → Prop} {kc ks : Nat} {loc : eg_Lo} {st : List Value} {h : List eg_E}
theorem s_X_corner_0 {x : Int32} {l0 : Option Value} {l : eg_Lo} : wps rm K Q c_X_corner_0 kc ks (l0 :: some (.int x) :: l) (st) h = wps rm K Q c_X_corner_1 kc ks (l0 :: some (.int x) :: l) (.int x :: st) h := rfl
theorem s_X_corner_1 {x : Int32} {l0 l1 : Option Value} {l : eg_Lo} : wps rm K Q c_X_corner_1 kc ks (l0 :: l1 :: some (.int x) :: l) (st) h = wps rm K Q c_X_corner_2 kc ks (l0 :: l1 :: some (.int x) :: l) (.int x :: st) h := rfl
theorem s_X_corner_2  {a1 : Value} {a2 : Value} : wps rm K Q c_X_corner_2 kc ks loc (a2 :: a1 :: st) h = (st.length ≤ 4 ∧ eg_Cs n_X_isPlace [a1, a2] h (fun v h9 => wps rm K Q c_X_corner_5 kc ks loc (v.toList ++ st) h9)) := eg_c0_2
theorem s_X_corner_5 {x : Int32} : wps rm K Q c_X_corner_5 kc ks loc (.int x :: st) h = ((¬ x = 0 → K 16 kc ks loc st h) ∧ (x = 0 → wps rm K Q c_X_corner_8 kc ks loc (st) h)) := rfl
theorem s_X_corner_8 {x : Nat} {l : eg_Lo} : wps rm K Q c_X_corner_8 kc ks (some (.ref x) :: l) (st) h = wps rm K Q c_X_corner_9 kc ks (some (.ref x) :: l) (.ref x :: st) h := rfl
theorem s_X_corner_9  : wps rm K Q c_X_corner_9 kc ks loc (st) h = wps rm K Q c_X_corner_12 kc ks loc (.long (-1000000000000000001) :: st) h := rfl
theorem s_X_corner_12  {a1 : Value} {x : Nat} : wps rm K Q c_X_corner_12 kc ks loc (a1 :: .ref (x + 1) :: st) h = (eg_cls h x 11 ∧ st.length ≤ 4 ∧ eg_Cs n_X_found (.ref (x + 1) :: [a1]) h (fun v h9 => wps rm K Q c_X_corner_15 kc ks loc (v.toList ++ st) h9)) := eg_c1_1
theorem s_X_corner_15 {x : Int64} : wps rm K Q c_X_corner_15 kc ks loc ([.long x]) h = (kc = rm.cells ∧ Q (some (.long x)) h) := rfl
theorem s_X_corner_16 {x : Nat} {l : eg_Lo} : wps rm K Q c_X_corner_16 kc ks (some (.ref x) :: l) (st) h = wps rm K Q c_X_corner_17 kc ks (some (.ref x) :: l) (.ref x :: st) h := rfl
theorem s_X_corner_17 {x : Nat} : wps rm K Q c_X_corner_17 kc ks loc (.ref (x + 1) :: st) h = eg_gf h x 11 7 (fun v => wps rm K Q c_X_corner_20 kc ks loc (v :: st) h) := rfl
theorem s_X_corner_20 {x : Int32} {l0 : Option Value} {l : eg_Lo} : wps rm K Q c_X_corner_20 kc ks (l0 :: some (.int x) :: l) (st) h = wps rm K Q c_X_corner_21 kc ks (l0 :: some (.int x) :: l) (.int x :: st) h := rfl
theorem s_X_corner_21 {x : Int32} {l0 l1 : Option Value} {l : eg_Lo} : wps rm K Q c_X_corner_21 kc ks (l0 :: l1 :: some (.int x) :: l) (st) h = wps rm K Q c_X_corner_22 kc ks (l0 :: l1 :: some (.int x) :: l) (.int x :: st) h := rfl
theorem s_X_corner_22  {a1 : Value} {a2 : Value} {x : Nat} : wps rm K Q c_X_corner_22 kc ks loc (a2 :: a1 :: .ref (x + 1) :: st) h = (eg_cls h x 7 ∧ st.length ≤ 4 ∧ eg_Cs n_Outl_endsAt (.ref (x + 1) :: [a1, a2]) h (fun v h9 => wps rm K Q c_X_corner_25 kc ks loc (v.toList ++ st) h9)) := eg_c1_2
theorem s_X_corner_25 {x : Int32} : wps rm K Q c_X_corner_25 kc ks loc (.int x :: st) h = ((x = 0 → K 36 kc ks loc st h) ∧ (¬ x = 0 → wps rm K Q c_X_corner_28 kc ks loc (st) h)) := rfl
theorem s_X_corner_28 {x : Nat} {l : eg_Lo} : wps rm K Q c_X_corner_28 kc ks (some (.ref x) :: l) (st) h = wps rm K Q c_X_corner_29 kc ks (some (.ref x) :: l) (.ref x :: st) h := rfl
theorem s_X_corner_29  : wps rm K Q c_X_corner_29 kc ks loc (st) h = wps rm K Q c_X_corner_32 kc ks loc (.long (-1000000000000000003) :: st) h := rfl
theorem s_X_corner_32  {a1 : Value} {x : Nat} : wps rm K Q c_X_corner_32 kc ks loc (a1 :: .ref (x + 1) :: st) h = (eg_cls h x 11 ∧ st.length ≤ 4 ∧ eg_Cs n_X_found (.ref (x + 1) :: [a1]) h (fun v h9 => wps rm K Q c_X_corner_35 kc ks loc (v.toList ++ st) h9)) := eg_c1_1
theorem s_X_corner_35 {x : Int64} : wps rm K Q c_X_corner_35 kc ks loc ([.long x]) h = (kc = rm.cells ∧ Q (some (.long x)) h) := rfl
theorem s_X_corner_36 {x : Nat} {l : eg_Lo} : wps rm K Q c_X_corner_36 kc ks (some (.ref x) :: l) (st) h = wps rm K Q c_X_corner_37 kc ks (some (.ref x) :: l) (.ref x :: st) h := rfl
theorem s_X_corner_37 {x : Nat} : wps rm K Q c_X_corner_37 kc ks loc (.ref (x + 1) :: st) h = eg_gf h x 11 7 (fun v => wps rm K Q c_X_corner_40 kc ks loc (v :: st) h) := rfl
theorem s_X_corner_40 {x : Nat} : wps rm K Q c_X_corner_40 kc ks loc (.ref (x + 1) :: st) h = eg_gf h x 7 1 (fun v => wps rm K Q c_X_corner_43 kc ks loc (v :: st) h) := rfl
theorem s_X_corner_43  : wps rm K Q c_X_corner_43 kc ks loc (st) h = wps rm K Q c_X_corner_45 kc ks loc (.int (10) :: st) h := rfl
theorem s_X_corner_45 {x y : Int32} : wps rm K Q c_X_corner_45 kc ks loc (.int y :: .int x :: st) h = ((x < y → K 56 kc ks loc st h) ∧ (¬ x < y → wps rm K Q c_X_corner_48 kc ks loc (st) h)) := rfl
theorem s_X_corner_48 {x : Nat} {l : eg_Lo} : wps rm K Q c_X_corner_48 kc ks (some (.ref x) :: l) (st) h = wps rm K Q c_X_corner_49 kc ks (some (.ref x) :: l) (.ref x :: st) h := rfl
theorem s_X_corner_49  : wps rm K Q c_X_corner_49 kc ks loc (st) h = wps rm K Q c_X_corner_52 kc ks loc (.long (-1000000000000000005) :: st) h := rfl
theorem s_X_corner_52  {a1 : Value} {x : Nat} : wps rm K Q c_X_corner_52 kc ks loc (a1 :: .ref (x + 1) :: st) h = (eg_cls h x 11 ∧ st.length ≤ 4 ∧ eg_Cs n_X_found (.ref (x + 1) :: [a1]) h (fun v h9 => wps rm K Q c_X_corner_55 kc ks loc (v.toList ++ st) h9)) := eg_c1_1
theorem s_X_corner_55 {x : Int64} : wps rm K Q c_X_corner_55 kc ks loc ([.long x]) h = (kc = rm.cells ∧ Q (some (.long x)) h) := rfl
theorem s_X_corner_56 {x : Nat} {l : eg_Lo} : wps rm K Q c_X_corner_56 kc ks (some (.ref x) :: l) (st) h = wps rm K Q c_X_corner_57 kc ks (some (.ref x) :: l) (.ref x :: st) h := rfl
theorem s_X_corner_57 {x : Nat} : wps rm K Q c_X_corner_57 kc ks loc (.ref (x + 1) :: st) h = eg_gf h x 11 7 (fun v => wps rm K Q c_X_corner_60 kc ks loc (v :: st) h) := rfl
theorem s_X_corner_60 {x : Int32} {l0 : Option Value} {l : eg_Lo} : wps rm K Q c_X_corner_60 kc ks (l0 :: some (.int x) :: l) (st) h = wps rm K Q c_X_corner_61 kc ks (l0 :: some (.int x) :: l) (.int x :: st) h := rfl
theorem s_X_corner_61 {x : Int32} {l0 l1 : Option Value} {l : eg_Lo} : wps rm K Q c_X_corner_61 kc ks (l0 :: l1 :: some (.int x) :: l) (st) h = wps rm K Q c_X_corner_62 kc ks (l0 :: l1 :: some (.int x) :: l) (.int x :: st) h := rfl
theorem s_X_corner_62  {a1 : Value} {a2 : Value} {x : Nat} : wps rm K Q c_X_corner_62 kc ks loc (a2 :: a1 :: .ref (x + 1) :: st) h = (eg_cls h x 7 ∧ st.length ≤ 4 ∧ eg_Cs n_Outl_add (.ref (x + 1) :: [a1, a2]) h (fun v h9 => wps rm K Q c_X_corner_65 kc ks loc (v.toList ++ st) h9)) := eg_c1_2
theorem s_X_corner_65 {x : Int32} : wps rm K Q c_X_corner_65 kc ks loc (.int x :: st) h = wps rm K Q c_X_corner_66 kc ks loc (.long (x.toInt64) :: st) h := rfl
theorem s_X_corner_66 {x : Int64} : wps rm K Q c_X_corner_66 kc ks loc ([.long x]) h = (kc = rm.cells ∧ Q (some (.long x)) h) := rfl
def T_X_corner : List (Nat × List eg_I) := [(16, c_X_corner_16), (36, c_X_corner_36), (56, c_X_corner_56)]
theorem j_X_corner_16 {R : Nat → Nat → Nat → eg_Lo → List Value → List eg_E → Prop} {f pc0 : Nat} : eg_run rm R Q T_X_corner (f + 1) 16 kc ks loc st h = wps rm (eg_run rm R Q T_X_corner f) Q c_X_corner_16 kc ks loc st h := rfl
theorem j_X_corner_36 {R : Nat → Nat → Nat → eg_Lo → List Value → List eg_E → Prop} {f pc0 : Nat} : eg_run rm R Q T_X_corner (f + 1) 36 kc ks loc st h = wps rm (eg_run rm R Q T_X_corner f) Q c_X_corner_36 kc ks loc st h := rfl
theorem j_X_corner_56 {R : Nat → Nat → Nat → eg_Lo → List Value → List eg_E → Prop} {f pc0 : Nat} : eg_run rm R Q T_X_corner (f + 1) 56 kc ks loc st h = wps rm (eg_run rm R Q T_X_corner f) Q c_X_corner_56 kc ks loc st h := rfl
end
theorem q_X_corner : (T_X_corner.all fun q => eg_seq m_X_corner q.1 q.2) = true := by decide +kernel
theorem b_X_corner {as : List Value} {h : List eg_E} {Q : Option Value → List eg_E → Prop} (hf : (eg_fl as).length ≤ 3) (hw : wps (eg_rm m_X_corner) (eg_run (eg_rm m_X_corner) (eg_R m_X_corner Q (h.length + 0)) Q T_X_corner 5) Q c_X_corner_0 0 0 (eg_entry 3 as) [] h) : eg_Runs n_X_corner as h Q := eg_begin (d := m_X_corner) rfl (by decide) (by decide +kernel) q_X_corner hf hw
/-! ===== X_open ===== -/
def c_X_open_18 : List eg_I := .inl (18, 1, .lreturn, 0, 0) :: []
def c_X_open_17 : List eg_I := .inl (17, 1, .i2l, 0, 0) :: c_X_open_18
def c_X_open_16 : List eg_I := .inl (16, 1, .iload 1, 0, 0) :: c_X_open_17
def c_X_open_13 : List eg_I := .inl (13, 3, .putfield 282, 7, 1) :: c_X_open_16
def c_X_open_12 : List eg_I := .inl (12, 1, .iconst (0), 0, 0) :: c_X_open_13
def c_X_open_9 : List eg_I := .inl (9, 3, .getfield 58, 11, 7) :: c_X_open_12
def c_X_open_8 : List eg_I := .inl (8, 1, .aload 0, 0, 0) :: c_X_open_9
def c_X_open_7 : List eg_I := .inl (7, 1, .istore 1, 0, 0) :: c_X_open_8
def c_X_open_4 : List eg_I := .inl (4, 3, .getfield 282, 7, 1) :: c_X_open_7
def c_X_open_1 : List eg_I := .inl (1, 3, .getfield 58, 11, 7) :: c_X_open_4
def c_X_open_0 : List eg_I := .inl (0, 1, .aload 0, 0, 0) :: c_X_open_1
section
variable {rm : Room} {K : Nat → Nat → Nat → eg_Lo → List Value → List eg_E → Prop} {Q : Option Value → List eg_E → Prop} {kc ks : Nat} {loc : eg_Lo} {st : List Value} {h : List eg_E}
theorem s_X_open_0 {x : Nat} {l : eg_Lo} : wps rm K Q c_X_open_0 kc ks (some (.ref x) :: l) (st) h = wps rm K Q c_X_open_1 kc ks (some (.ref x) :: l) (.ref x :: st) h := rfl
theorem s_X_open_1 {x : Nat} : wps rm K Q c_X_open_1 kc ks loc (.ref (x + 1) :: st) h = eg_gf h x 11 7 (fun v => wps rm K Q c_X_open_4 kc ks loc (v :: st) h) := rfl
theorem s_X_open_4 {x : Nat} : wps rm K Q c_X_open_4 kc ks loc (.ref (x + 1) :: st) h = eg_gf h x 7 1 (fun v => wps rm K Q c_X_open_7 kc ks loc (v :: st) h) := rfl
theorem s_X_open_7 {x : Int32} : wps rm K Q c_X_open_7 kc ks loc (.int x :: st) h = wps rm K Q c_X_open_8 kc ks (eg_set1 loc 1 (.int x)) (st) h := rfl
theorem s_X_open_8 {x : Nat} {l : eg_Lo} : wps rm K Q c_X_open_8 kc ks (some (.ref x) :: l) (st) h = wps rm K Q c_X_open_9 kc ks (some (.ref x) :: l) (.ref x :: st) h := rfl
theorem s_X_open_9 {x : Nat} : wps rm K Q c_X_open_9 kc ks loc (.ref (x + 1) :: st) h = eg_gf h x 11 7 (fun v => wps rm K Q c_X_open_12 kc ks loc (v :: st) h) := rfl
theorem s_X_open_12  : wps rm K Q c_X_open_12 kc ks loc (st) h = wps rm K Q c_X_open_13 kc ks loc (.int (0) :: st) h := rfl
theorem s_X_open_13 {x : Nat} {v : Value} : wps rm K Q c_X_open_13 kc ks loc (v :: .ref (x + 1) :: st) h = eg_pf h x 7 1 v (fun h9 => wps rm K Q c_X_open_16 kc ks loc (st) h9) := rfl
theorem s_X_open_16 {x : Int32} {l0 : Option Value} {l : eg_Lo} : wps rm K Q c_X_open_16 kc ks (l0 :: some (.int x) :: l) (st) h = wps rm K Q c_X_open_17 kc ks (l0 :: some (.int x) :: l) (.int x :: st) h := rfl
theorem s_X_open_17 {x : Int32} : wps rm K Q c_X_open_17 kc ks loc (.int x :: st) h = wps rm K Q c_X_open_18 kc ks loc (.long (x.toInt64) :: st) h := rfl
theorem s_X_open_18 {x : Int64} : wps rm K Q c_X_open_18 kc ks loc ([.long x]) h = (kc = rm.cells ∧ Q (some (.long x)) h) := rfl
def T_X_open : List (Nat × List eg_I) := []
end
theorem q_X_open : (T_X_open.all fun q => eg_seq m_X_open q.1 q.2) = true := by decide +kernel
theorem b_X_open {as : List Value} {h : List eg_E} {Q : Option Value → List eg_E → Prop} (hf : (eg_fl as).length ≤ 2) (hw : wps (eg_rm m_X_open) (eg_run (eg_rm m_X_open) (eg_R m_X_open Q (h.length + 0)) Q T_X_open 2) Q c_X_open_0 0 0 (eg_entry 2 as) [] h) : eg_Runs n_X_open as h Q := eg_begin (d := m_X_open) rfl (by decide) (by decide +kernel) q_X_open hf hw
/-! ===== X_nearest ===== -/
def c_X_nearest_49 : List eg_I := .inl (49, 1, .lreturn, 0, 0) :: []
def c_X_nearest_48 : List eg_I := .inl (48, 1, .i2l, 0, 0) :: c_X_nearest_49
def c_X_nearest_45 : List eg_I := .inr (45, 1, 289, n_Outl_findNearest, 2, 7, 0, 0) :: c_X_nearest_48
def c_X_nearest_44 : List eg_I := .inl (44, 1, .iaload, 0, 0) :: c_X_nearest_45
def c_X_nearest_43 : List eg_I := .inl (43, 1, .iload 2, 0, 0) :: c_X_nearest_44
def c_X_nearest_40 : List eg_I := .inl (40, 3, .getfield 119, 8, 1) :: c_X_nearest_43
def c_X_nearest_39 : List eg_I := .inl (39, 1, .aaload, 0, 0) :: c_X_nearest_40
def c_X_nearest_38 : List eg_I := .inl (38, 1, .iload 1, 0, 0) :: c_X_nearest_39
def c_X_nearest_35 : List eg_I := .inl (35, 3, .getfield 11, 11, 0) :: c_X_nearest_38
def c_X_nearest_34 : List eg_I := .inl (34, 1, .aload 0, 0, 0) :: c_X_nearest_35
def c_X_nearest_33 : List eg_I := .inl (33, 1, .iaload, 0, 0) :: c_X_nearest_34
def c_X_nearest_32 : List eg_I := .inl (32, 1, .iload 2, 0, 0) :: c_X_nearest_33
def c_X_nearest_29 : List eg_I := .inl (29, 3, .getfield 115, 8, 0) :: c_X_nearest_32
def c_X_nearest_28 : List eg_I := .inl (28, 1, .aaload, 0, 0) :: c_X_nearest_29
def c_X_nearest_27 : List eg_I := .inl (27, 1, .iload 1, 0, 0) :: c_X_nearest_28
def c_X_nearest_24 : List eg_I := .inl (24, 3, .getfield 11, 11, 0) :: c_X_nearest_27
def c_X_nearest_23 : List eg_I := .inl (23, 1, .aload 0, 0, 0) :: c_X_nearest_24
def c_X_nearest_20 : List eg_I := .inl (20, 3, .getfield 58, 11, 7) :: c_X_nearest_23
def c_X_nearest_19 : List eg_I := .inl (19, 1, .aload 0, 0, 0) :: c_X_nearest_20
def c_X_nearest_18 : List eg_I := .inl (18, 1, .lreturn, 0, 0) :: []
def c_X_nearest_15 : List eg_I := .inr (15, 1, 86, n_X_found, 1, 11, 0, 0) :: c_X_nearest_18
def c_X_nearest_14 : List eg_I := .inl (14, 1, .lload 3, 0, 0) :: c_X_nearest_15
def c_X_nearest_13 : List eg_I := .inl (13, 1, .aload 0, 0, 0) :: c_X_nearest_14
def c_X_nearest_10 : List eg_I := .inl (10, 3, .ifCond .eq (9), 19, 0) :: c_X_nearest_13
def c_X_nearest_9 : List eg_I := .inl (9, 1, .lcmp, 0, 0) :: c_X_nearest_10
def c_X_nearest_8 : List eg_I := .inl (8, 1, .sipush (0), 0, 0) :: c_X_nearest_9
def c_X_nearest_7 : List eg_I := .inl (7, 1, .lload 3, 0, 0) :: c_X_nearest_8
def c_X_nearest_6 : List eg_I := .inl (6, 1, .lstore 3, 0, 0) :: c_X_nearest_7
def c_X_nearest_3 : List eg_I := .inr (3, 1, 285, n_X_outlineFinding, 2, 11, 0, 0) :: c_X_nearest_6
def c_X_nearest_2 : List eg_I := .inl (2, 1, .iload 2, 0, 0) :: c_X_nearest_3
def c_X_nearest_1 : List eg_I := .inl (1, 1, .iload 1, 0, 0) :: c_X_nearest_2
def c_X_nearest_0 : List eg_I := .inl (0, 1, .aload 0, 0, 0) :: c_X_nearest_1
section
variable {rm : Room} {K : Nat → Nat → Nat → eg_Lo → List Value → List eg_E → Prop} {Q : Option Value → List eg_E → Prop} {kc ks : Nat} {loc : eg_Lo} {st : List Value} {h : List eg_E}
theorem s_X_nearest_0 {x : Nat} {l : eg_Lo} : wps rm K Q c_X_nearest_0 kc ks (some (.ref x) :: l) (st) h = wps rm K Q c_X_nearest_1 kc ks (some (.ref x) :: l) (.ref x :: st) h := rfl
theorem s_X_nearest_1 {x : Int32} {l0 : Option Value} {l : eg_Lo} : wps rm K Q c_X_nearest_1 kc ks (l0 :: some (.int x) :: l) (st) h = wps rm K Q c_X_nearest_2 kc ks (l0 :: some (.int x) :: l) (.int x :: st) h := rfl
theorem s_X_nearest_2 {x : Int32} {l0 l1 : Option Value} {l : eg_Lo} : wps rm K Q c_X_nearest_2 kc ks (l0 :: l1 :: some (.int x) :: l) (st) h = wps rm K Q c_X_nearest_3 kc ks (l0 :: l1 :: some (.int x) :: l) (.int x :: st) h := rfl
theorem s_X_nearest_3  {a1 : Value} {a2 : Value} {x : Nat} : wps rm K Q c_X_nearest_3 kc ks loc (a2 :: a1 :: .ref (x + 1) :: st) h = (eg_cls h x 11 ∧ st.length ≤ 4 ∧ eg_Cs n_X_outlineFinding (.ref (x + 1) :: [a1, a2]) h (fun v h9 => wps rm K Q c_X_nearest_6 kc ks loc (v.toList ++ st) h9)) := eg_c1_2
theorem s_X_nearest_6 {x : Int64} : wps rm K Q c_X_nearest_6 kc ks loc (.long x :: st) h = wps rm K Q c_X_nearest_7 kc ks (eg_set2 loc 3 (.long x)) (st) h := rfl
theorem s_X_nearest_7 {x : Int64} {l0 l1 l2 : Option Value} {l : eg_Lo} : wps rm K Q c_X_nearest_7 kc ks (l0 :: l1 :: l2 :: some (.long x) :: l) (st) h = wps rm K Q c_X_nearest_8 kc ks (l0 :: l1 :: l2 :: some (.long x) :: l) (.long x :: st) h := rfl
theorem s_X_nearest_8  : wps rm K Q c_X_nearest_8 kc ks loc (st) h = wps rm K Q c_X_nearest_9 kc ks loc (.long (0) :: st) h := rfl
theorem s_X_nearest_9 {x y : Int64} : wps rm K Q c_X_nearest_9 kc ks loc (.long y :: .long x :: st) h = wps rm K Q c_X_nearest_10 kc ks loc (.int (lg_cmp x y) :: st) h := rfl
theorem s_X_nearest_10 {x : Int32} : wps rm K Q c_X_nearest_10 kc ks loc (.int x :: st) h = ((x = 0 → K 19 kc ks loc st h) ∧ (¬ x = 0 → wps rm K Q c_X_nearest_13 kc ks loc (st) h)) := rfl
theorem s_X_nearest_13 {x : Nat} {l : eg_Lo} : wps rm K Q c_X_nearest_13 kc ks (some (.ref x) :: l) (st) h = wps rm K Q c_X_nearest_14 kc ks (some (.ref x) :: l) (.ref x :: st) h := rfl
theorem s_X_nearest_14 {x : Int64} {l0 l1 l2 : Option Value} {l : eg_Lo} : wps rm K Q c_X_nearest_14 kc ks (l0 :: l1 :: l2 :: some (.long x) :: l) (st) h = wps rm K Q c_X_nearest_15 kc ks (l0 :: l1 :: l2 :: some (.long x) :: l) (.long x :: st) h := rfl
theorem s_X_nearest_15  {a1 : Value} {x : Nat} : wps rm K Q c_X_nearest_15 kc ks loc (a1 :: .ref (x + 1) :: st) h = (eg_cls h x 11 ∧ st.length ≤ 4 ∧ eg_Cs n_X_found (.ref (x + 1) :: [a1]) h (fun v h9 => wps rm K Q c_X_nearest_18 kc ks loc (v.toList ++ st) h9)) := eg_c1_1
theorem s_X_nearest_18 {x : Int64} : wps rm K Q c_X_nearest_18 kc ks loc ([.long x]) h = (kc = rm.cells ∧ Q (some (.long x)) h) := rfl
theorem s_X_nearest_19 {x : Nat} {l : eg_Lo} : wps rm K Q c_X_nearest_19 kc ks (some (.ref x) :: l) (st) h = wps rm K Q c_X_nearest_20 kc ks (some (.ref x) :: l) (.ref x :: st) h := rfl
theorem s_X_nearest_20 {x : Nat} : wps rm K Q c_X_nearest_20 kc ks loc (.ref (x + 1) :: st) h = eg_gf h x 11 7 (fun v => wps rm K Q c_X_nearest_23 kc ks loc (v :: st) h) := rfl
theorem s_X_nearest_23 {x : Nat} {l : eg_Lo} : wps rm K Q c_X_nearest_23 kc ks (some (.ref x) :: l) (st) h = wps rm K Q c_X_nearest_24 kc ks (some (.ref x) :: l) (.ref x :: st) h := rfl
theorem s_X_nearest_24 {x : Nat} : wps rm K Q c_X_nearest_24 kc ks loc (.ref (x + 1) :: st) h = eg_gf h x 11 0 (fun v => wps rm K Q c_X_nearest_27 kc ks loc (v :: st) h) := rfl
theorem s_X_nearest_27 {x : Int32} {l0 : Option Value} {l : eg_Lo} : wps rm K Q c_X_nearest_27 kc ks (l0 :: some (.int x) :: l) (st) h = wps rm K Q c_X_nearest_28 kc ks (l0 :: some (.int x) :: l) (.int x :: st) h := rfl
theorem s_X_nearest_28 {x : Nat} {i : Int32} : wps rm K Q c_X_nearest_28 kc ks loc (.int i :: .ref (x + 1) :: st) h = eg_aa h x i (fun v => wps rm K Q c_X_nearest_29 kc ks loc (v :: st) h) := rfl
theorem s_X_nearest_29 {x : Nat} : wps rm K Q c_X_nearest_29 kc ks loc (.ref (x + 1) :: st) h = eg_gf h x 8 0 (fun v => wps rm K Q c_X_nearest_32 kc ks loc (v :: st) h) := rfl
theorem s_X_nearest_32 {x : Int32} {l0 l1 : Option Value} {l : eg_Lo} : wps rm K Q c_X_nearest_32 kc ks (l0 :: l1 :: some (.int x) :: l) (st) h = wps rm K Q c_X_nearest_33 kc ks (l0 :: l1 :: some (.int x) :: l) (.int x :: st) h := rfl
theorem s_X_nearest_33 {x : Nat} {i : Int32} : wps rm K Q c_X_nearest_33 kc ks loc (.int i :: .ref (x + 1) :: st) h = eg_ia h x i (fun v => wps rm K Q c_X_nearest_34 kc ks loc (.int v :: st) h) := rfl
theorem s_X_nearest_34 {x : Nat} {l : eg_Lo} : wps rm K Q c_X_nearest_34 kc ks (some (.ref x) :: l) (st) h = wps rm K Q c_X_nearest_35 kc ks (some (.ref x) :: l) (.ref x :: st) h := rfl
theorem s_X_nearest_35 {x : Nat} : wps rm K Q c_X_nearest_35 kc ks loc (.ref (x + 1) :: st) h = eg_gf h x 11 0 (fun v => wps rm K Q c_X_nearest_38 kc ks loc (v :: st) h) := rfl
theorem s_X_nearest_38 {x : Int32} {l0 : Option Value} {l : eg_Lo} : wps rm K Q c_X_nearest_38 kc ks (l0 :: some (.int x) :: l) (st) h = wps rm K Q c_X_nearest_39 kc ks (l0 :: some (.int x) :: l) (.int x :: st) h := rfl
theorem s_X_nearest_39 {x : Nat} {i : Int32} : wps rm K Q c_X_nearest_39 kc ks loc (.int i :: .ref (x + 1) :: st) h = eg_aa h x i (fun v => wps rm K Q c_X_nearest_40 kc ks loc (v :: st) h) := rfl
theorem s_X_nearest_40 {x : Nat} : wps rm K Q c_X_nearest_40 kc ks loc (.ref (x + 1) :: st) h = eg_gf h x 8 1 (fun v => wps rm K Q c_X_nearest_43 kc ks loc (v :: st) h) := rfl
theorem s_X_nearest_43 {x : Int32} {l0 l1 : Option Value} {l : eg_Lo} : wps rm K Q c_X_nearest_43 kc ks (l0 :: l1 :: some (.int x) :: l) (st) h = wps rm K Q c_X_nearest_44 kc ks (l0 :: l1 :: some (.int x) :: l) (.int x :: st) h := rfl
theorem s_X_nearest_44 {x : Nat} {i : Int32} : wps rm K Q c_X_nearest_44 kc ks loc (.int i :: .ref (x + 1) :: st) h = eg_ia h x i (fun v => wps rm K Q c_X_nearest_45 kc ks loc (.int v :: st) h) := rfl
theorem s_X_nearest_45  {a1 : Value} {a2 : Value} {x : Nat} : wps rm K Q c_X_nearest_45 kc ks loc (a2 :: a1 :: .ref (x + 1) :: st) h = (eg_cls h x 7 ∧ st.length ≤ 4 ∧ eg_Cs n_Outl_findNearest (.ref (x + 1) :: [a1, a2]) h (fun v h9 => wps rm K Q c_X_nearest_48 kc ks loc (v.toList ++ st) h9)) := eg_c1_2
theorem s_X_nearest_48 {x : Int32} : wps rm K Q c_X_nearest_48 kc ks loc (.int x :: st) h = wps rm K Q c_X_nearest_49 kc ks loc (.long (x.toInt64) :: st) h := rfl
theorem s_X_nearest_49 {x : Int64} : wps rm K Q c_X_nearest_49 kc ks loc ([.long x]) h = (kc = rm.cells ∧ Q (some (.long x)) h) := rfl
def T_X_nearest : List (Nat × List eg_I) := [(19, c_X_nearest_19)]
theorem j_X_nearest_19 {R : Nat → Nat → Nat → eg_Lo → List Value → List eg_E → Prop} {f pc0 : Nat} : eg_run rm R Q T_X_nearest (f + 1) 19 kc ks loc st h = wps rm (eg_run rm R Q T_X_nearest f) Q c_X_nearest_19 kc ks loc st h := rfl
end
theorem q_X_nearest : (T_X_nearest.all fun q => eg_seq m_X_nearest q.1 q.2) = true := by decide +kernel
theorem b_X_nearest {as : List Value} {h : List eg_E} {Q : Option Value → List eg_E → Prop} (hf : (eg_fl as).length ≤ 5) (hw : wps (eg_rm m_X_nearest) (eg_run (eg_rm m_X_nearest) (eg_R m_X_nearest Q (h.length + 0)) Q T_X_nearest 3) Q c_X_nearest_0 0 0 (eg_entry 5 as) [] h) : eg_Runs n_X_nearest as h Q := eg_begin (d := m_X_nearest) rfl (by decide) (by decide +kernel) q_X_nearest hf hw
/-! ===== X_far ===== -/
def c_X_far_63 : List eg_I := .inl (63, 1, .lreturn, 0, 0) :: []
def c_X_far_60 : List eg_I := .inr (60, 1, 232, n_Frac_side, 1, 4, 0, 0) :: c_X_far_63
def c_X_far_59 : List eg_I := .inl (59, 1, .iload 3, 0, 0) :: c_X_far_60
def c_X_far_56 : List eg_I := .inl (56, 3, .getfield 292, 7, 0) :: c_X_far_59
def c_X_far_53 : List eg_I := .inl (53, 3, .getfield 58, 11, 7) :: c_X_far_56
def c_X_far_52 : List eg_I := .inl (52, 1, .aload 0, 0, 0) :: c_X_far_53
def c_X_far_51 : List eg_I := .inl (51, 1, .pop, 0, 0) :: c_X_far_52
def c_X_far_48 : List eg_I := .inr (48, 1, 289, n_Outl_findNearest, 2, 7, 0, 0) :: c_X_far_51
def c_X_far_47 : List eg_I := .inl (47, 1, .iaload, 0, 0) :: c_X_far_48
def c_X_far_46 : List eg_I := .inl (46, 1, .iload 2, 0, 0) :: c_X_far_47
def c_X_far_43 : List eg_I := .inl (43, 3, .getfield 119, 8, 1) :: c_X_far_46
def c_X_far_42 : List eg_I := .inl (42, 1, .aaload, 0, 0) :: c_X_far_43
def c_X_far_41 : List eg_I := .inl (41, 1, .iload 1, 0, 0) :: c_X_far_42
def c_X_far_38 : List eg_I := .inl (38, 3, .getfield 11, 11, 0) :: c_X_far_41
def c_X_far_37 : List eg_I := .inl (37, 1, .aload 0, 0, 0) :: c_X_far_38
def c_X_far_36 : List eg_I := .inl (36, 1, .iaload, 0, 0) :: c_X_far_37
def c_X_far_35 : List eg_I := .inl (35, 1, .iload 2, 0, 0) :: c_X_far_36
def c_X_far_32 : List eg_I := .inl (32, 3, .getfield 115, 8, 0) :: c_X_far_35
def c_X_far_31 : List eg_I := .inl (31, 1, .aaload, 0, 0) :: c_X_far_32
def c_X_far_30 : List eg_I := .inl (30, 1, .iload 1, 0, 0) :: c_X_far_31
def c_X_far_27 : List eg_I := .inl (27, 3, .getfield 11, 11, 0) :: c_X_far_30
def c_X_far_26 : List eg_I := .inl (26, 1, .aload 0, 0, 0) :: c_X_far_27
def c_X_far_23 : List eg_I := .inl (23, 3, .getfield 58, 11, 7) :: c_X_far_26
def c_X_far_22 : List eg_I := .inl (22, 1, .aload 0, 0, 0) :: c_X_far_23
def c_X_far_21 : List eg_I := .inl (21, 1, .lreturn, 0, 0) :: []
def c_X_far_18 : List eg_I := .inr (18, 1, 86, n_X_found, 1, 11, 0, 0) :: c_X_far_21
def c_X_far_16 : List eg_I := .inl (16, 2, .lload 4, 0, 0) :: c_X_far_18
def c_X_far_15 : List eg_I := .inl (15, 1, .aload 0, 0, 0) :: c_X_far_16
def c_X_far_12 : List eg_I := .inl (12, 3, .ifCond .eq (10), 22, 0) :: c_X_far_15
def c_X_far_11 : List eg_I := .inl (11, 1, .lcmp, 0, 0) :: c_X_far_12
def c_X_far_10 : List eg_I := .inl (10, 1, .sipush (0), 0, 0) :: c_X_far_11
def c_X_far_8 : List eg_I := .inl (8, 2, .lload 4, 0, 0) :: c_X_far_10
def c_X_far_6 : List eg_I := .inl (6, 2, .lstore 4, 0, 0) :: c_X_far_8
def c_X_far_3 : List eg_I := .inr (3, 1, 285, n_X_outlineFinding, 2, 11, 0, 0) :: c_X_far_6
def c_X_far_2 : List eg_I := .inl (2, 1, .iload 2, 0, 0) :: c_X_far_3
def c_X_far_1 : List eg_I := .inl (1, 1, .iload 1, 0, 0) :: c_X_far_2
def c_X_far_0 : List eg_I := .inl (0, 1, .aload 0, 0, 0) :: c_X_far_1
section
variable {rm : Room} {K : Nat → Nat → Nat → eg_Lo → List Value → List eg_E → Prop} {Q : Option Value → List eg_E → Prop} {kc ks : Nat} {loc : eg_Lo} {st : List Value} {h : List eg_E}
theorem s_X_far_0 {x : Nat} {l : eg_Lo} : wps rm K Q c_X_far_0 kc ks (some (.ref x) :: l) (st) h = wps rm K Q c_X_far_1 kc ks (some (.ref x) :: l) (.ref x :: st) h := rfl
theorem s_X_far_1 {x : Int32} {l0 : Option Value} {l : eg_Lo} : wps rm K Q c_X_far_1 kc ks (l0 :: some (.int x) :: l) (st) h = wps rm K Q c_X_far_2 kc ks (l0 :: some (.int x) :: l) (.int x :: st) h := rfl
theorem s_X_far_2 {x : Int32} {l0 l1 : Option Value} {l : eg_Lo} : wps rm K Q c_X_far_2 kc ks (l0 :: l1 :: some (.int x) :: l) (st) h = wps rm K Q c_X_far_3 kc ks (l0 :: l1 :: some (.int x) :: l) (.int x :: st) h := rfl
theorem s_X_far_3  {a1 : Value} {a2 : Value} {x : Nat} : wps rm K Q c_X_far_3 kc ks loc (a2 :: a1 :: .ref (x + 1) :: st) h = (eg_cls h x 11 ∧ st.length ≤ 4 ∧ eg_Cs n_X_outlineFinding (.ref (x + 1) :: [a1, a2]) h (fun v h9 => wps rm K Q c_X_far_6 kc ks loc (v.toList ++ st) h9)) := eg_c1_2
theorem s_X_far_6 {x : Int64} : wps rm K Q c_X_far_6 kc ks loc (.long x :: st) h = wps rm K Q c_X_far_8 kc ks (eg_set2 loc 4 (.long x)) (st) h := rfl
theorem s_X_far_8 {x : Int64} {l0 l1 l2 l3 : Option Value} {l : eg_Lo} : wps rm K Q c_X_far_8 kc ks (l0 :: l1 :: l2 :: l3 :: some (.long x) :: l) (st) h = wps rm K Q c_X_far_10 kc ks (l0 :: l1 :: l2 :: l3 :: some (.long x) :: l) (.long x :: st) h := rfl
theorem s_X_far_10  : wps rm K Q c_X_far_10 kc ks loc (st) h = wps rm K Q c_X_far_11 kc ks loc (.long (0) :: st) h := rfl
theorem s_X_far_11 {x y : Int64} : wps rm K Q c_X_far_11 kc ks loc (.long y :: .long x :: st) h = wps rm K Q c_X_far_12 kc ks loc (.int (lg_cmp x y) :: st) h := rfl
theorem s_X_far_12 {x : Int32} : wps rm K Q c_X_far_12 kc ks loc (.int x :: st) h = ((x = 0 → K 22 kc ks loc st h) ∧ (¬ x = 0 → wps rm K Q c_X_far_15 kc ks loc (st) h)) := rfl
theorem s_X_far_15 {x : Nat} {l : eg_Lo} : wps rm K Q c_X_far_15 kc ks (some (.ref x) :: l) (st) h = wps rm K Q c_X_far_16 kc ks (some (.ref x) :: l) (.ref x :: st) h := rfl
theorem s_X_far_16 {x : Int64} {l0 l1 l2 l3 : Option Value} {l : eg_Lo} : wps rm K Q c_X_far_16 kc ks (l0 :: l1 :: l2 :: l3 :: some (.long x) :: l) (st) h = wps rm K Q c_X_far_18 kc ks (l0 :: l1 :: l2 :: l3 :: some (.long x) :: l) (.long x :: st) h := rfl
theorem s_X_far_18  {a1 : Value} {x : Nat} : wps rm K Q c_X_far_18 kc ks loc (a1 :: .ref (x + 1) :: st) h = (eg_cls h x 11 ∧ st.length ≤ 4 ∧ eg_Cs n_X_found (.ref (x + 1) :: [a1]) h (fun v h9 => wps rm K Q c_X_far_21 kc ks loc (v.toList ++ st) h9)) := eg_c1_1
theorem s_X_far_21 {x : Int64} : wps rm K Q c_X_far_21 kc ks loc ([.long x]) h = (kc = rm.cells ∧ Q (some (.long x)) h) := rfl
theorem s_X_far_22 {x : Nat} {l : eg_Lo} : wps rm K Q c_X_far_22 kc ks (some (.ref x) :: l) (st) h = wps rm K Q c_X_far_23 kc ks (some (.ref x) :: l) (.ref x :: st) h := rfl
theorem s_X_far_23 {x : Nat} : wps rm K Q c_X_far_23 kc ks loc (.ref (x + 1) :: st) h = eg_gf h x 11 7 (fun v => wps rm K Q c_X_far_26 kc ks loc (v :: st) h) := rfl
theorem s_X_far_26 {x : Nat} {l : eg_Lo} : wps rm K Q c_X_far_26 kc ks (some (.ref x) :: l) (st) h = wps rm K Q c_X_far_27 kc ks (some (.ref x) :: l) (.ref x :: st) h := rfl
theorem s_X_far_27 {x : Nat} : wps rm K Q c_X_far_27 kc ks loc (.ref (x + 1) :: st) h = eg_gf h x 11 0 (fun v => wps rm K Q c_X_far_30 kc ks loc (v :: st) h) := rfl
theorem s_X_far_30 {x : Int32} {l0 : Option Value} {l : eg_Lo} : wps rm K Q c_X_far_30 kc ks (l0 :: some (.int x) :: l) (st) h = wps rm K Q c_X_far_31 kc ks (l0 :: some (.int x) :: l) (.int x :: st) h := rfl
theorem s_X_far_31 {x : Nat} {i : Int32} : wps rm K Q c_X_far_31 kc ks loc (.int i :: .ref (x + 1) :: st) h = eg_aa h x i (fun v => wps rm K Q c_X_far_32 kc ks loc (v :: st) h) := rfl
theorem s_X_far_32 {x : Nat} : wps rm K Q c_X_far_32 kc ks loc (.ref (x + 1) :: st) h = eg_gf h x 8 0 (fun v => wps rm K Q c_X_far_35 kc ks loc (v :: st) h) := rfl
theorem s_X_far_35 {x : Int32} {l0 l1 : Option Value} {l : eg_Lo} : wps rm K Q c_X_far_35 kc ks (l0 :: l1 :: some (.int x) :: l) (st) h = wps rm K Q c_X_far_36 kc ks (l0 :: l1 :: some (.int x) :: l) (.int x :: st) h := rfl
theorem s_X_far_36 {x : Nat} {i : Int32} : wps rm K Q c_X_far_36 kc ks loc (.int i :: .ref (x + 1) :: st) h = eg_ia h x i (fun v => wps rm K Q c_X_far_37 kc ks loc (.int v :: st) h) := rfl
theorem s_X_far_37 {x : Nat} {l : eg_Lo} : wps rm K Q c_X_far_37 kc ks (some (.ref x) :: l) (st) h = wps rm K Q c_X_far_38 kc ks (some (.ref x) :: l) (.ref x :: st) h := rfl
theorem s_X_far_38 {x : Nat} : wps rm K Q c_X_far_38 kc ks loc (.ref (x + 1) :: st) h = eg_gf h x 11 0 (fun v => wps rm K Q c_X_far_41 kc ks loc (v :: st) h) := rfl
theorem s_X_far_41 {x : Int32} {l0 : Option Value} {l : eg_Lo} : wps rm K Q c_X_far_41 kc ks (l0 :: some (.int x) :: l) (st) h = wps rm K Q c_X_far_42 kc ks (l0 :: some (.int x) :: l) (.int x :: st) h := rfl
theorem s_X_far_42 {x : Nat} {i : Int32} : wps rm K Q c_X_far_42 kc ks loc (.int i :: .ref (x + 1) :: st) h = eg_aa h x i (fun v => wps rm K Q c_X_far_43 kc ks loc (v :: st) h) := rfl
theorem s_X_far_43 {x : Nat} : wps rm K Q c_X_far_43 kc ks loc (.ref (x + 1) :: st) h = eg_gf h x 8 1 (fun v => wps rm K Q c_X_far_46 kc ks loc (v :: st) h) := rfl
theorem s_X_far_46 {x : Int32} {l0 l1 : Option Value} {l : eg_Lo} : wps rm K Q c_X_far_46 kc ks (l0 :: l1 :: some (.int x) :: l) (st) h = wps rm K Q c_X_far_47 kc ks (l0 :: l1 :: some (.int x) :: l) (.int x :: st) h := rfl
theorem s_X_far_47 {x : Nat} {i : Int32} : wps rm K Q c_X_far_47 kc ks loc (.int i :: .ref (x + 1) :: st) h = eg_ia h x i (fun v => wps rm K Q c_X_far_48 kc ks loc (.int v :: st) h) := rfl
theorem s_X_far_48  {a1 : Value} {a2 : Value} {x : Nat} : wps rm K Q c_X_far_48 kc ks loc (a2 :: a1 :: .ref (x + 1) :: st) h = (eg_cls h x 7 ∧ st.length ≤ 4 ∧ eg_Cs n_Outl_findNearest (.ref (x + 1) :: [a1, a2]) h (fun v h9 => wps rm K Q c_X_far_51 kc ks loc (v.toList ++ st) h9)) := eg_c1_2
theorem s_X_far_51 {x : Int32} : wps rm K Q c_X_far_51 kc ks loc (.int x :: st) h = wps rm K Q c_X_far_52 kc ks loc (st) h := rfl
theorem s_X_far_52 {x : Nat} {l : eg_Lo} : wps rm K Q c_X_far_52 kc ks (some (.ref x) :: l) (st) h = wps rm K Q c_X_far_53 kc ks (some (.ref x) :: l) (.ref x :: st) h := rfl
theorem s_X_far_53 {x : Nat} : wps rm K Q c_X_far_53 kc ks loc (.ref (x + 1) :: st) h = eg_gf h x 11 7 (fun v => wps rm K Q c_X_far_56 kc ks loc (v :: st) h) := rfl
theorem s_X_far_56 {x : Nat} : wps rm K Q c_X_far_56 kc ks loc (.ref (x + 1) :: st) h = eg_gf h x 7 0 (fun v => wps rm K Q c_X_far_59 kc ks loc (v :: st) h) := rfl
theorem s_X_far_59 {x : Int32} {l0 l1 l2 : Option Value} {l : eg_Lo} : wps rm K Q c_X_far_59 kc ks (l0 :: l1 :: l2 :: some (.int x) :: l) (st) h = wps rm K Q c_X_far_60 kc ks (l0 :: l1 :: l2 :: some (.int x) :: l) (.int x :: st) h := rfl
theorem s_X_far_60  {a1 : Value} {x : Nat} : wps rm K Q c_X_far_60 kc ks loc (a1 :: .ref (x + 1) :: st) h = (eg_cls h x 4 ∧ st.length ≤ 4 ∧ eg_Cs n_Frac_side (.ref (x + 1) :: [a1]) h (fun v h9 => wps rm K Q c_X_far_63 kc ks loc (v.toList ++ st) h9)) := eg_c1_1
theorem s_X_far_63 {x : Int64} : wps rm K Q c_X_far_63 kc ks loc ([.long x]) h = (kc = rm.cells ∧ Q (some (.long x)) h) := rfl
def T_X_far : List (Nat × List eg_I) := [(22, c_X_far_22)]
theorem j_X_far_22 {R : Nat → Nat → Nat → eg_Lo → List Value → List eg_E → Prop} {f pc0 : Nat} : eg_run rm R Q T_X_far (f + 1) 22 kc ks loc st h = wps rm (eg_run rm R Q T_X_far f) Q c_X_far_22 kc ks loc st h := rfl
end
theorem q_X_far : (T_X_far.all fun q => eg_seq m_X_far q.1 q.2) = true := by decide +kernel
theorem b_X_far {as : List Value} {h : List eg_E} {Q : Option Value → List eg_E → Prop} (hf : (eg_fl as).length ≤ 6) (hw : wps (eg_rm m_X_far) (eg_run (eg_rm m_X_far) (eg_R m_X_far Q (h.length + 0)) Q T_X_far 3) Q c_X_far_0 0 0 (eg_entry 6 as) [] h) : eg_Runs n_X_far as h Q := eg_begin (d := m_X_far) rfl (by decide) (by decide +kernel) q_X_far hf hw
/-! ===== X_box ===== -/
def c_X_box_111 : List eg_I := .inl (111, 1, .lreturn, 0, 0) :: []
def c_X_box_110 : List eg_I := .inl (110, 1, .i2l, 0, 0) :: c_X_box_111
def c_X_box_109 : List eg_I := .inl (109, 1, .isub, 0, 0) :: c_X_box_110
def c_X_box_108 : List eg_I := .inl (108, 1, .iconst (1), 0, 0) :: c_X_box_109
def c_X_box_105 : List eg_I := .inl (105, 3, .getfield 298, 0, 0) :: c_X_box_108
def c_X_box_102 : List eg_I := .inl (102, 3, .getfield 65, 11, 8) :: c_X_box_105
def c_X_box_101 : List eg_I := .inl (101, 1, .aload 0, 0, 0) :: c_X_box_102
def c_X_box_98 : List eg_I := .inl (98, 3, .putfield 298, 0, 0) :: c_X_box_101
def c_X_box_97 : List eg_I := .inl (97, 1, .iadd, 0, 0) :: c_X_box_98
def c_X_box_96 : List eg_I := .inl (96, 1, .iconst (1), 0, 0) :: c_X_box_97
def c_X_box_93 : List eg_I := .inl (93, 3, .getfield 298, 0, 0) :: c_X_box_96
def c_X_box_92 : List eg_I := .inl (92, 1, .dup, 0, 0) :: c_X_box_93
def c_X_box_89 : List eg_I := .inl (89, 3, .getfield 65, 11, 8) :: c_X_box_92
def c_X_box_88 : List eg_I := .inl (88, 1, .aload 0, 0, 0) :: c_X_box_89
def c_X_box_85 : List eg_I := .inr (85, 1, 299, n_Boxes_setSide, 3, 0, 0, 0) :: c_X_box_88
def c_X_box_83 : List eg_I := .inl (83, 2, .iload 6, 0, 0) :: c_X_box_85
def c_X_box_82 : List eg_I := .inl (82, 1, .iload 3, 0, 0) :: c_X_box_83
def c_X_box_81 : List eg_I := .inl (81, 1, .iconst (2), 0, 0) :: c_X_box_82
def c_X_box_78 : List eg_I := .inl (78, 3, .getfield 65, 11, 8) :: c_X_box_81
def c_X_box_77 : List eg_I := .inl (77, 1, .aload 0, 0, 0) :: c_X_box_78
def c_X_box_74 : List eg_I := .inr (74, 1, 299, n_Boxes_setSide, 3, 0, 0, 0) :: c_X_box_77
def c_X_box_72 : List eg_I := .inl (72, 2, .iload 5, 0, 0) :: c_X_box_74
def c_X_box_71 : List eg_I := .inl (71, 1, .iload 2, 0, 0) :: c_X_box_72
def c_X_box_70 : List eg_I := .inl (70, 1, .iconst (1), 0, 0) :: c_X_box_71
def c_X_box_67 : List eg_I := .inl (67, 3, .getfield 65, 11, 8) :: c_X_box_70
def c_X_box_66 : List eg_I := .inl (66, 1, .aload 0, 0, 0) :: c_X_box_67
def c_X_box_63 : List eg_I := .inr (63, 1, 299, n_Boxes_setSide, 3, 0, 0, 0) :: c_X_box_66
def c_X_box_61 : List eg_I := .inl (61, 2, .iload 4, 0, 0) :: c_X_box_63
def c_X_box_60 : List eg_I := .inl (60, 1, .iload 1, 0, 0) :: c_X_box_61
def c_X_box_59 : List eg_I := .inl (59, 1, .iconst (0), 0, 0) :: c_X_box_60
def c_X_box_56 : List eg_I := .inl (56, 3, .getfield 65, 11, 8) :: c_X_box_59
def c_X_box_55 : List eg_I := .inl (55, 1, .aload 0, 0, 0) :: c_X_box_56
def c_X_box_54 : List eg_I := .inl (54, 1, .lreturn, 0, 0) :: []
def c_X_box_51 : List eg_I := .inr (51, 1, 86, n_X_found, 1, 11, 0, 0) :: c_X_box_54
def c_X_box_48 : List eg_I := .inl (48, 3, .sipush (-1000000000000000005), 94, 0) :: c_X_box_51
def c_X_box_47 : List eg_I := .inl (47, 1, .aload 0, 0, 0) :: c_X_box_48
def c_X_box_44 : List eg_I := .inl (44, 3, .if_icmp .lt (11), 55, 0) :: c_X_box_47
def c_X_box_42 : List eg_I := .inl (42, 2, .iconst (6), 0, 0) :: c_X_box_44
def c_X_box_39 : List eg_I := .inl (39, 3, .getfield 298, 0, 0) :: c_X_box_42
def c_X_box_36 : List eg_I := .inl (36, 3, .getfield 65, 11, 8) :: c_X_box_39
def c_X_box_35 : List eg_I := .inl (35, 1, .aload 0, 0, 0) :: c_X_box_36
def c_X_box_34 : List eg_I := .inl (34, 1, .lreturn, 0, 0) :: []
def c_X_box_31 : List eg_I := .inr (31, 1, 86, n_X_found, 1, 11, 0, 0) :: c_X_box_34
def c_X_box_28 : List eg_I := .inl (28, 3, .sipush (-1000000000000000001), 84, 0) :: c_X_box_31
def c_X_box_27 : List eg_I := .inl (27, 1, .aload 0, 0, 0) :: c_X_box_28
def c_X_box_24 : List eg_I := .inl (24, 3, .ifCond .ne (11), 35, 0) :: c_X_box_27
def c_X_box_21 : List eg_I := .inr (21, 0, 295, n_X_isBoxSide, 2, 11, 0, 0) :: c_X_box_24
def c_X_box_19 : List eg_I := .inl (19, 2, .iload 6, 0, 0) :: c_X_box_21
def c_X_box_18 : List eg_I := .inl (18, 1, .iload 3, 0, 0) :: c_X_box_19
def c_X_box_15 : List eg_I := .inl (15, 3, .ifCond .eq (12), 27, 0) :: c_X_box_18
def c_X_box_12 : List eg_I := .inr (12, 0, 295, n_X_isBoxSide, 2, 11, 0, 0) :: c_X_box_15
def c_X_box_10 : List eg_I := .inl (10, 2, .iload 5, 0, 0) :: c_X_box_12
def c_X_box_9 : List eg_I := .inl (9, 1, .iload 2, 0, 0) :: c_X_box_10
def c_X_box_6 : List eg_I := .inl (6, 3, .ifCond .eq (21), 27, 0) :: c_X_box_9
def c_X_box_3 : List eg_I := .inr (3, 0, 295, n_X_isBoxSide, 2, 11, 0, 0) :: c_X_box_6
def c_X_box_1 : List eg_I := .inl (1, 2, .iload 4, 0, 0) :: c_X_box_3
def c_X_box_0 : List eg_I := .inl (0, 1, .iload 1, 0, 0) :: c_X_box_1
section
variable {rm : Room} {K : Nat → Nat → Nat → eg_Lo → List Value → List eg_E → Prop} {Q : Option Value → List eg_E → Prop} {kc ks : Nat} {loc : eg_Lo} {st : List Value} {h : List eg_E}
theorem s_X_box_0 {x : Int32} {l0 : Option Value} {l : eg_Lo} : wps rm K Q c_X_box_0 kc ks (l0 :: some (.int x) :: l) (st) h = wps rm K Q c_X_box_1 kc ks (l0 :: some (.int x) :: l) (.int x :: st) h := rfl
theorem s_X_box_1 {x : Int32} {l0 l1 l2 l3 : Option Value} {l : eg_Lo} : wps rm K Q c_X_box_1 kc ks (l0 :: l1 :: l2 :: l3 :: some (.int x) :: l) (st) h = wps rm K Q c_X_box_3 kc ks (l0 :: l1 :: l2 :: l3 :: some (.int x) :: l) (.int x :: st) h := rfl
theorem s_X_box_3  {a1 : Value} {a2 : Value} : wps rm K Q c_X_box_3 kc ks loc (a2 :: a1 :: st) h = (st.length ≤ 4 ∧ eg_Cs n_X_isBoxSide [a1, a2] h (fun v h9 => wps rm K Q c_X_box_6 kc ks loc (v.toList ++ st) h9)) := eg_c0_2
theorem s_X_box_6 {x : Int32} : wps rm K Q c_X_box_6 kc ks loc (.int x :: st) h = ((x = 0 → K 27 kc ks loc st h) ∧ (¬ x = 0 → wps rm K Q c_X_box_9 kc ks loc (st) h)) := rfl
theorem s_X_box_9 {x : Int32} {l0 l1 : Option Value} {l : eg_Lo} : wps rm K Q c_X_box_9 kc ks (l0 :: l1 :: some (.int x) :: l) (st) h = wps rm K Q c_X_box_10 kc ks (l0 :: l1 :: some (.int x) :: l) (.int x :: st) h := rfl
theorem s_X_box_10 {x : Int32} {l0 l1 l2 l3 l4 : Option Value} {l : eg_Lo} : wps rm K Q c_X_box_10 kc ks (l0 :: l1 :: l2 :: l3 :: l4 :: some (.int x) :: l) (st) h = wps rm K Q c_X_box_12 kc ks (l0 :: l1 :: l2 :: l3 :: l4 :: some (.int x) :: l) (.int x :: st) h := rfl
theorem s_X_box_12  {a1 : Value} {a2 : Value} : wps rm K Q c_X_box_12 kc ks loc (a2 :: a1 :: st) h = (st.length ≤ 4 ∧ eg_Cs n_X_isBoxSide [a1, a2] h (fun v h9 => wps rm K Q c_X_box_15 kc ks loc (v.toList ++ st) h9)) := eg_c0_2
theorem s_X_box_15 {x : Int32} : wps rm K Q c_X_box_15 kc ks loc (.int x :: st) h = ((x = 0 → K 27 kc ks loc st h) ∧ (¬ x = 0 → wps rm K Q c_X_box_18 kc ks loc (st) h)) := rfl
theorem s_X_box_18 {x : Int32} {l0 l1 l2 : Option Value} {l : eg_Lo} : wps rm K Q c_X_box_18 kc ks (l0 :: l1 :: l2 :: some (.int x) :: l) (st) h = wps rm K Q c_X_box_19 kc ks (l0 :: l1 :: l2 :: some (.int x) :: l) (.int x :: st) h := rfl
theorem s_X_box_19 {x : Int32} {l0 l1 l2 l3 l4 l5 : Option Value} {l : eg_Lo} : wps rm K Q c_X_box_19 kc ks (l0 :: l1 :: l2 :: l3 :: l4 :: l5 :: some (.int x) :: l) (st) h = wps rm K Q c_X_box_21 kc ks (l0 :: l1 :: l2 :: l3 :: l4 :: l5 :: some (.int x) :: l) (.int x :: st) h := rfl
theorem s_X_box_21  {a1 : Value} {a2 : Value} : wps rm K Q c_X_box_21 kc ks loc (a2 :: a1 :: st) h = (st.length ≤ 4 ∧ eg_Cs n_X_isBoxSide [a1, a2] h (fun v h9 => wps rm K Q c_X_box_24 kc ks loc (v.toList ++ st) h9)) := eg_c0_2
theorem s_X_box_24 {x : Int32} : wps rm K Q c_X_box_24 kc ks loc (.int x :: st) h = ((¬ x = 0 → K 35 kc ks loc st h) ∧ (x = 0 → wps rm K Q c_X_box_27 kc ks loc (st) h)) := rfl
theorem s_X_box_27 {x : Nat} {l : eg_Lo} : wps rm K Q c_X_box_27 kc ks (some (.ref x) :: l) (st) h = wps rm K Q c_X_box_28 kc ks (some (.ref x) :: l) (.ref x :: st) h := rfl
theorem s_X_box_28  : wps rm K Q c_X_box_28 kc ks loc (st) h = wps rm K Q c_X_box_31 kc ks loc (.long (-1000000000000000001) :: st) h := rfl
theorem s_X_box_31  {a1 : Value} {x : Nat} : wps rm K Q c_X_box_31 kc ks loc (a1 :: .ref (x + 1) :: st) h = (eg_cls h x 11 ∧ st.length ≤ 4 ∧ eg_Cs n_X_found (.ref (x + 1) :: [a1]) h (fun v h9 => wps rm K Q c_X_box_34 kc ks loc (v.toList ++ st) h9)) := eg_c1_1
theorem s_X_box_34 {x : Int64} : wps rm K Q c_X_box_34 kc ks loc ([.long x]) h = (kc = rm.cells ∧ Q (some (.long x)) h) := rfl
theorem s_X_box_35 {x : Nat} {l : eg_Lo} : wps rm K Q c_X_box_35 kc ks (some (.ref x) :: l) (st) h = wps rm K Q c_X_box_36 kc ks (some (.ref x) :: l) (.ref x :: st) h := rfl
theorem s_X_box_36 {x : Nat} : wps rm K Q c_X_box_36 kc ks loc (.ref (x + 1) :: st) h = eg_gf h x 11 8 (fun v => wps rm K Q c_X_box_39 kc ks loc (v :: st) h) := rfl
theorem s_X_box_39 {x : Nat} : wps rm K Q c_X_box_39 kc ks loc (.ref (x + 1) :: st) h = eg_gf h x 0 0 (fun v => wps rm K Q c_X_box_42 kc ks loc (v :: st) h) := rfl
theorem s_X_box_42  : wps rm K Q c_X_box_42 kc ks loc (st) h = wps rm K Q c_X_box_44 kc ks loc (.int (6) :: st) h := rfl
theorem s_X_box_44 {x y : Int32} : wps rm K Q c_X_box_44 kc ks loc (.int y :: .int x :: st) h = ((x < y → K 55 kc ks loc st h) ∧ (¬ x < y → wps rm K Q c_X_box_47 kc ks loc (st) h)) := rfl
theorem s_X_box_47 {x : Nat} {l : eg_Lo} : wps rm K Q c_X_box_47 kc ks (some (.ref x) :: l) (st) h = wps rm K Q c_X_box_48 kc ks (some (.ref x) :: l) (.ref x :: st) h := rfl
theorem s_X_box_48  : wps rm K Q c_X_box_48 kc ks loc (st) h = wps rm K Q c_X_box_51 kc ks loc (.long (-1000000000000000005) :: st) h := rfl
theorem s_X_box_51  {a1 : Value} {x : Nat} : wps rm K Q c_X_box_51 kc ks loc (a1 :: .ref (x + 1) :: st) h = (eg_cls h x 11 ∧ st.length ≤ 4 ∧ eg_Cs n_X_found (.ref (x + 1) :: [a1]) h (fun v h9 => wps rm K Q c_X_box_54 kc ks loc (v.toList ++ st) h9)) := eg_c1_1
theorem s_X_box_54 {x : Int64} : wps rm K Q c_X_box_54 kc ks loc ([.long x]) h = (kc = rm.cells ∧ Q (some (.long x)) h) := rfl
theorem s_X_box_55 {x : Nat} {l : eg_Lo} : wps rm K Q c_X_box_55 kc ks (some (.ref x) :: l) (st) h = wps rm K Q c_X_box_56 kc ks (some (.ref x) :: l) (.ref x :: st) h := rfl
theorem s_X_box_56 {x : Nat} : wps rm K Q c_X_box_56 kc ks loc (.ref (x + 1) :: st) h = eg_gf h x 11 8 (fun v => wps rm K Q c_X_box_59 kc ks loc (v :: st) h) := rfl
theorem s_X_box_59  : wps rm K Q c_X_box_59 kc ks loc (st) h = wps rm K Q c_X_box_60 kc ks loc (.int (0) :: st) h := rfl
theorem s_X_box_60 {x : Int32} {l0 : Option Value} {l : eg_Lo} : wps rm K Q c_X_box_60 kc ks (l0 :: some (.int x) :: l) (st) h = wps rm K Q c_X_box_61 kc ks (l0 :: some (.int x) :: l) (.int x :: st) h := rfl
theorem s_X_box_61 {x : Int32} {l0 l1 l2 l3 : Option Value} {l : eg_Lo} : wps rm K Q c_X_box_61 kc ks (l0 :: l1 :: l2 :: l3 :: some (.int x) :: l) (st) h = wps rm K Q c_X_box_63 kc ks (l0 :: l1 :: l2 :: l3 :: some (.int x) :: l) (.int x :: st) h := rfl
theorem s_X_box_63  {a1 : Value} {a2 : Value} {a3 : Value} {x : Nat} : wps rm K Q c_X_box_63 kc ks loc (a3 :: a2 :: a1 :: .ref (x + 1) :: st) h = (eg_cls h x 0 ∧ st.length ≤ 4 ∧ eg_Cs n_Boxes_setSide (.ref (x + 1) :: [a1, a2, a3]) h (fun v h9 => wps rm K Q c_X_box_66 kc ks loc (v.toList ++ st) h9)) := eg_c1_3
theorem s_X_box_66 {x : Nat} {l : eg_Lo} : wps rm K Q c_X_box_66 kc ks (some (.ref x) :: l) (st) h = wps rm K Q c_X_box_67 kc ks (some (.ref x) :: l) (.ref x :: st) h := rfl
theorem s_X_box_67 {x : Nat} : wps rm K Q c_X_box_67 kc ks loc (.ref (x + 1) :: st) h = eg_gf h x 11 8 (fun v => wps rm K Q c_X_box_70 kc ks loc (v :: st) h) := rfl
theorem s_X_box_70  : wps rm K Q c_X_box_70 kc ks loc (st) h = wps rm K Q c_X_box_71 kc ks loc (.int (1) :: st) h := rfl
theorem s_X_box_71 {x : Int32} {l0 l1 : Option Value} {l : eg_Lo} : wps rm K Q c_X_box_71 kc ks (l0 :: l1 :: some (.int x) :: l) (st) h = wps rm K Q c_X_box_72 kc ks (l0 :: l1 :: some (.int x) :: l) (.int x :: st) h := rfl
theorem s_X_box_72 {x : Int32} {l0 l1 l2 l3 l4 : Option Value} {l : eg_Lo} : wps rm K Q c_X_box_72 kc ks (l0 :: l1 :: l2 :: l3 :: l4 :: some (.int x) :: l) (st) h = wps rm K Q c_X_box_74 kc ks (l0 :: l1 :: l2 :: l3 :: l4 :: some (.int x) :: l) (.int x :: st) h := rfl
theorem s_X_box_74  {a1 : Value} {a2 : Value} {a3 : Value} {x : Nat} : wps rm K Q c_X_box_74 kc ks loc (a3 :: a2 :: a1 :: .ref (x + 1) :: st) h = (eg_cls h x 0 ∧ st.length ≤ 4 ∧ eg_Cs n_Boxes_setSide (.ref (x + 1) :: [a1, a2, a3]) h (fun v h9 => wps rm K Q c_X_box_77 kc ks loc (v.toList ++ st) h9)) := eg_c1_3
theorem s_X_box_77 {x : Nat} {l : eg_Lo} : wps rm K Q c_X_box_77 kc ks (some (.ref x) :: l) (st) h = wps rm K Q c_X_box_78 kc ks (some (.ref x) :: l) (.ref x :: st) h := rfl
theorem s_X_box_78 {x : Nat} : wps rm K Q c_X_box_78 kc ks loc (.ref (x + 1) :: st) h = eg_gf h x 11 8 (fun v => wps rm K Q c_X_box_81 kc ks loc (v :: st) h) := rfl
theorem s_X_box_81  : wps rm K Q c_X_box_81 kc ks loc (st) h = wps rm K Q c_X_box_82 kc ks loc (.int (2) :: st) h := rfl
theorem s_X_box_82 {x : Int32} {l0 l1 l2 : Option Value} {l : eg_Lo} : wps rm K Q c_X_box_82 kc ks (l0 :: l1 :: l2 :: some (.int x) :: l) (st) h = wps rm K Q c_X_box_83 kc ks (l0 :: l1 :: l2 :: some (.int x) :: l) (.int x :: st) h := rfl
theorem s_X_box_83 {x : Int32} {l0 l1 l2 l3 l4 l5 : Option Value} {l : eg_Lo} : wps rm K Q c_X_box_83 kc ks (l0 :: l1 :: l2 :: l3 :: l4 :: l5 :: some (.int x) :: l) (st) h = wps rm K Q c_X_box_85 kc ks (l0 :: l1 :: l2 :: l3 :: l4 :: l5 :: some (.int x) :: l) (.int x :: st) h := rfl
theorem s_X_box_85  {a1 : Value} {a2 : Value} {a3 : Value} {x : Nat} : wps rm K Q c_X_box_85 kc ks loc (a3 :: a2 :: a1 :: .ref (x + 1) :: st) h = (eg_cls h x 0 ∧ st.length ≤ 4 ∧ eg_Cs n_Boxes_setSide (.ref (x + 1) :: [a1, a2, a3]) h (fun v h9 => wps rm K Q c_X_box_88 kc ks loc (v.toList ++ st) h9)) := eg_c1_3
theorem s_X_box_88 {x : Nat} {l : eg_Lo} : wps rm K Q c_X_box_88 kc ks (some (.ref x) :: l) (st) h = wps rm K Q c_X_box_89 kc ks (some (.ref x) :: l) (.ref x :: st) h := rfl
theorem s_X_box_89 {x : Nat} : wps rm K Q c_X_box_89 kc ks loc (.ref (x + 1) :: st) h = eg_gf h x 11 8 (fun v => wps rm K Q c_X_box_92 kc ks loc (v :: st) h) := rfl
theorem s_X_box_92 {x : Nat} : wps rm K Q c_X_box_92 kc ks loc (.ref x :: st) h = wps rm K Q c_X_box_93 kc ks loc (.ref x :: .ref x :: st) h := rfl
theorem s_X_box_93 {x : Nat} : wps rm K Q c_X_box_93 kc ks loc (.ref (x + 1) :: st) h = eg_gf h x 0 0 (fun v => wps rm K Q c_X_box_96 kc ks loc (v :: st) h) := rfl
theorem s_X_box_96  : wps rm K Q c_X_box_96 kc ks loc (st) h = wps rm K Q c_X_box_97 kc ks loc (.int (1) :: st) h := rfl
theorem s_X_box_97 {x y : Int32} : wps rm K Q c_X_box_97 kc ks loc (.int y :: .int x :: st) h = wps rm K Q c_X_box_98 kc ks loc (.int (x + y) :: st) h := rfl
theorem s_X_box_98 {x : Nat} {v : Value} : wps rm K Q c_X_box_98 kc ks loc (v :: .ref (x + 1) :: st) h = eg_pf h x 0 0 v (fun h9 => wps rm K Q c_X_box_101 kc ks loc (st) h9) := rfl
theorem s_X_box_101 {x : Nat} {l : eg_Lo} : wps rm K Q c_X_box_101 kc ks (some (.ref x) :: l) (st) h = wps rm K Q c_X_box_102 kc ks (some (.ref x) :: l) (.ref x :: st) h := rfl
theorem s_X_box_102 {x : Nat} : wps rm K Q c_X_box_102 kc ks loc (.ref (x + 1) :: st) h = eg_gf h x 11 8 (fun v => wps rm K Q c_X_box_105 kc ks loc (v :: st) h) := rfl
theorem s_X_box_105 {x : Nat} : wps rm K Q c_X_box_105 kc ks loc (.ref (x + 1) :: st) h = eg_gf h x 0 0 (fun v => wps rm K Q c_X_box_108 kc ks loc (v :: st) h) := rfl
theorem s_X_box_108  : wps rm K Q c_X_box_108 kc ks loc (st) h = wps rm K Q c_X_box_109 kc ks loc (.int (1) :: st) h := rfl
theorem s_X_box_109 {x y : Int32} : wps rm K Q c_X_box_109 kc ks loc (.int y :: .int x :: st) h = wps rm K Q c_X_box_110 kc ks loc (.int (x - y) :: st) h := rfl
theorem s_X_box_110 {x : Int32} : wps rm K Q c_X_box_110 kc ks loc (.int x :: st) h = wps rm K Q c_X_box_111 kc ks loc (.long (x.toInt64) :: st) h := rfl
theorem s_X_box_111 {x : Int64} : wps rm K Q c_X_box_111 kc ks loc ([.long x]) h = (kc = rm.cells ∧ Q (some (.long x)) h) := rfl
def T_X_box : List (Nat × List eg_I) := [(27, c_X_box_27), (35, c_X_box_35), (55, c_X_box_55)]
theorem j_X_box_27 {R : Nat → Nat → Nat → eg_Lo → List Value → List eg_E → Prop} {f pc0 : Nat} : eg_run rm R Q T_X_box (f + 1) 27 kc ks loc st h = wps rm (eg_run rm R Q T_X_box f) Q c_X_box_27 kc ks loc st h := rfl
theorem j_X_box_35 {R : Nat → Nat → Nat → eg_Lo → List Value → List eg_E → Prop} {f pc0 : Nat} : eg_run rm R Q T_X_box (f + 1) 35 kc ks loc st h = wps rm (eg_run rm R Q T_X_box f) Q c_X_box_35 kc ks loc st h := rfl
theorem j_X_box_55 {R : Nat → Nat → Nat → eg_Lo → List Value → List eg_E → Prop} {f pc0 : Nat} : eg_run rm R Q T_X_box (f + 1) 55 kc ks loc st h = wps rm (eg_run rm R Q T_X_box f) Q c_X_box_55 kc ks loc st h := rfl
end
theorem q_X_box : (T_X_box.all fun q => eg_seq m_X_box q.1 q.2) = true := by decide +kernel
theorem b_X_box {as : List Value} {h : List eg_E} {Q : Option Value → List eg_E → Prop} (hf : (eg_fl as).length ≤ 7) (hw : wps (eg_rm m_X_box) (eg_run (eg_rm m_X_box) (eg_R m_X_box Q (h.length + 0)) Q T_X_box 5) Q c_X_box_0 0 0 (eg_entry 7 as) [] h) : eg_Runs n_X_box as h Q := eg_begin (d := m_X_box) rfl (by decide) (by decide +kernel) q_X_box hf hw
/-! ===== X_unbox ===== -/
def c_X_unbox_18 : List eg_I := .inl (18, 1, .lreturn, 0, 0) :: []
def c_X_unbox_17 : List eg_I := .inl (17, 1, .i2l, 0, 0) :: c_X_unbox_18
def c_X_unbox_16 : List eg_I := .inl (16, 1, .iload 1, 0, 0) :: c_X_unbox_17
def c_X_unbox_13 : List eg_I := .inl (13, 3, .putfield 298, 0, 0) :: c_X_unbox_16
def c_X_unbox_12 : List eg_I := .inl (12, 1, .iconst (0), 0, 0) :: c_X_unbox_13
def c_X_unbox_9 : List eg_I := .inl (9, 3, .getfield 65, 11, 8) :: c_X_unbox_12
def c_X_unbox_8 : List eg_I := .inl (8, 1, .aload 0, 0, 0) :: c_X_unbox_9
def c_X_unbox_7 : List eg_I := .inl (7, 1, .istore 1, 0, 0) :: c_X_unbox_8
def c_X_unbox_4 : List eg_I := .inl (4, 3, .getfield 298, 0, 0) :: c_X_unbox_7
def c_X_unbox_1 : List eg_I := .inl (1, 3, .getfield 65, 11, 8) :: c_X_unbox_4
def c_X_unbox_0 : List eg_I := .inl (0, 1, .aload 0, 0, 0) :: c_X_unbox_1
section
variable {rm : Room} {K : Nat → Nat → Nat → eg_Lo → List Value → List eg_E → Prop} {Q : Option Value → List eg_E → Prop} {kc ks : Nat} {loc : eg_Lo} {st : List Value} {h : List eg_E}
theorem s_X_unbox_0 {x : Nat} {l : eg_Lo} : wps rm K Q c_X_unbox_0 kc ks (some (.ref x) :: l) (st) h = wps rm K Q c_X_unbox_1 kc ks (some (.ref x) :: l) (.ref x :: st) h := rfl
theorem s_X_unbox_1 {x : Nat} : wps rm K Q c_X_unbox_1 kc ks loc (.ref (x + 1) :: st) h = eg_gf h x 11 8 (fun v => wps rm K Q c_X_unbox_4 kc ks loc (v :: st) h) := rfl
theorem s_X_unbox_4 {x : Nat} : wps rm K Q c_X_unbox_4 kc ks loc (.ref (x + 1) :: st) h = eg_gf h x 0 0 (fun v => wps rm K Q c_X_unbox_7 kc ks loc (v :: st) h) := rfl
theorem s_X_unbox_7 {x : Int32} : wps rm K Q c_X_unbox_7 kc ks loc (.int x :: st) h = wps rm K Q c_X_unbox_8 kc ks (eg_set1 loc 1 (.int x)) (st) h := rfl
theorem s_X_unbox_8 {x : Nat} {l : eg_Lo} : wps rm K Q c_X_unbox_8 kc ks (some (.ref x) :: l) (st) h = wps rm K Q c_X_unbox_9 kc ks (some (.ref x) :: l) (.ref x :: st) h := rfl
theorem s_X_unbox_9 {x : Nat} : wps rm K Q c_X_unbox_9 kc ks loc (.ref (x + 1) :: st) h = eg_gf h x 11 8 (fun v => wps rm K Q c_X_unbox_12 kc ks loc (v :: st) h) := rfl
theorem s_X_unbox_12  : wps rm K Q c_X_unbox_12 kc ks loc (st) h = wps rm K Q c_X_unbox_13 kc ks loc (.int (0) :: st) h := rfl
theorem s_X_unbox_13 {x : Nat} {v : Value} : wps rm K Q c_X_unbox_13 kc ks loc (v :: .ref (x + 1) :: st) h = eg_pf h x 0 0 v (fun h9 => wps rm K Q c_X_unbox_16 kc ks loc (st) h9) := rfl
theorem s_X_unbox_16 {x : Int32} {l0 : Option Value} {l : eg_Lo} : wps rm K Q c_X_unbox_16 kc ks (l0 :: some (.int x) :: l) (st) h = wps rm K Q c_X_unbox_17 kc ks (l0 :: some (.int x) :: l) (.int x :: st) h := rfl
theorem s_X_unbox_17 {x : Int32} : wps rm K Q c_X_unbox_17 kc ks loc (.int x :: st) h = wps rm K Q c_X_unbox_18 kc ks loc (.long (x.toInt64) :: st) h := rfl
theorem s_X_unbox_18 {x : Int64} : wps rm K Q c_X_unbox_18 kc ks loc ([.long x]) h = (kc = rm.cells ∧ Q (some (.long x)) h) := rfl
def T_X_unbox : List (Nat × List eg_I) := []
end
theorem q_X_unbox : (T_X_unbox.all fun q => eg_seq m_X_unbox q.1 q.2) = true := by decide +kernel
theorem b_X_unbox {as : List Value} {h : List eg_E} {Q : Option Value → List eg_E → Prop} (hf : (eg_fl as).length ≤ 2) (hw : wps (eg_rm m_X_unbox) (eg_run (eg_rm m_X_unbox) (eg_R m_X_unbox Q (h.length + 0)) Q T_X_unbox 2) Q c_X_unbox_0 0 0 (eg_entry 2 as) [] h) : eg_Runs n_X_unbox as h Q := eg_begin (d := m_X_unbox) rfl (by decide) (by decide +kernel) q_X_unbox hf hw
/-! ===== X_move ===== -/
def c_X_move_78 : List eg_I := .inl (78, 1, .lreturn, 0, 0) :: []
def c_X_move_77 : List eg_I := .inl (77, 1, .i2l, 0, 0) :: c_X_move_78
def c_X_move_74 : List eg_I := .inr (74, 1, 303, n_Boxes_firstEntered, 3, 0, 0, 0) :: c_X_move_77
def c_X_move_73 : List eg_I := .inl (73, 1, .iload 3, 0, 0) :: c_X_move_74
def c_X_move_72 : List eg_I := .inl (72, 1, .iload 2, 0, 0) :: c_X_move_73
def c_X_move_71 : List eg_I := .inl (71, 1, .aaload, 0, 0) :: c_X_move_72
def c_X_move_70 : List eg_I := .inl (70, 1, .iload 1, 0, 0) :: c_X_move_71
def c_X_move_67 : List eg_I := .inl (67, 3, .getfield 11, 11, 0) :: c_X_move_70
def c_X_move_66 : List eg_I := .inl (66, 1, .aload 0, 0, 0) :: c_X_move_67
def c_X_move_63 : List eg_I := .inl (63, 3, .getfield 65, 11, 8) :: c_X_move_66
def c_X_move_62 : List eg_I := .inl (62, 1, .aload 0, 0, 0) :: c_X_move_63
def c_X_move_61 : List eg_I := .inl (61, 1, .lreturn, 0, 0) :: []
def c_X_move_58 : List eg_I := .inr (58, 1, 86, n_X_found, 1, 11, 0, 0) :: c_X_move_61
def c_X_move_55 : List eg_I := .inl (55, 3, .sipush (-1000000000000000007), 113, 0) :: c_X_move_58
def c_X_move_54 : List eg_I := .inl (54, 1, .aload 0, 0, 0) :: c_X_move_55
def c_X_move_51 : List eg_I := .inl (51, 3, .ifCond .eq (11), 62, 0) :: c_X_move_54
def c_X_move_50 : List eg_I := .inl (50, 1, .baload, 0, 0) :: c_X_move_51
def c_X_move_49 : List eg_I := .inl (49, 1, .iload 3, 0, 0) :: c_X_move_50
def c_X_move_46 : List eg_I := .inl (46, 3, .getfield 109, 8, 3) :: c_X_move_49
def c_X_move_45 : List eg_I := .inl (45, 1, .aaload, 0, 0) :: c_X_move_46
def c_X_move_44 : List eg_I := .inl (44, 1, .iload 1, 0, 0) :: c_X_move_45
def c_X_move_41 : List eg_I := .inl (41, 3, .getfield 11, 11, 0) :: c_X_move_44
def c_X_move_40 : List eg_I := .inl (40, 1, .aload 0, 0, 0) :: c_X_move_41
def c_X_move_37 : List eg_I := .inl (37, 3, .ifCond .ne (17), 54, 0) :: c_X_move_40
def c_X_move_36 : List eg_I := .inl (36, 1, .baload, 0, 0) :: c_X_move_37
def c_X_move_35 : List eg_I := .inl (35, 1, .iload 2, 0, 0) :: c_X_move_36
def c_X_move_32 : List eg_I := .inl (32, 3, .getfield 109, 8, 3) :: c_X_move_35
def c_X_move_31 : List eg_I := .inl (31, 1, .aaload, 0, 0) :: c_X_move_32
def c_X_move_30 : List eg_I := .inl (30, 1, .iload 1, 0, 0) :: c_X_move_31
def c_X_move_27 : List eg_I := .inl (27, 3, .getfield 11, 11, 0) :: c_X_move_30
def c_X_move_26 : List eg_I := .inl (26, 1, .aload 0, 0, 0) :: c_X_move_27
def c_X_move_25 : List eg_I := .inl (25, 1, .lreturn, 0, 0) :: []
def c_X_move_22 : List eg_I := .inr (22, 1, 86, n_X_found, 1, 11, 0, 0) :: c_X_move_25
def c_X_move_19 : List eg_I := .inl (19, 3, .sipush (-1000000000000000001), 84, 0) :: c_X_move_22
def c_X_move_18 : List eg_I := .inl (18, 1, .aload 0, 0, 0) :: c_X_move_19
def c_X_move_15 : List eg_I := .inl (15, 3, .ifCond .ne (11), 26, 0) :: c_X_move_18
def c_X_move_12 : List eg_I := .inr (12, 1, 106, n_X_isPoint, 2, 11, 0, 0) :: c_X_move_15
def c_X_move_11 : List eg_I := .inl (11, 1, .iload 3, 0, 0) :: c_X_move_12
def c_X_move_10 : List eg_I := .inl (10, 1, .iload 1, 0, 0) :: c_X_move_11
def c_X_move_9 : List eg_I := .inl (9, 1, .aload 0, 0, 0) :: c_X_move_10
def c_X_move_6 : List eg_I := .inl (6, 3, .ifCond .eq (12), 18, 0) :: c_X_move_9
def c_X_move_3 : List eg_I := .inr (3, 1, 106, n_X_isPoint, 2, 11, 0, 0) :: c_X_move_6
def c_X_move_2 : List eg_I := .inl (2, 1, .iload 2, 0, 0) :: c_X_move_3
def c_X_move_1 : List eg_I := .inl (1, 1, .iload 1, 0, 0) :: c_X_move_2
def c_X_move_0 : List eg_I := .inl (0, 1, .aload 0, 0, 0) :: c_X_move_1
section
variable {rm : Room} {K : Nat → Nat → Nat → eg_Lo → List Value → List eg_E → Prop} {Q : Option Value → List eg_E → Prop} {kc ks : Nat} {loc : eg_Lo} {st : List Value} {h : List eg_E}
theorem s_X_move_0 {x : Nat} {l : eg_Lo} : wps rm K Q c_X_move_0 kc ks (some (.ref x) :: l) (st) h = wps rm K Q c_X_move_1 kc ks (some (.ref x) :: l) (.ref x :: st) h := rfl
theorem s_X_move_1 {x : Int32} {l0 : Option Value} {l : eg_Lo} : wps rm K Q c_X_move_1 kc ks (l0 :: some (.int x) :: l) (st) h = wps rm K Q c_X_move_2 kc ks (l0 :: some (.int x) :: l) (.int x :: st) h := rfl
theorem s_X_move_2 {x : Int32} {l0 l1 : Option Value} {l : eg_Lo} : wps rm K Q c_X_move_2 kc ks (l0 :: l1 :: some (.int x) :: l) (st) h = wps rm K Q c_X_move_3 kc ks (l0 :: l1 :: some (.int x) :: l) (.int x :: st) h := rfl
theorem s_X_move_3  {a1 : Value} {a2 : Value} {x : Nat} : wps rm K Q c_X_move_3 kc ks loc (a2 :: a1 :: .ref (x + 1) :: st) h = (eg_cls h x 11 ∧ st.length ≤ 4 ∧ eg_Cs n_X_isPoint (.ref (x + 1) :: [a1, a2]) h (fun v h9 => wps rm K Q c_X_move_6 kc ks loc (v.toList ++ st) h9)) := eg_c1_2
theorem s_X_move_6 {x : Int32} : wps rm K Q c_X_move_6 kc ks loc (.int x :: st) h = ((x = 0 → K 18 kc ks loc st h) ∧ (¬ x = 0 → wps rm K Q c_X_move_9 kc ks loc (st) h)) := rfl
theorem s_X_move_9 {x : Nat} {l : eg_Lo} : wps rm K Q c_X_move_9 kc ks (some (.ref x) :: l) (st) h = wps rm K Q c_X_move_10 kc ks (some (.ref x) :: l) (.ref x :: st) h := rfl
theorem s_X_move_10 {x : Int32} {l0 : Option Value} {l : eg_Lo} : wps rm K Q c_X_move_10 kc ks (l0 :: some (.int x) :: l) (st) h = wps rm K Q c_X_move_11 kc ks (l0 :: some (.int x) :: l) (.int x :: st) h := rfl
theorem s_X_move_11 {x : Int32} {l0 l1 l2 : Option Value} {l : eg_Lo} : wps rm K Q c_X_move_11 kc ks (l0 :: l1 :: l2 :: some (.int x) :: l) (st) h = wps rm K Q c_X_move_12 kc ks (l0 :: l1 :: l2 :: some (.int x) :: l) (.int x :: st) h := rfl
theorem s_X_move_12  {a1 : Value} {a2 : Value} {x : Nat} : wps rm K Q c_X_move_12 kc ks loc (a2 :: a1 :: .ref (x + 1) :: st) h = (eg_cls h x 11 ∧ st.length ≤ 4 ∧ eg_Cs n_X_isPoint (.ref (x + 1) :: [a1, a2]) h (fun v h9 => wps rm K Q c_X_move_15 kc ks loc (v.toList ++ st) h9)) := eg_c1_2
theorem s_X_move_15 {x : Int32} : wps rm K Q c_X_move_15 kc ks loc (.int x :: st) h = ((¬ x = 0 → K 26 kc ks loc st h) ∧ (x = 0 → wps rm K Q c_X_move_18 kc ks loc (st) h)) := rfl
theorem s_X_move_18 {x : Nat} {l : eg_Lo} : wps rm K Q c_X_move_18 kc ks (some (.ref x) :: l) (st) h = wps rm K Q c_X_move_19 kc ks (some (.ref x) :: l) (.ref x :: st) h := rfl
theorem s_X_move_19  : wps rm K Q c_X_move_19 kc ks loc (st) h = wps rm K Q c_X_move_22 kc ks loc (.long (-1000000000000000001) :: st) h := rfl
theorem s_X_move_22  {a1 : Value} {x : Nat} : wps rm K Q c_X_move_22 kc ks loc (a1 :: .ref (x + 1) :: st) h = (eg_cls h x 11 ∧ st.length ≤ 4 ∧ eg_Cs n_X_found (.ref (x + 1) :: [a1]) h (fun v h9 => wps rm K Q c_X_move_25 kc ks loc (v.toList ++ st) h9)) := eg_c1_1
theorem s_X_move_25 {x : Int64} : wps rm K Q c_X_move_25 kc ks loc ([.long x]) h = (kc = rm.cells ∧ Q (some (.long x)) h) := rfl
theorem s_X_move_26 {x : Nat} {l : eg_Lo} : wps rm K Q c_X_move_26 kc ks (some (.ref x) :: l) (st) h = wps rm K Q c_X_move_27 kc ks (some (.ref x) :: l) (.ref x :: st) h := rfl
theorem s_X_move_27 {x : Nat} : wps rm K Q c_X_move_27 kc ks loc (.ref (x + 1) :: st) h = eg_gf h x 11 0 (fun v => wps rm K Q c_X_move_30 kc ks loc (v :: st) h) := rfl
theorem s_X_move_30 {x : Int32} {l0 : Option Value} {l : eg_Lo} : wps rm K Q c_X_move_30 kc ks (l0 :: some (.int x) :: l) (st) h = wps rm K Q c_X_move_31 kc ks (l0 :: some (.int x) :: l) (.int x :: st) h := rfl
theorem s_X_move_31 {x : Nat} {i : Int32} : wps rm K Q c_X_move_31 kc ks loc (.int i :: .ref (x + 1) :: st) h = eg_aa h x i (fun v => wps rm K Q c_X_move_32 kc ks loc (v :: st) h) := rfl
theorem s_X_move_32 {x : Nat} : wps rm K Q c_X_move_32 kc ks loc (.ref (x + 1) :: st) h = eg_gf h x 8 3 (fun v => wps rm K Q c_X_move_35 kc ks loc (v :: st) h) := rfl
theorem s_X_move_35 {x : Int32} {l0 l1 : Option Value} {l : eg_Lo} : wps rm K Q c_X_move_35 kc ks (l0 :: l1 :: some (.int x) :: l) (st) h = wps rm K Q c_X_move_36 kc ks (l0 :: l1 :: some (.int x) :: l) (.int x :: st) h := rfl
theorem s_X_move_36 {x : Nat} {i : Int32} : wps rm K Q c_X_move_36 kc ks loc (.int i :: .ref (x + 1) :: st) h = eg_ba h x i (fun v => wps rm K Q c_X_move_37 kc ks loc (.int v :: st) h) := rfl
theorem s_X_move_37 {x : Int32} : wps rm K Q c_X_move_37 kc ks loc (.int x :: st) h = ((¬ x = 0 → K 54 kc ks loc st h) ∧ (x = 0 → wps rm K Q c_X_move_40 kc ks loc (st) h)) := rfl
theorem s_X_move_40 {x : Nat} {l : eg_Lo} : wps rm K Q c_X_move_40 kc ks (some (.ref x) :: l) (st) h = wps rm K Q c_X_move_41 kc ks (some (.ref x) :: l) (.ref x :: st) h := rfl
theorem s_X_move_41 {x : Nat} : wps rm K Q c_X_move_41 kc ks loc (.ref (x + 1) :: st) h = eg_gf h x 11 0 (fun v => wps rm K Q c_X_move_44 kc ks loc (v :: st) h) := rfl
theorem s_X_move_44 {x : Int32} {l0 : Option Value} {l : eg_Lo} : wps rm K Q c_X_move_44 kc ks (l0 :: some (.int x) :: l) (st) h = wps rm K Q c_X_move_45 kc ks (l0 :: some (.int x) :: l) (.int x :: st) h := rfl
theorem s_X_move_45 {x : Nat} {i : Int32} : wps rm K Q c_X_move_45 kc ks loc (.int i :: .ref (x + 1) :: st) h = eg_aa h x i (fun v => wps rm K Q c_X_move_46 kc ks loc (v :: st) h) := rfl
theorem s_X_move_46 {x : Nat} : wps rm K Q c_X_move_46 kc ks loc (.ref (x + 1) :: st) h = eg_gf h x 8 3 (fun v => wps rm K Q c_X_move_49 kc ks loc (v :: st) h) := rfl
theorem s_X_move_49 {x : Int32} {l0 l1 l2 : Option Value} {l : eg_Lo} : wps rm K Q c_X_move_49 kc ks (l0 :: l1 :: l2 :: some (.int x) :: l) (st) h = wps rm K Q c_X_move_50 kc ks (l0 :: l1 :: l2 :: some (.int x) :: l) (.int x :: st) h := rfl
theorem s_X_move_50 {x : Nat} {i : Int32} : wps rm K Q c_X_move_50 kc ks loc (.int i :: .ref (x + 1) :: st) h = eg_ba h x i (fun v => wps rm K Q c_X_move_51 kc ks loc (.int v :: st) h) := rfl
theorem s_X_move_51 {x : Int32} : wps rm K Q c_X_move_51 kc ks loc (.int x :: st) h = ((x = 0 → K 62 kc ks loc st h) ∧ (¬ x = 0 → wps rm K Q c_X_move_54 kc ks loc (st) h)) := rfl
theorem s_X_move_54 {x : Nat} {l : eg_Lo} : wps rm K Q c_X_move_54 kc ks (some (.ref x) :: l) (st) h = wps rm K Q c_X_move_55 kc ks (some (.ref x) :: l) (.ref x :: st) h := rfl
theorem s_X_move_55  : wps rm K Q c_X_move_55 kc ks loc (st) h = wps rm K Q c_X_move_58 kc ks loc (.long (-1000000000000000007) :: st) h := rfl
theorem s_X_move_58  {a1 : Value} {x : Nat} : wps rm K Q c_X_move_58 kc ks loc (a1 :: .ref (x + 1) :: st) h = (eg_cls h x 11 ∧ st.length ≤ 4 ∧ eg_Cs n_X_found (.ref (x + 1) :: [a1]) h (fun v h9 => wps rm K Q c_X_move_61 kc ks loc (v.toList ++ st) h9)) := eg_c1_1
theorem s_X_move_61 {x : Int64} : wps rm K Q c_X_move_61 kc ks loc ([.long x]) h = (kc = rm.cells ∧ Q (some (.long x)) h) := rfl
theorem s_X_move_62 {x : Nat} {l : eg_Lo} : wps rm K Q c_X_move_62 kc ks (some (.ref x) :: l) (st) h = wps rm K Q c_X_move_63 kc ks (some (.ref x) :: l) (.ref x :: st) h := rfl
theorem s_X_move_63 {x : Nat} : wps rm K Q c_X_move_63 kc ks loc (.ref (x + 1) :: st) h = eg_gf h x 11 8 (fun v => wps rm K Q c_X_move_66 kc ks loc (v :: st) h) := rfl
theorem s_X_move_66 {x : Nat} {l : eg_Lo} : wps rm K Q c_X_move_66 kc ks (some (.ref x) :: l) (st) h = wps rm K Q c_X_move_67 kc ks (some (.ref x) :: l) (.ref x :: st) h := rfl
theorem s_X_move_67 {x : Nat} : wps rm K Q c_X_move_67 kc ks loc (.ref (x + 1) :: st) h = eg_gf h x 11 0 (fun v => wps rm K Q c_X_move_70 kc ks loc (v :: st) h) := rfl
theorem s_X_move_70 {x : Int32} {l0 : Option Value} {l : eg_Lo} : wps rm K Q c_X_move_70 kc ks (l0 :: some (.int x) :: l) (st) h = wps rm K Q c_X_move_71 kc ks (l0 :: some (.int x) :: l) (.int x :: st) h := rfl
theorem s_X_move_71 {x : Nat} {i : Int32} : wps rm K Q c_X_move_71 kc ks loc (.int i :: .ref (x + 1) :: st) h = eg_aa h x i (fun v => wps rm K Q c_X_move_72 kc ks loc (v :: st) h) := rfl
theorem s_X_move_72 {x : Int32} {l0 l1 : Option Value} {l : eg_Lo} : wps rm K Q c_X_move_72 kc ks (l0 :: l1 :: some (.int x) :: l) (st) h = wps rm K Q c_X_move_73 kc ks (l0 :: l1 :: some (.int x) :: l) (.int x :: st) h := rfl
theorem s_X_move_73 {x : Int32} {l0 l1 l2 : Option Value} {l : eg_Lo} : wps rm K Q c_X_move_73 kc ks (l0 :: l1 :: l2 :: some (.int x) :: l) (st) h = wps rm K Q c_X_move_74 kc ks (l0 :: l1 :: l2 :: some (.int x) :: l) (.int x :: st) h := rfl
theorem s_X_move_74  {a1 : Value} {a2 : Value} {a3 : Value} {x : Nat} : wps rm K Q c_X_move_74 kc ks loc (a3 :: a2 :: a1 :: .ref (x + 1) :: st) h = (eg_cls h x 0 ∧ st.length ≤ 4 ∧ eg_Cs n_Boxes_firstEntered (.ref (x + 1) :: [a1, a2, a3]) h (fun v h9 => wps rm K Q c_X_move_77 kc ks loc (v.toList ++ st) h9)) := eg_c1_3
theorem s_X_move_77 {x : Int32} : wps rm K Q c_X_move_77 kc ks loc (.int x :: st) h = wps rm K Q c_X_move_78 kc ks loc (.long (x.toInt64) :: st) h := rfl
theorem s_X_move_78 {x : Int64} : wps rm K Q c_X_move_78 kc ks loc ([.long x]) h = (kc = rm.cells ∧ Q (some (.long x)) h) := rfl
def T_X_move : List (Nat × List eg_I) := [(18, c_X_move_18), (26, c_X_move_26), (54, c_X_move_54), (62, c_X_move_62)]
theorem j_X_move_18 {R : Nat → Nat → Nat → eg_Lo → List Value → List eg_E → Prop} {f pc0 : Nat} : eg_run rm R Q T_X_move (f + 1) 18 kc ks loc st h = wps rm (eg_run rm R Q T_X_move f) Q c_X_move_18 kc ks loc st h := rfl
theorem j_X_move_26 {R : Nat → Nat → Nat → eg_Lo → List Value → List eg_E → Prop} {f pc0 : Nat} : eg_run rm R Q T_X_move (f + 1) 26 kc ks loc st h = wps rm (eg_run rm R Q T_X_move f) Q c_X_move_26 kc ks loc st h := rfl
theorem j_X_move_54 {R : Nat → Nat → Nat → eg_Lo → List Value → List eg_E → Prop} {f pc0 : Nat} : eg_run rm R Q T_X_move (f + 1) 54 kc ks loc st h = wps rm (eg_run rm R Q T_X_move f) Q c_X_move_54 kc ks loc st h := rfl
theorem j_X_move_62 {R : Nat → Nat → Nat → eg_Lo → List Value → List eg_E → Prop} {f pc0 : Nat} : eg_run rm R Q T_X_move (f + 1) 62 kc ks loc st h = wps rm (eg_run rm R Q T_X_move f) Q c_X_move_62 kc ks loc st h := rfl
end
theorem q_X_move : (T_X_move.all fun q => eg_seq m_X_move q.1 q.2) = true := by decide +kernel
theorem b_X_move {as : List Value} {h : List eg_E} {Q : Option Value → List eg_E → Prop} (hf : (eg_fl as).length ≤ 4) (hw : wps (eg_rm m_X_move) (eg_run (eg_rm m_X_move) (eg_R m_X_move Q (h.length + 0)) Q T_X_move 6) Q c_X_move_0 0 0 (eg_entry 4 as) [] h) : eg_Runs n_X_move as h Q := eg_begin (d := m_X_move) rfl (by decide) (by decide +kernel) q_X_move hf hw
/-! ===== X_path ===== -/
def c_X_path_82 : List eg_I := .inl (82, 1, .lreturn, 0, 0) :: []
def c_X_path_79 : List eg_I := .inl (79, 3, .sipush (-1), 152, 0) :: c_X_path_82
def c_X_path_76 : List eg_I := .inl (76, 3, .goto (-49), 27, 0) :: []
def c_X_path_73 : List eg_I := .inl (73, 3, .iinc 4 (1), 0, 0) :: c_X_path_76
def c_X_path_72 : List eg_I := .inl (72, 1, .istore 3, 0, 0) :: c_X_path_73
def c_X_path_70 : List eg_I := .inl (70, 2, .iload 4, 0, 0) :: c_X_path_72
def c_X_path_69 : List eg_I := .inl (69, 1, .lreturn, 0, 0) :: []
def c_X_path_68 : List eg_I := .inl (68, 1, .i2l, 0, 0) :: c_X_path_69
def c_X_path_67 : List eg_I := .inl (67, 1, .iload 3, 0, 0) :: c_X_path_68
def c_X_path_64 : List eg_I := .inl (64, 3, .ifCond .lt (6), 70, 0) :: c_X_path_67
def c_X_path_61 : List eg_I := .inr (61, 1, 303, n_Boxes_firstEntered, 3, 0, 0, 0) :: c_X_path_64
def c_X_path_59 : List eg_I := .inl (59, 2, .iload 4, 0, 0) :: c_X_path_61
def c_X_path_58 : List eg_I := .inl (58, 1, .iload 3, 0, 0) :: c_X_path_59
def c_X_path_57 : List eg_I := .inl (57, 1, .aload 2, 0, 0) :: c_X_path_58
def c_X_path_54 : List eg_I := .inl (54, 3, .getfield 65, 11, 8) :: c_X_path_57
def c_X_path_53 : List eg_I := .inl (53, 1, .aload 0, 0, 0) :: c_X_path_54
def c_X_path_50 : List eg_I := .inl (50, 3, .ifCond .lt (20), 70, 0) :: c_X_path_53
def c_X_path_49 : List eg_I := .inl (49, 1, .iload 3, 0, 0) :: c_X_path_50
def c_X_path_46 : List eg_I := .inl (46, 3, .goto (27), 73, 0) :: []
def c_X_path_43 : List eg_I := .inl (43, 3, .ifCond .eq (6), 49, 0) :: c_X_path_46
def c_X_path_42 : List eg_I := .inl (42, 1, .baload, 0, 0) :: c_X_path_43
def c_X_path_40 : List eg_I := .inl (40, 2, .iload 4, 0, 0) :: c_X_path_42
def c_X_path_37 : List eg_I := .inl (37, 3, .getfield 109, 8, 3) :: c_X_path_40
def c_X_path_36 : List eg_I := .inl (36, 1, .aload 2, 0, 0) :: c_X_path_37
def c_X_path_33 : List eg_I := .inl (33, 3, .if_icmp .ge (46), 79, 0) :: c_X_path_36
def c_X_path_30 : List eg_I := .inl (30, 3, .getfield 128, 8, 4) :: c_X_path_33
def c_X_path_29 : List eg_I := .inl (29, 1, .aload 2, 0, 0) :: c_X_path_30
def c_X_path_27 : List eg_I := .inl (27, 2, .iload 4, 0, 0) :: c_X_path_29
def c_X_path_25 : List eg_I := .inl (25, 2, .istore 4, 0, 0) :: [.inl (27, 0, .nop, 0, 0)]
def c_X_path_24 : List eg_I := .inl (24, 1, .iconst (0), 0, 0) :: c_X_path_25
def c_X_path_23 : List eg_I := .inl (23, 1, .istore 3, 0, 0) :: c_X_path_24
def c_X_path_22 : List eg_I := .inl (22, 1, .iconst (-1), 0, 0) :: c_X_path_23
def c_X_path_21 : List eg_I := .inl (21, 1, .astore 2, 0, 0) :: c_X_path_22
def c_X_path_20 : List eg_I := .inl (20, 1, .aaload, 0, 0) :: c_X_path_21
def c_X_path_19 : List eg_I := .inl (19, 1, .iload 1, 0, 0) :: c_X_path_20
def c_X_path_16 : List eg_I := .inl (16, 3, .getfield 11, 11, 0) :: c_X_path_19
def c_X_path_15 : List eg_I := .inl (15, 1, .aload 0, 0, 0) :: c_X_path_16
def c_X_path_14 : List eg_I := .inl (14, 1, .lreturn, 0, 0) :: []
def c_X_path_11 : List eg_I := .inr (11, 1, 86, n_X_found, 1, 11, 0, 0) :: c_X_path_14
def c_X_path_8 : List eg_I := .inl (8, 3, .sipush (-1000000000000000001), 84, 0) :: c_X_path_11
def c_X_path_7 : List eg_I := .inl (7, 1, .aload 0, 0, 0) :: c_X_path_8
def c_X_path_4 : List eg_I := .inl (4, 3, .ifCond .ne (11), 15, 0) :: c_X_path_7
def c_X_path_1 : List eg_I := .inr (1, 0, 72, n_X_isPart, 1, 11, 0, 0) :: c_X_path_4
def c_X_path_0 : List eg_I := .inl (0, 1, .iload 1, 0, 0) :: c_X_path_1
section
variable {rm : Room} {K : Nat → Nat → Nat → eg_Lo → List Value → List eg_E → Prop} {Q : Option Value → List eg_E → Prop} {kc ks : Nat} {loc : eg_Lo} {st : List Value} {h : List eg_E}
theorem s_X_path_0 {x : Int32} {l0 : Option Value} {l : eg_Lo} : wps rm K Q c_X_path_0 kc ks (l0 :: some (.int x) :: l) (st) h = wps rm K Q c_X_path_1 kc ks (l0 :: some (.int x) :: l) (.int x :: st) h := rfl
theorem s_X_path_1  {a1 : Value} : wps rm K Q c_X_path_1 kc ks loc (a1 :: st) h = (st.length ≤ 4 ∧ eg_Cs n_X_isPart [a1] h (fun v h9 => wps rm K Q c_X_path_4 kc ks loc (v.toList ++ st) h9)) := eg_c0_1
theorem s_X_path_4 {x : Int32} : wps rm K Q c_X_path_4 kc ks loc (.int x :: st) h = ((¬ x = 0 → K 15 kc ks loc st h) ∧ (x = 0 → wps rm K Q c_X_path_7 kc ks loc (st) h)) := rfl
theorem s_X_path_7 {x : Nat} {l : eg_Lo} : wps rm K Q c_X_path_7 kc ks (some (.ref x) :: l) (st) h = wps rm K Q c_X_path_8 kc ks (some (.ref x) :: l) (.ref x :: st) h := rfl
theorem s_X_path_8  : wps rm K Q c_X_path_8 kc ks loc (st) h = wps rm K Q c_X_path_11 kc ks loc (.long (-1000000000000000001) :: st) h := rfl
theorem s_X_path_11  {a1 : Value} {x : Nat} : wps rm K Q c_X_path_11 kc ks loc (a1 :: .ref (x + 1) :: st) h = (eg_cls h x 11 ∧ st.length ≤ 4 ∧ eg_Cs n_X_found (.ref (x + 1) :: [a1]) h (fun v h9 => wps rm K Q c_X_path_14 kc ks loc (v.toList ++ st) h9)) := eg_c1_1
theorem s_X_path_14 {x : Int64} : wps rm K Q c_X_path_14 kc ks loc ([.long x]) h = (kc = rm.cells ∧ Q (some (.long x)) h) := rfl
theorem s_X_path_15 {x : Nat} {l : eg_Lo} : wps rm K Q c_X_path_15 kc ks (some (.ref x) :: l) (st) h = wps rm K Q c_X_path_16 kc ks (some (.ref x) :: l) (.ref x :: st) h := rfl
theorem s_X_path_16 {x : Nat} : wps rm K Q c_X_path_16 kc ks loc (.ref (x + 1) :: st) h = eg_gf h x 11 0 (fun v => wps rm K Q c_X_path_19 kc ks loc (v :: st) h) := rfl
theorem s_X_path_19 {x : Int32} {l0 : Option Value} {l : eg_Lo} : wps rm K Q c_X_path_19 kc ks (l0 :: some (.int x) :: l) (st) h = wps rm K Q c_X_path_20 kc ks (l0 :: some (.int x) :: l) (.int x :: st) h := rfl
theorem s_X_path_20 {x : Nat} {i : Int32} : wps rm K Q c_X_path_20 kc ks loc (.int i :: .ref (x + 1) :: st) h = eg_aa h x i (fun v => wps rm K Q c_X_path_21 kc ks loc (v :: st) h) := rfl
theorem s_X_path_21 {x : Nat} : wps rm K Q c_X_path_21 kc ks loc (.ref x :: st) h = wps rm K Q c_X_path_22 kc ks (eg_set1 loc 2 (.ref x)) (st) h := rfl
theorem s_X_path_22  : wps rm K Q c_X_path_22 kc ks loc (st) h = wps rm K Q c_X_path_23 kc ks loc (.int (-1) :: st) h := rfl
theorem s_X_path_23 {x : Int32} : wps rm K Q c_X_path_23 kc ks loc (.int x :: st) h = wps rm K Q c_X_path_24 kc ks (eg_set1 loc 3 (.int x)) (st) h := rfl
theorem s_X_path_24  : wps rm K Q c_X_path_24 kc ks loc (st) h = wps rm K Q c_X_path_25 kc ks loc (.int (0) :: st) h := rfl
theorem s_X_path_25 {x : Int32} : wps rm K Q c_X_path_25 kc ks loc (.int x :: st) h = K 27 kc ks (eg_set1 loc 4 (.int x)) (st) h := rfl
theorem s_X_path_27 {x : Int32} {l0 l1 l2 l3 : Option Value} {l : eg_Lo} : wps rm K Q c_X_path_27 kc ks (l0 :: l1 :: l2 :: l3 :: some (.int x) :: l) (st) h = wps rm K Q c_X_path_29 kc ks (l0 :: l1 :: l2 :: l3 :: some (.int x) :: l) (.int x :: st) h := rfl
theorem s_X_path_29 {x : Nat} {l0 l1 : Option Value} {l : eg_Lo} : wps rm K Q c_X_path_29 kc ks (l0 :: l1 :: some (.ref x) :: l) (st) h = wps rm K Q c_X_path_30 kc ks (l0 :: l1 :: some (.ref x) :: l) (.ref x :: st) h := rfl
theorem s_X_path_30 {x : Nat} : wps rm K Q c_X_path_30 kc ks loc (.ref (x + 1) :: st) h = eg_gf h x 8 4 (fun v => wps rm K Q c_X_path_33 kc ks loc (v :: st) h) := rfl
theorem s_X_path_33 {x y : Int32} : wps rm K Q c_X_path_33 kc ks loc (.int y :: .int x :: st) h = ((y ≤ x → K 79 kc ks loc st h) ∧ (¬ y ≤ x → wps rm K Q c_X_path_36 kc ks loc (st) h)) := rfl
theorem s_X_path_36 {x : Nat} {l0 l1 : Option Value} {l : eg_Lo} : wps rm K Q c_X_path_36 kc ks (l0 :: l1 :: some (.ref x) :: l) (st) h = wps rm K Q c_X_path_37 kc ks (l0 :: l1 :: some (.ref x) :: l) (.ref x :: st) h := rfl
theorem s_X_path_37 {x : Nat} : wps rm K Q c_X_path_37 kc ks loc (.ref (x + 1) :: st) h = eg_gf h x 8 3 (fun v => wps rm K Q c_X_path_40 kc ks loc (v :: st) h) := rfl
theorem s_X_path_40 {x : Int32} {l0 l1 l2 l3 : Option Value} {l : eg_Lo} : wps rm K Q c_X_path_40 kc ks (l0 :: l1 :: l2 :: l3 :: some (.int x) :: l) (st) h = wps rm K Q c_X_path_42 kc ks (l0 :: l1 :: l2 :: l3 :: some (.int x) :: l) (.int x :: st) h := rfl
theorem s_X_path_42 {x : Nat} {i : Int32} : wps rm K Q c_X_path_42 kc ks loc (.int i :: .ref (x + 1) :: st) h = eg_ba h x i (fun v => wps rm K Q c_X_path_43 kc ks loc (.int v :: st) h) := rfl
theorem s_X_path_43 {x : Int32} : wps rm K Q c_X_path_43 kc ks loc (.int x :: st) h = ((x = 0 → K 49 kc ks loc st h) ∧ (¬ x = 0 → wps rm K Q c_X_path_46 kc ks loc (st) h)) := rfl
theorem s_X_path_46  : wps rm K Q c_X_path_46 kc ks loc (st) h = K 73 kc ks loc st h := rfl
theorem s_X_path_49 {x : Int32} {l0 l1 l2 : Option Value} {l : eg_Lo} : wps rm K Q c_X_path_49 kc ks (l0 :: l1 :: l2 :: some (.int x) :: l) (st) h = wps rm K Q c_X_path_50 kc ks (l0 :: l1 :: l2 :: some (.int x) :: l) (.int x :: st) h := rfl
theorem s_X_path_50 {x : Int32} : wps rm K Q c_X_path_50 kc ks loc (.int x :: st) h = ((x < 0 → K 70 kc ks loc st h) ∧ (¬ x < 0 → wps rm K Q c_X_path_53 kc ks loc (st) h)) := rfl
theorem s_X_path_53 {x : Nat} {l : eg_Lo} : wps rm K Q c_X_path_53 kc ks (some (.ref x) :: l) (st) h = wps rm K Q c_X_path_54 kc ks (some (.ref x) :: l) (.ref x :: st) h := rfl
theorem s_X_path_54 {x : Nat} : wps rm K Q c_X_path_54 kc ks loc (.ref (x + 1) :: st) h = eg_gf h x 11 8 (fun v => wps rm K Q c_X_path_57 kc ks loc (v :: st) h) := rfl
theorem s_X_path_57 {x : Nat} {l0 l1 : Option Value} {l : eg_Lo} : wps rm K Q c_X_path_57 kc ks (l0 :: l1 :: some (.ref x) :: l) (st) h = wps rm K Q c_X_path_58 kc ks (l0 :: l1 :: some (.ref x) :: l) (.ref x :: st) h := rfl
theorem s_X_path_58 {x : Int32} {l0 l1 l2 : Option Value} {l : eg_Lo} : wps rm K Q c_X_path_58 kc ks (l0 :: l1 :: l2 :: some (.int x) :: l) (st) h = wps rm K Q c_X_path_59 kc ks (l0 :: l1 :: l2 :: some (.int x) :: l) (.int x :: st) h := rfl
theorem s_X_path_59 {x : Int32} {l0 l1 l2 l3 : Option Value} {l : eg_Lo} : wps rm K Q c_X_path_59 kc ks (l0 :: l1 :: l2 :: l3 :: some (.int x) :: l) (st) h = wps rm K Q c_X_path_61 kc ks (l0 :: l1 :: l2 :: l3 :: some (.int x) :: l) (.int x :: st) h := rfl
theorem s_X_path_61  {a1 : Value} {a2 : Value} {a3 : Value} {x : Nat} : wps rm K Q c_X_path_61 kc ks loc (a3 :: a2 :: a1 :: .ref (x + 1) :: st) h = (eg_cls h x 0 ∧ st.length ≤ 4 ∧ eg_Cs n_Boxes_firstEntered (.ref (x + 1) :: [a1, a2, a3]) h (fun v h9 => wps rm K Q c_X_path_64 kc ks loc (v.toList ++ st) h9)) := eg_c1_3
theorem s_X_path_64 {x : Int32} : wps rm K Q c_X_path_64 kc ks loc (.int x :: st) h = ((x < 0 → K 70 kc ks loc st h) ∧ (¬ x < 0 → wps rm K Q c_X_path_67 kc ks loc (st) h)) := rfl
theorem s_X_path_67 {x : Int32} {l0 l1 l2 : Option Value} {l : eg_Lo} : wps rm K Q c_X_path_67 kc ks (l0 :: l1 :: l2 :: some (.int x) :: l) (st) h = wps rm K Q c_X_path_68 kc ks (l0 :: l1 :: l2 :: some (.int x) :: l) (.int x :: st) h := rfl
theorem s_X_path_68 {x : Int32} : wps rm K Q c_X_path_68 kc ks loc (.int x :: st) h = wps rm K Q c_X_path_69 kc ks loc (.long (x.toInt64) :: st) h := rfl
theorem s_X_path_69 {x : Int64} : wps rm K Q c_X_path_69 kc ks loc ([.long x]) h = (kc = rm.cells ∧ Q (some (.long x)) h) := rfl
theorem s_X_path_70 {x : Int32} {l0 l1 l2 l3 : Option Value} {l : eg_Lo} : wps rm K Q c_X_path_70 kc ks (l0 :: l1 :: l2 :: l3 :: some (.int x) :: l) (st) h = wps rm K Q c_X_path_72 kc ks (l0 :: l1 :: l2 :: l3 :: some (.int x) :: l) (.int x :: st) h := rfl
theorem s_X_path_72 {x : Int32} : wps rm K Q c_X_path_72 kc ks loc (.int x :: st) h = wps rm K Q c_X_path_73 kc ks (eg_set1 loc 3 (.int x)) (st) h := rfl
theorem s_X_path_73 {x : Int32} {l0 l1 l2 l3 : Option Value} {l9 : eg_Lo} : wps rm K Q c_X_path_73 kc ks (l0 :: l1 :: l2 :: l3 :: some (.int x) :: l9) (st) h = wps rm K Q c_X_path_76 kc ks (eg_set1 (l0 :: l1 :: l2 :: l3 :: some (.int x) :: l9) 4 (.int (x + (1)))) (st) h := rfl
theorem s_X_path_76  : wps rm K Q c_X_path_76 kc ks loc (st) h = K 27 kc ks loc st h := rfl
theorem s_X_path_79  : wps rm K Q c_X_path_79 kc ks loc (st) h = wps rm K Q c_X_path_82 kc ks loc (.long (-1) :: st) h := rfl
theorem s_X_path_82 {x : Int64} : wps rm K Q c_X_path_82 kc ks loc ([.long x]) h = (kc = rm.cells ∧ Q (some (.long x)) h) := rfl
def T_X_path : List (Nat × List eg_I) := [(15, c_X_path_15), (49, c_X_path_49), (70, c_X_path_70), (73, c_X_path_73), (79, c_X_path_79)]
theorem j_X_path_15 {R : Nat → Nat → Nat → eg_Lo → List Value → List eg_E → Prop} {f pc0 : Nat} : eg_run rm R Q T_X_path (f + 1) 15 kc ks loc st h = wps rm (eg_run rm R Q T_X_path f) Q c_X_path_15 kc ks loc st h := rfl
theorem j_X_path_49 {R : Nat → Nat → Nat → eg_Lo → List Value → List eg_E → Prop} {f pc0 : Nat} : eg_run rm R Q T_X_path (f + 1) 49 kc ks loc st h = wps rm (eg_run rm R Q T_X_path f) Q c_X_path_49 kc ks loc st h := rfl
theorem j_X_path_70 {R : Nat → Nat → Nat → eg_Lo → List Value → List eg_E → Prop} {f pc0 : Nat} : eg_run rm R Q T_X_path (f + 1) 70 kc ks loc st h = wps rm (eg_run rm R Q T_X_path f) Q c_X_path_70 kc ks loc st h := rfl
theorem j_X_path_73 {R : Nat → Nat → Nat → eg_Lo → List Value → List eg_E → Prop} {f pc0 : Nat} : eg_run rm R Q T_X_path (f + 1) 73 kc ks loc st h = wps rm (eg_run rm R Q T_X_path f) Q c_X_path_73 kc ks loc st h := rfl
theorem j_X_path_79 {R : Nat → Nat → Nat → eg_Lo → List Value → List eg_E → Prop} {f pc0 : Nat} : eg_run rm R Q T_X_path (f + 1) 79 kc ks loc st h = wps rm (eg_run rm R Q T_X_path f) Q c_X_path_79 kc ks loc st h := rfl
theorem j_X_path_27 {R : Nat → Nat → Nat → eg_Lo → List Value → List eg_E → Prop} {f pc0 : Nat} : eg_run rm R Q T_X_path (f + 1) 27 kc ks loc st h = R 27 kc ks loc st h := rfl
end
theorem q_X_path : (T_X_path.all fun q => eg_seq m_X_path q.1 q.2) = true := by decide +kernel
theorem b_X_path {as : List Value} {h : List eg_E} {Q : Option Value → List eg_E → Prop} (hf : (eg_fl as).length ≤ 5) (hw : wps (eg_rm m_X_path) (eg_run (eg_rm m_X_path) (eg_R m_X_path Q (h.length + 0)) Q T_X_path 7) Q c_X_path_0 0 0 (eg_entry 5 as) [] h) : eg_Runs n_X_path as h Q := eg_begin (d := m_X_path) rfl (by decide) (by decide +kernel) q_X_path hf hw
theorem p_X_path_27 {Q : Option Value → List eg_E → Prop} {n0 kc ks : Nat} {loc : eg_Lo} {st : List Value} {h : List eg_E} (hw : wps (eg_rm m_X_path) (eg_run (eg_rm m_X_path) (eg_R m_X_path Q n0) Q T_X_path 7) Q c_X_path_27 kc ks loc st h) : eg_R m_X_path Q n0 27 kc ks loc st h := eg_go (by decide +kernel) q_X_path hw
/-! ===== X_told ===== -/
def c_X_told_68 : List eg_I := .inl (68, 1, .lreturn, 0, 0) :: []
def c_X_told_65 : List eg_I := .inr (65, 1, 86, n_X_found, 1, 11, 0, 0) :: c_X_told_68
def c_X_told_62 : List eg_I := .inl (62, 3, .sipush (-1000000000000000001), 84, 0) :: c_X_told_65
def c_X_told_61 : List eg_I := .inl (61, 1, .aload 0, 0, 0) :: c_X_told_62
def c_X_told_60 : List eg_I := .inl (60, 1, .lreturn, 0, 0) :: []
def c_X_told_57 : List eg_I := .inl (57, 3, .getfield 310, 11, 9) :: c_X_told_60
def c_X_told_56 : List eg_I := .inl (56, 1, .aload 0, 0, 0) :: c_X_told_57
def c_X_told_55 : List eg_I := .inl (55, 1, .lreturn, 0, 0) :: []
def c_X_told_54 : List eg_I := .inl (54, 1, .i2l, 0, 0) :: c_X_told_55
def c_X_told_51 : List eg_I := .inl (51, 3, .getfield 298, 0, 0) :: c_X_told_54
def c_X_told_48 : List eg_I := .inl (48, 3, .getfield 65, 11, 8) :: c_X_told_51
def c_X_told_47 : List eg_I := .inl (47, 1, .aload 0, 0, 0) :: c_X_told_48
def c_X_told_46 : List eg_I := .inl (46, 1, .lreturn, 0, 0) :: []
def c_X_told_45 : List eg_I := .inl (45, 1, .i2l, 0, 0) :: c_X_told_46
def c_X_told_42 : List eg_I := .inl (42, 3, .getfield 282, 7, 1) :: c_X_told_45
def c_X_told_39 : List eg_I := .inl (39, 3, .getfield 58, 11, 7) :: c_X_told_42
def c_X_told_38 : List eg_I := .inl (38, 1, .aload 0, 0, 0) :: c_X_told_39
def c_X_told_37 : List eg_I := .inl (37, 1, .lreturn, 0, 0) :: []
def c_X_told_36 : List eg_I := .inl (36, 1, .i2l, 0, 0) :: c_X_told_37
def c_X_told_33 : List eg_I := .inr (33, 1, 307, n_X_figureCount, 0, 11, 0, 0) :: c_X_told_36
def c_X_told_32 : List eg_I := .inl (32, 1, .aload 0, 0, 0) :: c_X_told_33
def c_X_told_1 : List eg_I := .inl (1, 31, .tableswitch 60 0 3 #[31, 37, 46, 55], 0, 0) :: []
def c_X_told_0 : List eg_I := .inl (0, 1, .iload 1, 0, 0) :: c_X_told_1
section
variable {rm : Room} {K : Nat → Nat → Nat → eg_Lo → List Value → List eg_E → Prop} {Q : Option Value → List eg_E → Prop} {kc ks : Nat} {loc : eg_Lo} {st : List Value} {h : List eg_E}
theorem s_X_told_0 {x : Int32} {l0 : Option Value} {l : eg_Lo} : wps rm K Q c_X_told_0 kc ks (l0 :: some (.int x) :: l) (st) h = wps rm K Q c_X_told_1 kc ks (l0 :: some (.int x) :: l) (.int x :: st) h := rfl
theorem s_X_told_1 {x : Int32} : wps rm K Q c_X_told_1 kc ks loc (.int x :: st) h = ((x.toInt < 0 ∨ 3 < x.toInt → K 61 kc ks loc st h) ∧ (¬ x.toInt < 0 → ¬ 3 < x.toInt → ∀ off, (#[31, 37, 46, 55] : Array Int)[(x.toInt - 0).toNat]? = some off → K (Int.toNat ((1 : Int) + off)) kc ks loc st h)) := rfl
theorem s_X_told_32 {x : Nat} {l : eg_Lo} : wps rm K Q c_X_told_32 kc ks (some (.ref x) :: l) (st) h = wps rm K Q c_X_told_33 kc ks (some (.ref x) :: l) (.ref x :: st) h := rfl
theorem s_X_told_33  {x : Nat} : wps rm K Q c_X_told_33 kc ks loc (.ref (x + 1) :: st) h = (eg_cls h x 11 ∧ st.length ≤ 4 ∧ eg_Cs n_X_figureCount (.ref (x + 1) :: []) h (fun v h9 => wps rm K Q c_X_told_36 kc ks loc (v.toList ++ st) h9)) := eg_c1_0
theorem s_X_told_36 {x : Int32} : wps rm K Q c_X_told_36 kc ks loc (.int x :: st) h = wps rm K Q c_X_told_37 kc ks loc (.long (x.toInt64) :: st) h := rfl
theorem s_X_told_37 {x : Int64} : wps rm K Q c_X_told_37 kc ks loc ([.long x]) h = (kc = rm.cells ∧ Q (some (.long x)) h) := rfl
theorem s_X_told_38 {x : Nat} {l : eg_Lo} : wps rm K Q c_X_told_38 kc ks (some (.ref x) :: l) (st) h = wps rm K Q c_X_told_39 kc ks (some (.ref x) :: l) (.ref x :: st) h := rfl
theorem s_X_told_39 {x : Nat} : wps rm K Q c_X_told_39 kc ks loc (.ref (x + 1) :: st) h = eg_gf h x 11 7 (fun v => wps rm K Q c_X_told_42 kc ks loc (v :: st) h) := rfl
theorem s_X_told_42 {x : Nat} : wps rm K Q c_X_told_42 kc ks loc (.ref (x + 1) :: st) h = eg_gf h x 7 1 (fun v => wps rm K Q c_X_told_45 kc ks loc (v :: st) h) := rfl
theorem s_X_told_45 {x : Int32} : wps rm K Q c_X_told_45 kc ks loc (.int x :: st) h = wps rm K Q c_X_told_46 kc ks loc (.long (x.toInt64) :: st) h := rfl
theorem s_X_told_46 {x : Int64} : wps rm K Q c_X_told_46 kc ks loc ([.long x]) h = (kc = rm.cells ∧ Q (some (.long x)) h) := rfl
theorem s_X_told_47 {x : Nat} {l : eg_Lo} : wps rm K Q c_X_told_47 kc ks (some (.ref x) :: l) (st) h = wps rm K Q c_X_told_48 kc ks (some (.ref x) :: l) (.ref x :: st) h := rfl
theorem s_X_told_48 {x : Nat} : wps rm K Q c_X_told_48 kc ks loc (.ref (x + 1) :: st) h = eg_gf h x 11 8 (fun v => wps rm K Q c_X_told_51 kc ks loc (v :: st) h) := rfl
theorem s_X_told_51 {x : Nat} : wps rm K Q c_X_told_51 kc ks loc (.ref (x + 1) :: st) h = eg_gf h x 0 0 (fun v => wps rm K Q c_X_told_54 kc ks loc (v :: st) h) := rfl
theorem s_X_told_54 {x : Int32} : wps rm K Q c_X_told_54 kc ks loc (.int x :: st) h = wps rm K Q c_X_told_55 kc ks loc (.long (x.toInt64) :: st) h := rfl
theorem s_X_told_55 {x : Int64} : wps rm K Q c_X_told_55 kc ks loc ([.long x]) h = (kc = rm.cells ∧ Q (some (.long x)) h) := rfl
theorem s_X_told_56 {x : Nat} {l : eg_Lo} : wps rm K Q c_X_told_56 kc ks (some (.ref x) :: l) (st) h = wps rm K Q c_X_told_57 kc ks (some (.ref x) :: l) (.ref x :: st) h := rfl
theorem s_X_told_57 {x : Nat} : wps rm K Q c_X_told_57 kc ks loc (.ref (x + 1) :: st) h = eg_gf h x 11 9 (fun v => wps rm K Q c_X_told_60 kc ks loc (v :: st) h) := rfl
theorem s_X_told_60 {x : Int64} : wps rm K Q c_X_told_60 kc ks loc ([.long x]) h = (kc = rm.cells ∧ Q (some (.long x)) h) := rfl
theorem s_X_told_61 {x : Nat} {l : eg_Lo} : wps rm K Q c_X_told_61 kc ks (some (.ref x) :: l) (st) h = wps rm K Q c_X_told_62 kc ks (some (.ref x) :: l) (.ref x :: st) h := rfl
theorem s_X_told_62  : wps rm K Q c_X_told_62 kc ks loc (st) h = wps rm K Q c_X_told_65 kc ks loc (.long (-1000000000000000001) :: st) h := rfl
theorem s_X_told_65  {a1 : Value} {x : Nat} : wps rm K Q c_X_told_65 kc ks loc (a1 :: .ref (x + 1) :: st) h = (eg_cls h x 11 ∧ st.length ≤ 4 ∧ eg_Cs n_X_found (.ref (x + 1) :: [a1]) h (fun v h9 => wps rm K Q c_X_told_68 kc ks loc (v.toList ++ st) h9)) := eg_c1_1
theorem s_X_told_68 {x : Int64} : wps rm K Q c_X_told_68 kc ks loc ([.long x]) h = (kc = rm.cells ∧ Q (some (.long x)) h) := rfl
def T_X_told : List (Nat × List eg_I) := [(32, c_X_told_32), (38, c_X_told_38), (47, c_X_told_47), (56, c_X_told_56), (61, c_X_told_61)]
theorem j_X_told_32 {R : Nat → Nat → Nat → eg_Lo → List Value → List eg_E → Prop} {f pc0 : Nat} : eg_run rm R Q T_X_told (f + 1) 32 kc ks loc st h = wps rm (eg_run rm R Q T_X_told f) Q c_X_told_32 kc ks loc st h := rfl
theorem j_X_told_38 {R : Nat → Nat → Nat → eg_Lo → List Value → List eg_E → Prop} {f pc0 : Nat} : eg_run rm R Q T_X_told (f + 1) 38 kc ks loc st h = wps rm (eg_run rm R Q T_X_told f) Q c_X_told_38 kc ks loc st h := rfl
theorem j_X_told_47 {R : Nat → Nat → Nat → eg_Lo → List Value → List eg_E → Prop} {f pc0 : Nat} : eg_run rm R Q T_X_told (f + 1) 47 kc ks loc st h = wps rm (eg_run rm R Q T_X_told f) Q c_X_told_47 kc ks loc st h := rfl
theorem j_X_told_56 {R : Nat → Nat → Nat → eg_Lo → List Value → List eg_E → Prop} {f pc0 : Nat} : eg_run rm R Q T_X_told (f + 1) 56 kc ks loc st h = wps rm (eg_run rm R Q T_X_told f) Q c_X_told_56 kc ks loc st h := rfl
theorem j_X_told_61 {R : Nat → Nat → Nat → eg_Lo → List Value → List eg_E → Prop} {f pc0 : Nat} : eg_run rm R Q T_X_told (f + 1) 61 kc ks loc st h = wps rm (eg_run rm R Q T_X_told f) Q c_X_told_61 kc ks loc st h := rfl
end
theorem q_X_told : (T_X_told.all fun q => eg_seq m_X_told q.1 q.2) = true := by decide +kernel
theorem b_X_told {as : List Value} {h : List eg_E} {Q : Option Value → List eg_E → Prop} (hf : (eg_fl as).length ≤ 2) (hw : wps (eg_rm m_X_told) (eg_run (eg_rm m_X_told) (eg_R m_X_told Q (h.length + 0)) Q T_X_told 7) Q c_X_told_0 0 0 (eg_entry 2 as) [] h) : eg_Runs n_X_told as h Q := eg_begin (d := m_X_told) rfl (by decide) (by decide +kernel) q_X_told hf hw
/-! ===== X_found ===== -/
def c_X_found_11 : List eg_I := .inl (11, 1, .lreturn, 0, 0) :: []
def c_X_found_10 : List eg_I := .inl (10, 1, .lload 1, 0, 0) :: c_X_found_11
def c_X_found_7 : List eg_I := .inl (7, 3, .putfield 310, 11, 9) :: c_X_found_10
def c_X_found_6 : List eg_I := .inl (6, 1, .ladd, 0, 0) :: c_X_found_7
def c_X_found_5 : List eg_I := .inl (5, 1, .sipush (1), 0, 0) :: c_X_found_6
def c_X_found_2 : List eg_I := .inl (2, 3, .getfield 310, 11, 9) :: c_X_found_5
def c_X_found_1 : List eg_I := .inl (1, 1, .dup, 0, 0) :: c_X_found_2
def c_X_found_0 : List eg_I := .inl (0, 1, .aload 0, 0, 0) :: c_X_found_1
section
variable {rm : Room} {K : Nat → Nat → Nat → eg_Lo → List Value → List eg_E → Prop} {Q : Option Value → List eg_E → Prop} {kc ks : Nat} {loc : eg_Lo} {st : List Value} {h : List eg_E}
theorem s_X_found_0 {x : Nat} {l : eg_Lo} : wps rm K Q c_X_found_0 kc ks (some (.ref x) :: l) (st) h = wps rm K Q c_X_found_1 kc ks (some (.ref x) :: l) (.ref x :: st) h := rfl
theorem s_X_found_1 {x : Nat} : wps rm K Q c_X_found_1 kc ks loc (.ref x :: st) h = wps rm K Q c_X_found_2 kc ks loc (.ref x :: .ref x :: st) h := rfl
theorem s_X_found_2 {x : Nat} : wps rm K Q c_X_found_2 kc ks loc (.ref (x + 1) :: st) h = eg_gf h x 11 9 (fun v => wps rm K Q c_X_found_5 kc ks loc (v :: st) h) := rfl
theorem s_X_found_5  : wps rm K Q c_X_found_5 kc ks loc (st) h = wps rm K Q c_X_found_6 kc ks loc (.long (1) :: st) h := rfl
theorem s_X_found_6 {x y : Int64} : wps rm K Q c_X_found_6 kc ks loc (.long y :: .long x :: st) h = wps rm K Q c_X_found_7 kc ks loc (.long (x + y) :: st) h := rfl
theorem s_X_found_7 {x : Nat} {v : Value} : wps rm K Q c_X_found_7 kc ks loc (v :: .ref (x + 1) :: st) h = eg_pf h x 11 9 v (fun h9 => wps rm K Q c_X_found_10 kc ks loc (st) h9) := rfl
theorem s_X_found_10 {x : Int64} {l0 : Option Value} {l : eg_Lo} : wps rm K Q c_X_found_10 kc ks (l0 :: some (.long x) :: l) (st) h = wps rm K Q c_X_found_11 kc ks (l0 :: some (.long x) :: l) (.long x :: st) h := rfl
theorem s_X_found_11 {x : Int64} : wps rm K Q c_X_found_11 kc ks loc ([.long x]) h = (kc = rm.cells ∧ Q (some (.long x)) h) := rfl
def T_X_found : List (Nat × List eg_I) := []
end
theorem q_X_found : (T_X_found.all fun q => eg_seq m_X_found q.1 q.2) = true := by decide +kernel
theorem b_X_found {as : List Value} {h : List eg_E} {Q : Option Value → List eg_E → Prop} (hf : (eg_fl as).length ≤ 3) (hw : wps (eg_rm m_X_found) (eg_run (eg_rm m_X_found) (eg_R m_X_found Q (h.length + 0)) Q T_X_found 2) Q c_X_found_0 0 0 (eg_entry 3 as) [] h) : eg_Runs n_X_found as h Q := eg_begin (d := m_X_found) rfl (by decide) (by decide +kernel) q_X_found hf hw
/-! ===== X_isWithin ===== -/
def c_X_isWithin_15 : List eg_I := .inl (15, 1, .ireturn, 0, 1) :: []
def c_X_isWithin_14 : List eg_I := .inl (14, 1, .iconst (0), 0, 0) :: c_X_isWithin_15
def c_X_isWithin_11 : List eg_I := .inl (11, 3, .goto (4), 15, 0) :: []
def c_X_isWithin_10 : List eg_I := .inl (10, 1, .iconst (1), 0, 0) :: c_X_isWithin_11
def c_X_isWithin_7 : List eg_I := .inl (7, 3, .if_icmp .gt (7), 14, 0) :: c_X_isWithin_10
def c_X_isWithin_6 : List eg_I := .inl (6, 1, .iload 2, 0, 0) :: c_X_isWithin_7
def c_X_isWithin_5 : List eg_I := .inl (5, 1, .iload 0, 0, 0) :: c_X_isWithin_6
def c_X_isWithin_2 : List eg_I := .inl (2, 3, .if_icmp .lt (12), 14, 0) :: c_X_isWithin_5
def c_X_isWithin_1 : List eg_I := .inl (1, 1, .iload 1, 0, 0) :: c_X_isWithin_2
def c_X_isWithin_0 : List eg_I := .inl (0, 1, .iload 0, 0, 0) :: c_X_isWithin_1
section
variable {rm : Room} {K : Nat → Nat → Nat → eg_Lo → List Value → List eg_E → Prop} {Q : Option Value → List eg_E → Prop} {kc ks : Nat} {loc : eg_Lo} {st : List Value} {h : List eg_E}
theorem s_X_isWithin_0 {x : Int32} {l : eg_Lo} : wps rm K Q c_X_isWithin_0 kc ks (some (.int x) :: l) (st) h = wps rm K Q c_X_isWithin_1 kc ks (some (.int x) :: l) (.int x :: st) h := rfl
theorem s_X_isWithin_1 {x : Int32} {l0 : Option Value} {l : eg_Lo} : wps rm K Q c_X_isWithin_1 kc ks (l0 :: some (.int x) :: l) (st) h = wps rm K Q c_X_isWithin_2 kc ks (l0 :: some (.int x) :: l) (.int x :: st) h := rfl
theorem s_X_isWithin_2 {x y : Int32} : wps rm K Q c_X_isWithin_2 kc ks loc (.int y :: .int x :: st) h = ((x < y → K 14 kc ks loc st h) ∧ (¬ x < y → wps rm K Q c_X_isWithin_5 kc ks loc (st) h)) := rfl
theorem s_X_isWithin_5 {x : Int32} {l : eg_Lo} : wps rm K Q c_X_isWithin_5 kc ks (some (.int x) :: l) (st) h = wps rm K Q c_X_isWithin_6 kc ks (some (.int x) :: l) (.int x :: st) h := rfl
theorem s_X_isWithin_6 {x : Int32} {l0 l1 : Option Value} {l : eg_Lo} : wps rm K Q c_X_isWithin_6 kc ks (l0 :: l1 :: some (.int x) :: l) (st) h = wps rm K Q c_X_isWithin_7 kc ks (l0 :: l1 :: some (.int x) :: l) (.int x :: st) h := rfl
theorem s_X_isWithin_7 {x y : Int32} : wps rm K Q c_X_isWithin_7 kc ks loc (.int y :: .int x :: st) h = ((y < x → K 14 kc ks loc st h) ∧ (¬ y < x → wps rm K Q c_X_isWithin_10 kc ks loc (st) h)) := rfl
theorem s_X_isWithin_10  : wps rm K Q c_X_isWithin_10 kc ks loc (st) h = wps rm K Q c_X_isWithin_11 kc ks loc (.int (1) :: st) h := rfl
theorem s_X_isWithin_11  : wps rm K Q c_X_isWithin_11 kc ks loc (st) h = K 15 kc ks loc st h := rfl
theorem s_X_isWithin_14  : wps rm K Q c_X_isWithin_14 kc ks loc (st) h = wps rm K Q c_X_isWithin_15 kc ks loc (.int (0) :: st) h := rfl
theorem s_X_isWithin_15 {x : Int32} : wps rm K Q c_X_isWithin_15 kc ks loc ([.int x]) h = (kc = rm.cells ∧ ((1 : Nat) = 1 → x = 0 ∨ x = 1) ∧ Q (some (.int x)) h) := rfl
def T_X_isWithin : List (Nat × List eg_I) := [(14, c_X_isWithin_14), (15, c_X_isWithin_15)]
theorem j_X_isWithin_14 {R : Nat → Nat → Nat → eg_Lo → List Value → List eg_E → Prop} {f pc0 : Nat} : eg_run rm R Q T_X_isWithin (f + 1) 14 kc ks loc st h = wps rm (eg_run rm R Q T_X_isWithin f) Q c_X_isWithin_14 kc ks loc st h := rfl
theorem j_X_isWithin_15 {R : Nat → Nat → Nat → eg_Lo → List Value → List eg_E → Prop} {f pc0 : Nat} : eg_run rm R Q T_X_isWithin (f + 1) 15 kc ks loc st h = wps rm (eg_run rm R Q T_X_isWithin f) Q c_X_isWithin_15 kc ks loc st h := rfl
end
theorem q_X_isWithin : (T_X_isWithin.all fun q => eg_seq m_X_isWithin q.1 q.2) = true := by decide +kernel
theorem b_X_isWithin {as : List Value} {h : List eg_E} {Q : Option Value → List eg_E → Prop} (hf : (eg_fl as).length ≤ 3) (hw : wps (eg_rm m_X_isWithin) (eg_run (eg_rm m_X_isWithin) (eg_R m_X_isWithin Q (h.length + 0)) Q T_X_isWithin 4) Q c_X_isWithin_0 0 0 (eg_entry 3 as) [] h) : eg_Runs n_X_isWithin as h Q := eg_begin (d := m_X_isWithin) rfl (by decide) (by decide +kernel) q_X_isWithin hf hw
/-! ===== X_isPlace ===== -/
def c_X_isPlace_31 : List eg_I := .inl (31, 1, .ireturn, 0, 1) :: []
def c_X_isPlace_30 : List eg_I := .inl (30, 1, .iconst (0), 0, 0) :: c_X_isPlace_31
def c_X_isPlace_27 : List eg_I := .inl (27, 3, .goto (4), 31, 0) :: []
def c_X_isPlace_26 : List eg_I := .inl (26, 1, .iconst (1), 0, 0) :: c_X_isPlace_27
def c_X_isPlace_23 : List eg_I := .inl (23, 3, .ifCond .eq (7), 30, 0) :: c_X_isPlace_26
def c_X_isPlace_20 : List eg_I := .inr (20, 0, 80, n_X_isWithin, 3, 11, 0, 0) :: c_X_isPlace_23
def c_X_isPlace_17 : List eg_I := .inl (17, 3, .iconst (300), 0, 0) :: c_X_isPlace_20
def c_X_isPlace_14 : List eg_I := .inl (14, 3, .iconst (-300), 0, 0) :: c_X_isPlace_17
def c_X_isPlace_13 : List eg_I := .inl (13, 1, .iload 1, 0, 0) :: c_X_isPlace_14
def c_X_isPlace_10 : List eg_I := .inl (10, 3, .ifCond .eq (20), 30, 0) :: c_X_isPlace_13
def c_X_isPlace_7 : List eg_I := .inr (7, 0, 80, n_X_isWithin, 3, 11, 0, 0) :: c_X_isPlace_10
def c_X_isPlace_4 : List eg_I := .inl (4, 3, .iconst (300), 0, 0) :: c_X_isPlace_7
def c_X_isPlace_1 : List eg_I := .inl (1, 3, .iconst (-300), 0, 0) :: c_X_isPlace_4
def c_X_isPlace_0 : List eg_I := .inl (0, 1, .iload 0, 0, 0) :: c_X_isPlace_1
section
variable {rm : Room} {K : Nat → Nat → Nat → eg_Lo → List Value → List eg_E → Prop} {Q : Option Value → List eg_E → Prop} {kc ks : Nat} {loc : eg_Lo} {st : List Value} {h : List eg_E}
theorem s_X_isPlace_0 {x : Int32} {l : eg_Lo} : wps rm K Q c_X_isPlace_0 kc ks (some (.int x) :: l) (st) h = wps rm K Q c_X_isPlace_1 kc ks (some (.int x) :: l) (.int x :: st) h := rfl
theorem s_X_isPlace_1  : wps rm K Q c_X_isPlace_1 kc ks loc (st) h = wps rm K Q c_X_isPlace_4 kc ks loc (.int (-300) :: st) h := rfl
theorem s_X_isPlace_4  : wps rm K Q c_X_isPlace_4 kc ks loc (st) h = wps rm K Q c_X_isPlace_7 kc ks loc (.int (300) :: st) h := rfl
theorem s_X_isPlace_7  {a1 : Value} {a2 : Value} {a3 : Value} : wps rm K Q c_X_isPlace_7 kc ks loc (a3 :: a2 :: a1 :: st) h = (st.length ≤ 4 ∧ eg_Cs n_X_isWithin [a1, a2, a3] h (fun v h9 => wps rm K Q c_X_isPlace_10 kc ks loc (v.toList ++ st) h9)) := eg_c0_3
theorem s_X_isPlace_10 {x : Int32} : wps rm K Q c_X_isPlace_10 kc ks loc (.int x :: st) h = ((x = 0 → K 30 kc ks loc st h) ∧ (¬ x = 0 → wps rm K Q c_X_isPlace_13 kc ks loc (st) h)) := rfl
theorem s_X_isPlace_13 {x : Int32} {l0 : Option Value} {l : eg_Lo} : wps rm K Q c_X_isPlace_13 kc ks (l0 :: some (.int x) :: l) (st) h = wps rm K Q c_X_isPlace_14 kc ks (l0 :: some (.int x) :: l) (.int x :: st) h := rfl
theorem s_X_isPlace_14  : wps rm K Q c_X_isPlace_14 kc ks loc (st) h = wps rm K Q c_X_isPlace_17 kc ks loc (.int (-300) :: st) h := rfl
theorem s_X_isPlace_17  : wps rm K Q c_X_isPlace_17 kc ks loc (st) h = wps rm K Q c_X_isPlace_20 kc ks loc (.int (300) :: st) h := rfl
theorem s_X_isPlace_20  {a1 : Value} {a2 : Value} {a3 : Value} : wps rm K Q c_X_isPlace_20 kc ks loc (a3 :: a2 :: a1 :: st) h = (st.length ≤ 4 ∧ eg_Cs n_X_isWithin [a1, a2, a3] h (fun v h9 => wps rm K Q c_X_isPlace_23 kc ks loc (v.toList ++ st) h9)) := eg_c0_3
theorem s_X_isPlace_23 {x : Int32} : wps rm K Q c_X_isPlace_23 kc ks loc (.int x :: st) h = ((x = 0 → K 30 kc ks loc st h) ∧ (¬ x = 0 → wps rm K Q c_X_isPlace_26 kc ks loc (st) h)) := rfl
theorem s_X_isPlace_26  : wps rm K Q c_X_isPlace_26 kc ks loc (st) h = wps rm K Q c_X_isPlace_27 kc ks loc (.int (1) :: st) h := rfl
theorem s_X_isPlace_27  : wps rm K Q c_X_isPlace_27 kc ks loc (st) h = K 31 kc ks loc st h := rfl
theorem s_X_isPlace_30  : wps rm K Q c_X_isPlace_30 kc ks loc (st) h = wps rm K Q c_X_isPlace_31 kc ks loc (.int (0) :: st) h := rfl
theorem s_X_isPlace_31 {x : Int32} : wps rm K Q c_X_isPlace_31 kc ks loc ([.int x]) h = (kc = rm.cells ∧ ((1 : Nat) = 1 → x = 0 ∨ x = 1) ∧ Q (some (.int x)) h) := rfl
def T_X_isPlace : List (Nat × List eg_I) := [(30, c_X_isPlace_30), (31, c_X_isPlace_31)]
theorem j_X_isPlace_30 {R : Nat → Nat → Nat → eg_Lo → List Value → List eg_E → Prop} {f pc0 : Nat} : eg_run rm R Q T_X_isPlace (f + 1) 30 kc ks loc st h = wps rm (eg_run rm R Q T_X_isPlace f) Q c_X_isPlace_30 kc ks loc st h := rfl
theorem j_X_isPlace_31 {R : Nat → Nat → Nat → eg_Lo → List Value → List eg_E → Prop} {f pc0 : Nat} : eg_run rm R Q T_X_isPlace (f + 1) 31 kc ks loc st h = wps rm (eg_run rm R Q T_X_isPlace f) Q c_X_isPlace_31 kc ks loc st h := rfl
end
theorem q_X_isPlace : (T_X_isPlace.all fun q => eg_seq m_X_isPlace q.1 q.2) = true := by decide +kernel
theorem b_X_isPlace {as : List Value} {h : List eg_E} {Q : Option Value → List eg_E → Prop} (hf : (eg_fl as).length ≤ 2) (hw : wps (eg_rm m_X_isPlace) (eg_run (eg_rm m_X_isPlace) (eg_R m_X_isPlace Q (h.length + 0)) Q T_X_isPlace 4) Q c_X_isPlace_0 0 0 (eg_entry 2 as) [] h) : eg_Runs n_X_isPlace as h Q := eg_begin (d := m_X_isPlace) rfl (by decide) (by decide +kernel) q_X_isPlace hf hw
/-! ===== X_isDirection ===== -/
def c_X_isDirection_38 : List eg_I := .inl (38, 1, .ireturn, 0, 1) :: []
def c_X_isDirection_37 : List eg_I := .inl (37, 1, .iconst (0), 0, 0) :: c_X_isDirection_38
def c_X_isDirection_34 : List eg_I := .inl (34, 3, .goto (4), 38, 0) :: []
def c_X_isDirection_33 : List eg_I := .inl (33, 1, .iconst (1), 0, 0) :: c_X_isDirection_34
def c_X_isDirection_30 : List eg_I := .inl (30, 3, .ifCond .eq (7), 37, 0) :: c_X_isDirection_33
def c_X_isDirection_27 : List eg_I := .inr (27, 0, 80, n_X_isWithin, 3, 11, 0, 0) :: c_X_isDirection_30
def c_X_isDirection_25 : List eg_I := .inl (25, 2, .iconst (100), 0, 0) :: c_X_isDirection_27
def c_X_isDirection_23 : List eg_I := .inl (23, 2, .iconst (-100), 0, 0) :: c_X_isDirection_25
def c_X_isDirection_22 : List eg_I := .inl (22, 1, .iload 2, 0, 0) :: c_X_isDirection_23
def c_X_isDirection_19 : List eg_I := .inl (19, 3, .ifCond .eq (18), 37, 0) :: c_X_isDirection_22
def c_X_isDirection_16 : List eg_I := .inr (16, 0, 80, n_X_isWithin, 3, 11, 0, 0) :: c_X_isDirection_19
def c_X_isDirection_14 : List eg_I := .inl (14, 2, .iconst (100), 0, 0) :: c_X_isDirection_16
def c_X_isDirection_12 : List eg_I := .inl (12, 2, .iconst (-100), 0, 0) :: c_X_isDirection_14
def c_X_isDirection_11 : List eg_I := .inl (11, 1, .iload 1, 0, 0) :: c_X_isDirection_12
def c_X_isDirection_8 : List eg_I := .inl (8, 3, .ifCond .eq (29), 37, 0) :: c_X_isDirection_11
def c_X_isDirection_5 : List eg_I := .inr (5, 0, 80, n_X_isWithin, 3, 11, 0, 0) :: c_X_isDirection_8
def c_X_isDirection_3 : List eg_I := .inl (3, 2, .iconst (100), 0, 0) :: c_X_isDirection_5
def c_X_isDirection_1 : List eg_I := .inl (1, 2, .iconst (-100), 0, 0) :: c_X_isDirection_3
def c_X_isDirection_0 : List eg_I := .inl (0, 1, .iload 0, 0, 0) :: c_X_isDirection_1
section
variable {rm : Room} {K : Nat → Nat → Nat → eg_Lo → List Value → List eg_E → Prop} {Q : Option Value → List eg_E → Prop} {kc ks : Nat} {loc : eg_Lo} {st : List Value} {h : List eg_E}
theorem s_X_isDirection_0 {x : Int32} {l : eg_Lo} : wps rm K Q c_X_isDirection_0 kc ks (some (.int x) :: l) (st) h = wps rm K Q c_X_isDirection_1 kc ks (some (.int x) :: l) (.int x :: st) h := rfl
theorem s_X_isDirection_1  : wps rm K Q c_X_isDirection_1 kc ks loc (st) h = wps rm K Q c_X_isDirection_3 kc ks loc (.int (-100) :: st) h := rfl
theorem s_X_isDirection_3  : wps rm K Q c_X_isDirection_3 kc ks loc (st) h = wps rm K Q c_X_isDirection_5 kc ks loc (.int (100) :: st) h := rfl
theorem s_X_isDirection_5  {a1 : Value} {a2 : Value} {a3 : Value} : wps rm K Q c_X_isDirection_5 kc ks loc (a3 :: a2 :: a1 :: st) h = (st.length ≤ 4 ∧ eg_Cs n_X_isWithin [a1, a2, a3] h (fun v h9 => wps rm K Q c_X_isDirection_8 kc ks loc (v.toList ++ st) h9)) := eg_c0_3
theorem s_X_isDirection_8 {x : Int32} : wps rm K Q c_X_isDirection_8 kc ks loc (.int x :: st) h = ((x = 0 → K 37 kc ks loc st h) ∧ (¬ x = 0 → wps rm K Q c_X_isDirection_11 kc ks loc (st) h)) := rfl
theorem s_X_isDirection_11 {x : Int32} {l0 : Option Value} {l : eg_Lo} : wps rm K Q c_X_isDirection_11 kc ks (l0 :: some (.int x) :: l) (st) h = wps rm K Q c_X_isDirection_12 kc ks (l0 :: some (.int x) :: l) (.int x :: st) h := rfl
theorem s_X_isDirection_12  : wps rm K Q c_X_isDirection_12 kc ks loc (st) h = wps rm K Q c_X_isDirection_14 kc ks loc (.int (-100) :: st) h := rfl
theorem s_X_isDirection_14  : wps rm K Q c_X_isDirection_14 kc ks loc (st) h = wps rm K Q c_X_isDirection_16 kc ks loc (.int (100) :: st) h := rfl
theorem s_X_isDirection_16  {a1 : Value} {a2 : Value} {a3 : Value} : wps rm K Q c_X_isDirection_16 kc ks loc (a3 :: a2 :: a1 :: st) h = (st.length ≤ 4 ∧ eg_Cs n_X_isWithin [a1, a2, a3] h (fun v h9 => wps rm K Q c_X_isDirection_19 kc ks loc (v.toList ++ st) h9)) := eg_c0_3
theorem s_X_isDirection_19 {x : Int32} : wps rm K Q c_X_isDirection_19 kc ks loc (.int x :: st) h = ((x = 0 → K 37 kc ks loc st h) ∧ (¬ x = 0 → wps rm K Q c_X_isDirection_22 kc ks loc (st) h)) := rfl
theorem s_X_isDirection_22 {x : Int32} {l0 l1 : Option Value} {l : eg_Lo} : wps rm K Q c_X_isDirection_22 kc ks (l0 :: l1 :: some (.int x) :: l) (st) h = wps rm K Q c_X_isDirection_23 kc ks (l0 :: l1 :: some (.int x) :: l) (.int x :: st) h := rfl
theorem s_X_isDirection_23  : wps rm K Q c_X_isDirection_23 kc ks loc (st) h = wps rm K Q c_X_isDirection_25 kc ks loc (.int (-100) :: st) h := rfl
theorem s_X_isDirection_25  : wps rm K Q c_X_isDirection_25 kc ks loc (st) h = wps rm K Q c_X_isDirection_27 kc ks loc (.int (100) :: st) h := rfl
theorem s_X_isDirection_27  {a1 : Value} {a2 : Value} {a3 : Value} : wps rm K Q c_X_isDirection_27 kc ks loc (a3 :: a2 :: a1 :: st) h = (st.length ≤ 4 ∧ eg_Cs n_X_isWithin [a1, a2, a3] h (fun v h9 => wps rm K Q c_X_isDirection_30 kc ks loc (v.toList ++ st) h9)) := eg_c0_3
theorem s_X_isDirection_30 {x : Int32} : wps rm K Q c_X_isDirection_30 kc ks loc (.int x :: st) h = ((x = 0 → K 37 kc ks loc st h) ∧ (¬ x = 0 → wps rm K Q c_X_isDirection_33 kc ks loc (st) h)) := rfl
theorem s_X_isDirection_33  : wps rm K Q c_X_isDirection_33 kc ks loc (st) h = wps rm K Q c_X_isDirection_34 kc ks loc (.int (1) :: st) h := rfl
theorem s_X_isDirection_34  : wps rm K Q c_X_isDirection_34 kc ks loc (st) h = K 38 kc ks loc st h := rfl
theorem s_X_isDirection_37  : wps rm K Q c_X_isDirection_37 kc ks loc (st) h = wps rm K Q c_X_isDirection_38 kc ks loc (.int (0) :: st) h := rfl
theorem s_X_isDirection_38 {x : Int32} : wps rm K Q c_X_isDirection_38 kc ks loc ([.int x]) h = (kc = rm.cells ∧ ((1 : Nat) = 1 → x = 0 ∨ x = 1) ∧ Q (some (.int x)) h) := rfl
def T_X_isDirection : List (Nat × List eg_I) := [(37, c_X_isDirection_37), (38, c_X_isDirection_38)]
theorem j_X_isDirection_37 {R : Nat → Nat → Nat → eg_Lo → List Value → List eg_E → Prop} {f pc0 : Nat} : eg_run rm R Q T_X_isDirection (f + 1) 37 kc ks loc st h = wps rm (eg_run rm R Q T_X_isDirection f) Q c_X_isDirection_37 kc ks loc st h := rfl
theorem j_X_isDirection_38 {R : Nat → Nat → Nat → eg_Lo → List Value → List eg_E → Prop} {f pc0 : Nat} : eg_run rm R Q T_X_isDirection (f + 1) 38 kc ks loc st h = wps rm (eg_run rm R Q T_X_isDirection f) Q c_X_isDirection_38 kc ks loc st h := rfl
end
theorem q_X_isDirection : (T_X_isDirection.all fun q => eg_seq m_X_isDirection q.1 q.2) = true := by decide +kernel
theorem b_X_isDirection {as : List Value} {h : List eg_E} {Q : Option Value → List eg_E → Prop} (hf : (eg_fl as).length ≤ 3) (hw : wps (eg_rm m_X_isDirection) (eg_run (eg_rm m_X_isDirection) (eg_R m_X_isDirection Q (h.length + 0)) Q T_X_isDirection 4) Q c_X_isDirection_0 0 0 (eg_entry 3 as) [] h) : eg_Runs n_X_isDirection as h Q := eg_begin (d := m_X_isDirection) rfl (by decide) (by decide +kernel) q_X_isDirection hf hw
/-! ===== X_isBoxSide ===== -/
def c_X_isBoxSide_38 : List eg_I := .inl (38, 1, .ireturn, 0, 1) :: []
def c_X_isBoxSide_37 : List eg_I := .inl (37, 1, .iconst (0), 0, 0) :: c_X_isBoxSide_38
def c_X_isBoxSide_34 : List eg_I := .inl (34, 3, .goto (4), 38, 0) :: []
def c_X_isBoxSide_33 : List eg_I := .inl (33, 1, .iconst (1), 0, 0) :: c_X_isBoxSide_34
def c_X_isBoxSide_30 : List eg_I := .inl (30, 3, .if_icmp .gt (7), 37, 0) :: c_X_isBoxSide_33
def c_X_isBoxSide_27 : List eg_I := .inl (27, 3, .iconst (300), 0, 0) :: c_X_isBoxSide_30
def c_X_isBoxSide_26 : List eg_I := .inl (26, 1, .iadd, 0, 0) :: c_X_isBoxSide_27
def c_X_isBoxSide_25 : List eg_I := .inl (25, 1, .iload 1, 0, 0) :: c_X_isBoxSide_26
def c_X_isBoxSide_24 : List eg_I := .inl (24, 1, .iload 0, 0, 0) :: c_X_isBoxSide_25
def c_X_isBoxSide_21 : List eg_I := .inl (21, 3, .ifCond .eq (16), 37, 0) :: c_X_isBoxSide_24
def c_X_isBoxSide_18 : List eg_I := .inr (18, 0, 80, n_X_isWithin, 3, 11, 0, 0) :: c_X_isBoxSide_21
def c_X_isBoxSide_15 : List eg_I := .inl (15, 3, .iconst (300), 0, 0) :: c_X_isBoxSide_18
def c_X_isBoxSide_14 : List eg_I := .inl (14, 1, .iconst (1), 0, 0) :: c_X_isBoxSide_15
def c_X_isBoxSide_13 : List eg_I := .inl (13, 1, .iload 1, 0, 0) :: c_X_isBoxSide_14
def c_X_isBoxSide_10 : List eg_I := .inl (10, 3, .ifCond .eq (27), 37, 0) :: c_X_isBoxSide_13
def c_X_isBoxSide_7 : List eg_I := .inr (7, 0, 80, n_X_isWithin, 3, 11, 0, 0) :: c_X_isBoxSide_10
def c_X_isBoxSide_4 : List eg_I := .inl (4, 3, .iconst (300), 0, 0) :: c_X_isBoxSide_7
def c_X_isBoxSide_1 : List eg_I := .inl (1, 3, .iconst (-300), 0, 0) :: c_X_isBoxSide_4
def c_X_isBoxSide_0 : List eg_I := .inl (0, 1, .iload 0, 0, 0) :: c_X_isBoxSide_1
section
variable {rm : Room} {K : Nat → Nat → Nat → eg_Lo → List Value → List eg_E → Prop} {Q : Option Value → List eg_E → Prop} {kc ks : Nat} {loc : eg_Lo} {st : List Value} {h : List eg_E}
theorem s_X_isBoxSide_0 {x : Int32} {l : eg_Lo} : wps rm K Q c_X_isBoxSide_0 kc ks (some (.int x) :: l) (st) h = wps rm K Q c_X_isBoxSide_1 kc ks (some (.int x) :: l) (.int x :: st) h := rfl
theorem s_X_isBoxSide_1  : wps rm K Q c_X_isBoxSide_1 kc ks loc (st) h = wps rm K Q c_X_isBoxSide_4 kc ks loc (.int (-300) :: st) h := rfl
theorem s_X_isBoxSide_4  : wps rm K Q c_X_isBoxSide_4 kc ks loc (st) h = wps rm K Q c_X_isBoxSide_7 kc ks loc (.int (300) :: st) h := rfl
theorem s_X_isBoxSide_7  {a1 : Value} {a2 : Value} {a3 : Value} : wps rm K Q c_X_isBoxSide_7 kc ks loc (a3 :: a2 :: a1 :: st) h = (st.length ≤ 4 ∧ eg_Cs n_X_isWithin [a1, a2, a3] h (fun v h9 => wps rm K Q c_X_isBoxSide_10 kc ks loc (v.toList ++ st) h9)) := eg_c0_3
theorem s_X_isBoxSide_10 {x : Int32} : wps rm K Q c_X_isBoxSide_10 kc ks loc (.int x :: st) h = ((x = 0 → K 37 kc ks loc st h) ∧ (¬ x = 0 → wps rm K Q c_X_isBoxSide_13 kc ks loc (st) h)) := rfl
theorem s_X_isBoxSide_13 {x : Int32} {l0 : Option Value} {l : eg_Lo} : wps rm K Q c_X_isBoxSide_13 kc ks (l0 :: some (.int x) :: l) (st) h = wps rm K Q c_X_isBoxSide_14 kc ks (l0 :: some (.int x) :: l) (.int x :: st) h := rfl
theorem s_X_isBoxSide_14  : wps rm K Q c_X_isBoxSide_14 kc ks loc (st) h = wps rm K Q c_X_isBoxSide_15 kc ks loc (.int (1) :: st) h := rfl
theorem s_X_isBoxSide_15  : wps rm K Q c_X_isBoxSide_15 kc ks loc (st) h = wps rm K Q c_X_isBoxSide_18 kc ks loc (.int (300) :: st) h := rfl
theorem s_X_isBoxSide_18  {a1 : Value} {a2 : Value} {a3 : Value} : wps rm K Q c_X_isBoxSide_18 kc ks loc (a3 :: a2 :: a1 :: st) h = (st.length ≤ 4 ∧ eg_Cs n_X_isWithin [a1, a2, a3] h (fun v h9 => wps rm K Q c_X_isBoxSide_21 kc ks loc (v.toList ++ st) h9)) := eg_c0_3
theorem s_X_isBoxSide_21 {x : Int32} : wps rm K Q c_X_isBoxSide_21 kc ks loc (.int x :: st) h = ((x = 0 → K 37 kc ks loc st h) ∧ (¬ x = 0 → wps rm K Q c_X_isBoxSide_24 kc ks loc (st) h)) := rfl
theorem s_X_isBoxSide_24 {x : Int32} {l : eg_Lo} : wps rm K Q c_X_isBoxSide_24 kc ks (some (.int x) :: l) (st) h = wps rm K Q c_X_isBoxSide_25 kc ks (some (.int x) :: l) (.int x :: st) h := rfl
theorem s_X_isBoxSide_25 {x : Int32} {l0 : Option Value} {l : eg_Lo} : wps rm K Q c_X_isBoxSide_25 kc ks (l0 :: some (.int x) :: l) (st) h = wps rm K Q c_X_isBoxSide_26 kc ks (l0 :: some (.int x) :: l) (.int x :: st) h := rfl
theorem s_X_isBoxSide_26 {x y : Int32} : wps rm K Q c_X_isBoxSide_26 kc ks loc (.int y :: .int x :: st) h = wps rm K Q c_X_isBoxSide_27 kc ks loc (.int (x + y) :: st) h := rfl
theorem s_X_isBoxSide_27  : wps rm K Q c_X_isBoxSide_27 kc ks loc (st) h = wps rm K Q c_X_isBoxSide_30 kc ks loc (.int (300) :: st) h := rfl
theorem s_X_isBoxSide_30 {x y : Int32} : wps rm K Q c_X_isBoxSide_30 kc ks loc (.int y :: .int x :: st) h = ((y < x → K 37 kc ks loc st h) ∧ (¬ y < x → wps rm K Q c_X_isBoxSide_33 kc ks loc (st) h)) := rfl
theorem s_X_isBoxSide_33  : wps rm K Q c_X_isBoxSide_33 kc ks loc (st) h = wps rm K Q c_X_isBoxSide_34 kc ks loc (.int (1) :: st) h := rfl
theorem s_X_isBoxSide_34  : wps rm K Q c_X_isBoxSide_34 kc ks loc (st) h = K 38 kc ks loc st h := rfl
theorem s_X_isBoxSide_37  : wps rm K Q c_X_isBoxSide_37 kc ks loc (st) h = wps rm K Q c_X_isBoxSide_38 kc ks loc (.int (0) :: st) h := rfl
theorem s_X_isBoxSide_38 {x : Int32} : wps rm K Q c_X_isBoxSide_38 kc ks loc ([.int x]) h = (kc = rm.cells ∧ ((1 : Nat) = 1 → x = 0 ∨ x = 1) ∧ Q (some (.int x)) h) := rfl
def T_X_isBoxSide : List (Nat × List eg_I) := [(37, c_X_isBoxSide_37), (38, c_X_isBoxSide_38)]
theorem j_X_isBoxSide_37 {R : Nat → Nat → Nat → eg_Lo → List Value → List eg_E → Prop} {f pc0 : Nat} : eg_run rm R Q T_X_isBoxSide (f + 1) 37 kc ks loc st h = wps rm (eg_run rm R Q T_X_isBoxSide f) Q c_X_isBoxSide_37 kc ks loc st h := rfl
theorem j_X_isBoxSide_38 {R : Nat → Nat → Nat → eg_Lo → List Value → List eg_E → Prop} {f pc0 : Nat} : eg_run rm R Q T_X_isBoxSide (f + 1) 38 kc ks loc st h = wps rm (eg_run rm R Q T_X_isBoxSide f) Q c_X_isBoxSide_38 kc ks loc st h := rfl
end
theorem q_X_isBoxSide : (T_X_isBoxSide.all fun q => eg_seq m_X_isBoxSide q.1 q.2) = true := by decide +kernel
theorem b_X_isBoxSide {as : List Value} {h : List eg_E} {Q : Option Value → List eg_E → Prop} (hf : (eg_fl as).length ≤ 2) (hw : wps (eg_rm m_X_isBoxSide) (eg_run (eg_rm m_X_isBoxSide) (eg_R m_X_isBoxSide Q (h.length + 0)) Q T_X_isBoxSide 4) Q c_X_isBoxSide_0 0 0 (eg_entry 2 as) [] h) : eg_Runs n_X_isBoxSide as h Q := eg_begin (d := m_X_isBoxSide) rfl (by decide) (by decide +kernel) q_X_isBoxSide hf hw
/-! ===== X_isPart ===== -/
def c_X_isPart_6 : List eg_I := .inl (6, 1, .ireturn, 0, 1) :: []
def c_X_isPart_3 : List eg_I := .inr (3, 0, 80, n_X_isWithin, 3, 11, 0, 0) :: c_X_isPart_6
def c_X_isPart_2 : List eg_I := .inl (2, 1, .iconst (3), 0, 0) :: c_X_isPart_3
def c_X_isPart_1 : List eg_I := .inl (1, 1, .iconst (0), 0, 0) :: c_X_isPart_2
def c_X_isPart_0 : List eg_I := .inl (0, 1, .iload 0, 0, 0) :: c_X_isPart_1
section
variable {rm : Room} {K : Nat → Nat → Nat → eg_Lo → List Value → List eg_E → Prop} {Q : Option Value → List eg_E → Prop} {kc ks : Nat} {loc : eg_Lo} {st : List Value} {h : List eg_E}
theorem s_X_isPart_0 {x : Int32} {l : eg_Lo} : wps rm K Q c_X_isPart_0 kc ks (some (.int x) :: l) (st) h = wps rm K Q c_X_isPart_1 kc ks (some (.int x) :: l) (.int x :: st) h := rfl
theorem s_X_isPart_1  : wps rm K Q c_X_isPart_1 kc ks loc (st) h = wps rm K Q c_X_isPart_2 kc ks loc (.int (0) :: st) h := rfl
theorem s_X_isPart_2  : wps rm K Q c_X_isPart_2 kc ks loc (st) h = wps rm K Q c_X_isPart_3 kc ks loc (.int (3) :: st) h := rfl
theorem s_X_isPart_3  {a1 : Value} {a2 : Value} {a3 : Value} : wps rm K Q c_X_isPart_3 kc ks loc (a3 :: a2 :: a1 :: st) h = (st.length ≤ 4 ∧ eg_Cs n_X_isWithin [a1, a2, a3] h (fun v h9 => wps rm K Q c_X_isPart_6 kc ks loc (v.toList ++ st) h9)) := eg_c0_3
theorem s_X_isPart_6 {x : Int32} : wps rm K Q c_X_isPart_6 kc ks loc ([.int x]) h = (kc = rm.cells ∧ ((1 : Nat) = 1 → x = 0 ∨ x = 1) ∧ Q (some (.int x)) h) := rfl
def T_X_isPart : List (Nat × List eg_I) := []
end
theorem q_X_isPart : (T_X_isPart.all fun q => eg_seq m_X_isPart q.1 q.2) = true := by decide +kernel
theorem b_X_isPart {as : List Value} {h : List eg_E} {Q : Option Value → List eg_E → Prop} (hf : (eg_fl as).length ≤ 1) (hw : wps (eg_rm m_X_isPart) (eg_run (eg_rm m_X_isPart) (eg_R m_X_isPart Q (h.length + 0)) Q T_X_isPart 2) Q c_X_isPart_0 0 0 (eg_entry 1 as) [] h) : eg_Runs n_X_isPart as h Q := eg_begin (d := m_X_isPart) rfl (by decide) (by decide +kernel) q_X_isPart hf hw
/-! ===== X_isSheet ===== -/
def c_X_isSheet_6 : List eg_I := .inl (6, 1, .ireturn, 0, 1) :: []
def c_X_isSheet_3 : List eg_I := .inr (3, 0, 80, n_X_isWithin, 3, 11, 0, 0) :: c_X_isSheet_6
def c_X_isSheet_2 : List eg_I := .inl (2, 1, .iconst (3), 0, 0) :: c_X_isSheet_3
def c_X_isSheet_1 : List eg_I := .inl (1, 1, .iconst (0), 0, 0) :: c_X_isSheet_2
def c_X_isSheet_0 : List eg_I := .inl (0, 1, .iload 0, 0, 0) :: c_X_isSheet_1
section
variable {rm : Room} {K : Nat → Nat → Nat → eg_Lo → List Value → List eg_E → Prop} {Q : Option Value → List eg_E → Prop} {kc ks : Nat} {loc : eg_Lo} {st : List Value} {h : List eg_E}
theorem s_X_isSheet_0 {x : Int32} {l : eg_Lo} : wps rm K Q c_X_isSheet_0 kc ks (some (.int x) :: l) (st) h = wps rm K Q c_X_isSheet_1 kc ks (some (.int x) :: l) (.int x :: st) h := rfl
theorem s_X_isSheet_1  : wps rm K Q c_X_isSheet_1 kc ks loc (st) h = wps rm K Q c_X_isSheet_2 kc ks loc (.int (0) :: st) h := rfl
theorem s_X_isSheet_2  : wps rm K Q c_X_isSheet_2 kc ks loc (st) h = wps rm K Q c_X_isSheet_3 kc ks loc (.int (3) :: st) h := rfl
theorem s_X_isSheet_3  {a1 : Value} {a2 : Value} {a3 : Value} : wps rm K Q c_X_isSheet_3 kc ks loc (a3 :: a2 :: a1 :: st) h = (st.length ≤ 4 ∧ eg_Cs n_X_isWithin [a1, a2, a3] h (fun v h9 => wps rm K Q c_X_isSheet_6 kc ks loc (v.toList ++ st) h9)) := eg_c0_3
theorem s_X_isSheet_6 {x : Int32} : wps rm K Q c_X_isSheet_6 kc ks loc ([.int x]) h = (kc = rm.cells ∧ ((1 : Nat) = 1 → x = 0 ∨ x = 1) ∧ Q (some (.int x)) h) := rfl
def T_X_isSheet : List (Nat × List eg_I) := []
end
theorem q_X_isSheet : (T_X_isSheet.all fun q => eg_seq m_X_isSheet q.1 q.2) = true := by decide +kernel
theorem b_X_isSheet {as : List Value} {h : List eg_E} {Q : Option Value → List eg_E → Prop} (hf : (eg_fl as).length ≤ 1) (hw : wps (eg_rm m_X_isSheet) (eg_run (eg_rm m_X_isSheet) (eg_R m_X_isSheet Q (h.length + 0)) Q T_X_isSheet 2) Q c_X_isSheet_0 0 0 (eg_entry 1 as) [] h) : eg_Runs n_X_isSheet as h Q := eg_begin (d := m_X_isSheet) rfl (by decide) (by decide +kernel) q_X_isSheet hf hw
/-! ===== X_isFigure ===== -/
def c_X_isFigure_6 : List eg_I := .inl (6, 1, .ireturn, 0, 1) :: []
def c_X_isFigure_3 : List eg_I := .inr (3, 0, 80, n_X_isWithin, 3, 11, 0, 0) :: c_X_isFigure_6
def c_X_isFigure_2 : List eg_I := .inl (2, 1, .iconst (5), 0, 0) :: c_X_isFigure_3
def c_X_isFigure_1 : List eg_I := .inl (1, 1, .iconst (0), 0, 0) :: c_X_isFigure_2
def c_X_isFigure_0 : List eg_I := .inl (0, 1, .iload 0, 0, 0) :: c_X_isFigure_1
section
variable {rm : Room} {K : Nat → Nat → Nat → eg_Lo → List Value → List eg_E → Prop} {Q : Option Value → List eg_E → Prop} {kc ks : Nat} {loc : eg_Lo} {st : List Value} {h : List eg_E}
theorem s_X_isFigure_0 {x : Int32} {l : eg_Lo} : wps rm K Q c_X_isFigure_0 kc ks (some (.int x) :: l) (st) h = wps rm K Q c_X_isFigure_1 kc ks (some (.int x) :: l) (.int x :: st) h := rfl
theorem s_X_isFigure_1  : wps rm K Q c_X_isFigure_1 kc ks loc (st) h = wps rm K Q c_X_isFigure_2 kc ks loc (.int (0) :: st) h := rfl
theorem s_X_isFigure_2  : wps rm K Q c_X_isFigure_2 kc ks loc (st) h = wps rm K Q c_X_isFigure_3 kc ks loc (.int (5) :: st) h := rfl
theorem s_X_isFigure_3  {a1 : Value} {a2 : Value} {a3 : Value} : wps rm K Q c_X_isFigure_3 kc ks loc (a3 :: a2 :: a1 :: st) h = (st.length ≤ 4 ∧ eg_Cs n_X_isWithin [a1, a2, a3] h (fun v h9 => wps rm K Q c_X_isFigure_6 kc ks loc (v.toList ++ st) h9)) := eg_c0_3
theorem s_X_isFigure_6 {x : Int32} : wps rm K Q c_X_isFigure_6 kc ks loc ([.int x]) h = (kc = rm.cells ∧ ((1 : Nat) = 1 → x = 0 ∨ x = 1) ∧ Q (some (.int x)) h) := rfl
def T_X_isFigure : List (Nat × List eg_I) := []
end
theorem q_X_isFigure : (T_X_isFigure.all fun q => eg_seq m_X_isFigure q.1 q.2) = true := by decide +kernel
theorem b_X_isFigure {as : List Value} {h : List eg_E} {Q : Option Value → List eg_E → Prop} (hf : (eg_fl as).length ≤ 1) (hw : wps (eg_rm m_X_isFigure) (eg_run (eg_rm m_X_isFigure) (eg_R m_X_isFigure Q (h.length + 0)) Q T_X_isFigure 2) Q c_X_isFigure_0 0 0 (eg_entry 1 as) [] h) : eg_Runs n_X_isFigure as h Q := eg_begin (d := m_X_isFigure) rfl (by decide) (by decide +kernel) q_X_isFigure hf hw
/-! ===== X_isPoint ===== -/
def c_X_isPoint_31 : List eg_I := .inl (31, 1, .ireturn, 0, 1) :: []
def c_X_isPoint_30 : List eg_I := .inl (30, 1, .iconst (0), 0, 0) :: c_X_isPoint_31
def c_X_isPoint_27 : List eg_I := .inl (27, 3, .goto (4), 31, 0) :: []
def c_X_isPoint_26 : List eg_I := .inl (26, 1, .iconst (1), 0, 0) :: c_X_isPoint_27
def c_X_isPoint_23 : List eg_I := .inl (23, 3, .ifCond .eq (7), 30, 0) :: c_X_isPoint_26
def c_X_isPoint_20 : List eg_I := .inr (20, 0, 80, n_X_isWithin, 3, 11, 0, 0) :: c_X_isPoint_23
def c_X_isPoint_19 : List eg_I := .inl (19, 1, .isub, 0, 0) :: c_X_isPoint_20
def c_X_isPoint_18 : List eg_I := .inl (18, 1, .iconst (1), 0, 0) :: c_X_isPoint_19
def c_X_isPoint_15 : List eg_I := .inl (15, 3, .getfield 128, 8, 4) :: c_X_isPoint_18
def c_X_isPoint_14 : List eg_I := .inl (14, 1, .aaload, 0, 0) :: c_X_isPoint_15
def c_X_isPoint_13 : List eg_I := .inl (13, 1, .iload 1, 0, 0) :: c_X_isPoint_14
def c_X_isPoint_10 : List eg_I := .inl (10, 3, .getfield 11, 11, 0) :: c_X_isPoint_13
def c_X_isPoint_9 : List eg_I := .inl (9, 1, .aload 0, 0, 0) :: c_X_isPoint_10
def c_X_isPoint_8 : List eg_I := .inl (8, 1, .iconst (0), 0, 0) :: c_X_isPoint_9
def c_X_isPoint_7 : List eg_I := .inl (7, 1, .iload 2, 0, 0) :: c_X_isPoint_8
def c_X_isPoint_4 : List eg_I := .inl (4, 3, .ifCond .eq (26), 30, 0) :: c_X_isPoint_7
def c_X_isPoint_1 : List eg_I := .inr (1, 0, 72, n_X_isPart, 1, 11, 0, 0) :: c_X_isPoint_4
def c_X_isPoint_0 : List eg_I := .inl (0, 1, .iload 1, 0, 0) :: c_X_isPoint_1
section
variable {rm : Room} {K : Nat → Nat → Nat → eg_Lo → List Value → List eg_E → Prop} {Q : Option Value → List eg_E → Prop} {kc ks : Nat} {loc : eg_Lo} {st : List Value} {h : List eg_E}
theorem s_X_isPoint_0 {x : Int32} {l0 : Option Value} {l : eg_Lo} : wps rm K Q c_X_isPoint_0 kc ks (l0 :: some (.int x) :: l) (st) h = wps rm K Q c_X_isPoint_1 kc ks (l0 :: some (.int x) :: l) (.int x :: st) h := rfl
theorem s_X_isPoint_1  {a1 : Value} : wps rm K Q c_X_isPoint_1 kc ks loc (a1 :: st) h = (st.length ≤ 4 ∧ eg_Cs n_X_isPart [a1] h (fun v h9 => wps rm K Q c_X_isPoint_4 kc ks loc (v.toList ++ st) h9)) := eg_c0_1
theorem s_X_isPoint_4 {x : Int32} : wps rm K Q c_X_isPoint_4 kc ks loc (.int x :: st) h = ((x = 0 → K 30 kc ks loc st h) ∧ (¬ x = 0 → wps rm K Q c_X_isPoint_7 kc ks loc (st) h)) := rfl
theorem s_X_isPoint_7 {x : Int32} {l0 l1 : Option Value} {l : eg_Lo} : wps rm K Q c_X_isPoint_7 kc ks (l0 :: l1 :: some (.int x) :: l) (st) h = wps rm K Q c_X_isPoint_8 kc ks (l0 :: l1 :: some (.int x) :: l) (.int x :: st) h := rfl
theorem s_X_isPoint_8  : wps rm K Q c_X_isPoint_8 kc ks loc (st) h = wps rm K Q c_X_isPoint_9 kc ks loc (.int (0) :: st) h := rfl
theorem s_X_isPoint_9 {x : Nat} {l : eg_Lo} : wps rm K Q c_X_isPoint_9 kc ks (some (.ref x) :: l) (st) h = wps rm K Q c_X_isPoint_10 kc ks (some (.ref x) :: l) (.ref x :: st) h := rfl
theorem s_X_isPoint_10 {x : Nat} : wps rm K Q c_X_isPoint_10 kc ks loc (.ref (x + 1) :: st) h = eg_gf h x 11 0 (fun v => wps rm K Q c_X_isPoint_13 kc ks loc (v :: st) h) := rfl
theorem s_X_isPoint_13 {x : Int32} {l0 : Option Value} {l : eg_Lo} : wps rm K Q c_X_isPoint_13 kc ks (l0 :: some (.int x) :: l) (st) h = wps rm K Q c_X_isPoint_14 kc ks (l0 :: some (.int x) :: l) (.int x :: st) h := rfl
theorem s_X_isPoint_14 {x : Nat} {i : Int32} : wps rm K Q c_X_isPoint_14 kc ks loc (.int i :: .ref (x + 1) :: st) h = eg_aa h x i (fun v => wps rm K Q c_X_isPoint_15 kc ks loc (v :: st) h) := rfl
theorem s_X_isPoint_15 {x : Nat} : wps rm K Q c_X_isPoint_15 kc ks loc (.ref (x + 1) :: st) h = eg_gf h x 8 4 (fun v => wps rm K Q c_X_isPoint_18 kc ks loc (v :: st) h) := rfl
theorem s_X_isPoint_18  : wps rm K Q c_X_isPoint_18 kc ks loc (st) h = wps rm K Q c_X_isPoint_19 kc ks loc (.int (1) :: st) h := rfl
theorem s_X_isPoint_19 {x y : Int32} : wps rm K Q c_X_isPoint_19 kc ks loc (.int y :: .int x :: st) h = wps rm K Q c_X_isPoint_20 kc ks loc (.int (x - y) :: st) h := rfl
theorem s_X_isPoint_20  {a1 : Value} {a2 : Value} {a3 : Value} : wps rm K Q c_X_isPoint_20 kc ks loc (a3 :: a2 :: a1 :: st) h = (st.length ≤ 4 ∧ eg_Cs n_X_isWithin [a1, a2, a3] h (fun v h9 => wps rm K Q c_X_isPoint_23 kc ks loc (v.toList ++ st) h9)) := eg_c0_3
theorem s_X_isPoint_23 {x : Int32} : wps rm K Q c_X_isPoint_23 kc ks loc (.int x :: st) h = ((x = 0 → K 30 kc ks loc st h) ∧ (¬ x = 0 → wps rm K Q c_X_isPoint_26 kc ks loc (st) h)) := rfl
theorem s_X_isPoint_26  : wps rm K Q c_X_isPoint_26 kc ks loc (st) h = wps rm K Q c_X_isPoint_27 kc ks loc (.int (1) :: st) h := rfl
theorem s_X_isPoint_27  : wps rm K Q c_X_isPoint_27 kc ks loc (st) h = K 31 kc ks loc st h := rfl
theorem s_X_isPoint_30  : wps rm K Q c_X_isPoint_30 kc ks loc (st) h = wps rm K Q c_X_isPoint_31 kc ks loc (.int (0) :: st) h := rfl
theorem s_X_isPoint_31 {x : Int32} : wps rm K Q c_X_isPoint_31 kc ks loc ([.int x]) h = (kc = rm.cells ∧ ((1 : Nat) = 1 → x = 0 ∨ x = 1) ∧ Q (some (.int x)) h) := rfl
def T_X_isPoint : List (Nat × List eg_I) := [(30, c_X_isPoint_30), (31, c_X_isPoint_31)]
theorem j_X_isPoint_30 {R : Nat → Nat → Nat → eg_Lo → List Value → List eg_E → Prop} {f pc0 : Nat} : eg_run rm R Q T_X_isPoint (f + 1) 30 kc ks loc st h = wps rm (eg_run rm R Q T_X_isPoint f) Q c_X_isPoint_30 kc ks loc st h := rfl
theorem j_X_isPoint_31 {R : Nat → Nat → Nat → eg_Lo → List Value → List eg_E → Prop} {f pc0 : Nat} : eg_run rm R Q T_X_isPoint (f + 1) 31 kc ks loc st h = wps rm (eg_run rm R Q T_X_isPoint f) Q c_X_isPoint_31 kc ks loc st h := rfl
end
theorem q_X_isPoint : (T_X_isPoint.all fun q => eg_seq m_X_isPoint q.1 q.2) = true := by decide +kernel
theorem b_X_isPoint {as : List Value} {h : List eg_E} {Q : Option Value → List eg_E → Prop} (hf : (eg_fl as).length ≤ 3) (hw : wps (eg_rm m_X_isPoint) (eg_run (eg_rm m_X_isPoint) (eg_R m_X_isPoint Q (h.length + 0)) Q T_X_isPoint 4) Q c_X_isPoint_0 0 0 (eg_entry 3 as) [] h) : eg_Runs n_X_isPoint as h Q := eg_begin (d := m_X_isPoint) rfl (by decide) (by decide +kernel) q_X_isPoint hf hw
/-! ===== X_mendPoint ===== -/
def c_X_mendPoint_90 : List eg_I := .inl (90, 1, .ireturn, 0, 1) :: []
def c_X_mendPoint_89 : List eg_I := .inl (89, 1, .iconst (0), 0, 0) :: c_X_mendPoint_90
def c_X_mendPoint_86 : List eg_I := .inl (86, 3, .goto (4), 90, 0) :: []
def c_X_mendPoint_85 : List eg_I := .inl (85, 1, .iconst (1), 0, 0) :: c_X_mendPoint_86
def c_X_mendPoint_82 : List eg_I := .inl (82, 3, .if_icmp .eq (7), 89, 0) :: c_X_mendPoint_85
def c_X_mendPoint_80 : List eg_I := .inl (80, 2, .iload 4, 0, 0) :: c_X_mendPoint_82
def c_X_mendPoint_79 : List eg_I := .inl (79, 1, .iaload, 0, 0) :: c_X_mendPoint_80
def c_X_mendPoint_78 : List eg_I := .inl (78, 1, .iload 2, 0, 0) :: c_X_mendPoint_79
def c_X_mendPoint_75 : List eg_I := .inl (75, 3, .getfield 119, 8, 1) :: c_X_mendPoint_78
def c_X_mendPoint_74 : List eg_I := .inl (74, 1, .aload 1, 0, 0) :: c_X_mendPoint_75
def c_X_mendPoint_71 : List eg_I := .inl (71, 3, .if_icmp .ne (14), 85, 0) :: c_X_mendPoint_74
def c_X_mendPoint_70 : List eg_I := .inl (70, 1, .iload 3, 0, 0) :: c_X_mendPoint_71
def c_X_mendPoint_69 : List eg_I := .inl (69, 1, .iaload, 0, 0) :: c_X_mendPoint_70
def c_X_mendPoint_68 : List eg_I := .inl (68, 1, .iload 2, 0, 0) :: c_X_mendPoint_69
def c_X_mendPoint_65 : List eg_I := .inl (65, 3, .getfield 115, 8, 0) :: c_X_mendPoint_68
def c_X_mendPoint_64 : List eg_I := .inl (64, 1, .aload 1, 0, 0) :: c_X_mendPoint_65
def c_X_mendPoint_63 : List eg_I := .inl (63, 1, .iastore, 0, 0) :: c_X_mendPoint_64
def c_X_mendPoint_60 : List eg_I := .inr (60, 0, 314, n_X_cut, 1, 11, 0, 0) :: c_X_mendPoint_63
def c_X_mendPoint_59 : List eg_I := .inl (59, 1, .isub, 0, 0) :: c_X_mendPoint_60
def c_X_mendPoint_56 : List eg_I := .inr (56, 0, 142, n_Grid_tooGreat, 3, 6, 0, 0) :: c_X_mendPoint_59
def c_X_mendPoint_54 : List eg_I := .inl (54, 2, .iload 4, 0, 0) :: c_X_mendPoint_56
def c_X_mendPoint_53 : List eg_I := .inl (53, 1, .iload 3, 0, 0) :: c_X_mendPoint_54
def c_X_mendPoint_50 : List eg_I := .inl (50, 3, .getfield 139, 6, 1) :: c_X_mendPoint_53
def c_X_mendPoint_47 : List eg_I := .inl (47, 3, .getfield 30, 11, 3) :: c_X_mendPoint_50
def c_X_mendPoint_46 : List eg_I := .inl (46, 1, .aload 0, 0, 0) :: c_X_mendPoint_47
def c_X_mendPoint_44 : List eg_I := .inl (44, 2, .iload 4, 0, 0) :: c_X_mendPoint_46
def c_X_mendPoint_43 : List eg_I := .inl (43, 1, .iload 2, 0, 0) :: c_X_mendPoint_44
def c_X_mendPoint_40 : List eg_I := .inl (40, 3, .getfield 119, 8, 1) :: c_X_mendPoint_43
def c_X_mendPoint_39 : List eg_I := .inl (39, 1, .aload 1, 0, 0) :: c_X_mendPoint_40
def c_X_mendPoint_38 : List eg_I := .inl (38, 1, .iastore, 0, 0) :: c_X_mendPoint_39
def c_X_mendPoint_35 : List eg_I := .inr (35, 0, 314, n_X_cut, 1, 11, 0, 0) :: c_X_mendPoint_38
def c_X_mendPoint_34 : List eg_I := .inl (34, 1, .isub, 0, 0) :: c_X_mendPoint_35
def c_X_mendPoint_31 : List eg_I := .inr (31, 0, 142, n_Grid_tooGreat, 3, 6, 0, 0) :: c_X_mendPoint_34
def c_X_mendPoint_29 : List eg_I := .inl (29, 2, .iload 4, 0, 0) :: c_X_mendPoint_31
def c_X_mendPoint_28 : List eg_I := .inl (28, 1, .iload 3, 0, 0) :: c_X_mendPoint_29
def c_X_mendPoint_25 : List eg_I := .inl (25, 3, .getfield 136, 6, 0) :: c_X_mendPoint_28
def c_X_mendPoint_22 : List eg_I := .inl (22, 3, .getfield 30, 11, 3) :: c_X_mendPoint_25
def c_X_mendPoint_21 : List eg_I := .inl (21, 1, .aload 0, 0, 0) :: c_X_mendPoint_22
def c_X_mendPoint_20 : List eg_I := .inl (20, 1, .iload 3, 0, 0) :: c_X_mendPoint_21
def c_X_mendPoint_19 : List eg_I := .inl (19, 1, .iload 2, 0, 0) :: c_X_mendPoint_20
def c_X_mendPoint_16 : List eg_I := .inl (16, 3, .getfield 115, 8, 0) :: c_X_mendPoint_19
def c_X_mendPoint_15 : List eg_I := .inl (15, 1, .aload 1, 0, 0) :: c_X_mendPoint_16
def c_X_mendPoint_13 : List eg_I := .inl (13, 2, .istore 4, 0, 0) :: c_X_mendPoint_15
def c_X_mendPoint_12 : List eg_I := .inl (12, 1, .iaload, 0, 0) :: c_X_mendPoint_13
def c_X_mendPoint_11 : List eg_I := .inl (11, 1, .iload 2, 0, 0) :: c_X_mendPoint_12
def c_X_mendPoint_8 : List eg_I := .inl (8, 3, .getfield 119, 8, 1) :: c_X_mendPoint_11
def c_X_mendPoint_7 : List eg_I := .inl (7, 1, .aload 1, 0, 0) :: c_X_mendPoint_8
def c_X_mendPoint_6 : List eg_I := .inl (6, 1, .istore 3, 0, 0) :: c_X_mendPoint_7
def c_X_mendPoint_5 : List eg_I := .inl (5, 1, .iaload, 0, 0) :: c_X_mendPoint_6
def c_X_mendPoint_4 : List eg_I := .inl (4, 1, .iload 2, 0, 0) :: c_X_mendPoint_5
def c_X_mendPoint_1 : List eg_I := .inl (1, 3, .getfield 115, 8, 0) :: c_X_mendPoint_4
def c_X_mendPoint_0 : List eg_I := .inl (0, 1, .aload 1, 0, 0) :: c_X_mendPoint_1
section
variable {rm : Room} {K : Nat → Nat → Nat → eg_Lo → List Value → List eg_E → Prop} {Q : Option Value → List eg_E → Prop} {kc ks : Nat} {loc : eg_Lo} {st : List Value} {h : List eg_E}
theorem s_X_mendPoint_0 {x : Nat} {l0 : Option Value} {l : eg_Lo} : wps rm K Q c_X_mendPoint_0 kc ks (l0 :: some (.ref x) :: l) (st) h = wps rm K Q c_X_mendPoint_1 kc ks (l0 :: some (.ref x) :: l) (.ref x :: st) h := rfl
theorem s_X_mendPoint_1 {x : Nat} : wps rm K Q c_X_mendPoint_1 kc ks loc (.ref (x + 1) :: st) h = eg_gf h x 8 0 (fun v => wps rm K Q c_X_mendPoint_4 kc ks loc (v :: st) h) := rfl
theorem s_X_mendPoint_4 {x : Int32} {l0 l1 : Option Value} {l : eg_Lo} : wps rm K Q c_X_mendPoint_4 kc ks (l0 :: l1 :: some (.int x) :: l) (st) h = wps rm K Q c_X_mendPoint_5 kc ks (l0 :: l1 :: some (.int x) :: l) (.int x :: st) h := rfl
theorem s_X_mendPoint_5 {x : Nat} {i : Int32} : wps rm K Q c_X_mendPoint_5 kc ks loc (.int i :: .ref (x + 1) :: st) h = eg_ia h x i (fun v => wps rm K Q c_X_mendPoint_6 kc ks loc (.int v :: st) h) := rfl
theorem s_X_mendPoint_6 {x : Int32} : wps rm K Q c_X_mendPoint_6 kc ks loc (.int x :: st) h = wps rm K Q c_X_mendPoint_7 kc ks (eg_set1 loc 3 (.int x)) (st) h := rfl
theorem s_X_mendPoint_7 {x : Nat} {l0 : Option Value} {l : eg_Lo} : wps rm K Q c_X_mendPoint_7 kc ks (l0 :: some (.ref x) :: l) (st) h = wps rm K Q c_X_mendPoint_8 kc ks (l0 :: some (.ref x) :: l) (.ref x :: st) h := rfl
theorem s_X_mendPoint_8 {x : Nat} : wps rm K Q c_X_mendPoint_8 kc ks loc (.ref (x + 1) :: st) h = eg_gf h x 8 1 (fun v => wps rm K Q c_X_mendPoint_11 kc ks loc (v :: st) h) := rfl
theorem s_X_mendPoint_11 {x : Int32} {l0 l1 : Option Value} {l : eg_Lo} : wps rm K Q c_X_mendPoint_11 kc ks (l0 :: l1 :: some (.int x) :: l) (st) h = wps rm K Q c_X_mendPoint_12 kc ks (l0 :: l1 :: some (.int x) :: l) (.int x :: st) h := rfl
theorem s_X_mendPoint_12 {x : Nat} {i : Int32} : wps rm K Q c_X_mendPoint_12 kc ks loc (.int i :: .ref (x + 1) :: st) h = eg_ia h x i (fun v => wps rm K Q c_X_mendPoint_13 kc ks loc (.int v :: st) h) := rfl
theorem s_X_mendPoint_13 {x : Int32} : wps rm K Q c_X_mendPoint_13 kc ks loc (.int x :: st) h = wps rm K Q c_X_mendPoint_15 kc ks (eg_set1 loc 4 (.int x)) (st) h := rfl
theorem s_X_mendPoint_15 {x : Nat} {l0 : Option Value} {l : eg_Lo} : wps rm K Q c_X_mendPoint_15 kc ks (l0 :: some (.ref x) :: l) (st) h = wps rm K Q c_X_mendPoint_16 kc ks (l0 :: some (.ref x) :: l) (.ref x :: st) h := rfl
theorem s_X_mendPoint_16 {x : Nat} : wps rm K Q c_X_mendPoint_16 kc ks loc (.ref (x + 1) :: st) h = eg_gf h x 8 0 (fun v => wps rm K Q c_X_mendPoint_19 kc ks loc (v :: st) h) := rfl
theorem s_X_mendPoint_19 {x : Int32} {l0 l1 : Option Value} {l : eg_Lo} : wps rm K Q c_X_mendPoint_19 kc ks (l0 :: l1 :: some (.int x) :: l) (st) h = wps rm K Q c_X_mendPoint_20 kc ks (l0 :: l1 :: some (.int x) :: l) (.int x :: st) h := rfl
theorem s_X_mendPoint_20 {x : Int32} {l0 l1 l2 : Option Value} {l : eg_Lo} : wps rm K Q c_X_mendPoint_20 kc ks (l0 :: l1 :: l2 :: some (.int x) :: l) (st) h = wps rm K Q c_X_mendPoint_21 kc ks (l0 :: l1 :: l2 :: some (.int x) :: l) (.int x :: st) h := rfl
theorem s_X_mendPoint_21 {x : Nat} {l : eg_Lo} : wps rm K Q c_X_mendPoint_21 kc ks (some (.ref x) :: l) (st) h = wps rm K Q c_X_mendPoint_22 kc ks (some (.ref x) :: l) (.ref x :: st) h := rfl
theorem s_X_mendPoint_22 {x : Nat} : wps rm K Q c_X_mendPoint_22 kc ks loc (.ref (x + 1) :: st) h = eg_gf h x 11 3 (fun v => wps rm K Q c_X_mendPoint_25 kc ks loc (v :: st) h) := rfl
theorem s_X_mendPoint_25 {x : Nat} : wps rm K Q c_X_mendPoint_25 kc ks loc (.ref (x + 1) :: st) h = eg_gf h x 6 0 (fun v => wps rm K Q c_X_mendPoint_28 kc ks loc (v :: st) h) := rfl
theorem s_X_mendPoint_28 {x : Int32} {l0 l1 l2 : Option Value} {l : eg_Lo} : wps rm K Q c_X_mendPoint_28 kc ks (l0 :: l1 :: l2 :: some (.int x) :: l) (st) h = wps rm K Q c_X_mendPoint_29 kc ks (l0 :: l1 :: l2 :: some (.int x) :: l) (.int x :: st) h := rfl
theorem s_X_mendPoint_29 {x : Int32} {l0 l1 l2 l3 : Option Value} {l : eg_Lo} : wps rm K Q c_X_mendPoint_29 kc ks (l0 :: l1 :: l2 :: l3 :: some (.int x) :: l) (st) h = wps rm K Q c_X_mendPoint_31 kc ks (l0 :: l1 :: l2 :: l3 :: some (.int x) :: l) (.int x :: st) h := rfl
theorem s_X_mendPoint_31  {a1 : Value} {a2 : Value} {a3 : Value} : wps rm K Q c_X_mendPoint_31 kc ks loc (a3 :: a2 :: a1 :: st) h = (st.length ≤ 4 ∧ eg_Cs n_Grid_tooGreat [a1, a2, a3] h (fun v h9 => wps rm K Q c_X_mendPoint_34 kc ks loc (v.toList ++ st) h9)) := eg_c0_3
theorem s_X_mendPoint_34 {x y : Int32} : wps rm K Q c_X_mendPoint_34 kc ks loc (.int y :: .int x :: st) h = wps rm K Q c_X_mendPoint_35 kc ks loc (.int (x - y) :: st) h := rfl
theorem s_X_mendPoint_35  {a1 : Value} : wps rm K Q c_X_mendPoint_35 kc ks loc (a1 :: st) h = (st.length ≤ 4 ∧ eg_Cs n_X_cut [a1] h (fun v h9 => wps rm K Q c_X_mendPoint_38 kc ks loc (v.toList ++ st) h9)) := eg_c0_1
theorem s_X_mendPoint_38 {x : Nat} {i : Int32} {v : Int32} : wps rm K Q c_X_mendPoint_38 kc ks loc (.int v :: .int i :: .ref (x + 1) :: st) h = eg_is h x i v (fun h9 => wps rm K Q c_X_mendPoint_39 kc ks loc (st) h9) := rfl
theorem s_X_mendPoint_39 {x : Nat} {l0 : Option Value} {l : eg_Lo} : wps rm K Q c_X_mendPoint_39 kc ks (l0 :: some (.ref x) :: l) (st) h = wps rm K Q c_X_mendPoint_40 kc ks (l0 :: some (.ref x) :: l) (.ref x :: st) h := rfl
theorem s_X_mendPoint_40 {x : Nat} : wps rm K Q c_X_mendPoint_40 kc ks loc (.ref (x + 1) :: st) h = eg_gf h x 8 1 (fun v => wps rm K Q c_X_mendPoint_43 kc ks loc (v :: st) h) := rfl
theorem s_X_mendPoint_43 {x : Int32} {l0 l1 : Option Value} {l : eg_Lo} : wps rm K Q c_X_mendPoint_43 kc ks (l0 :: l1 :: some (.int x) :: l) (st) h = wps rm K Q c_X_mendPoint_44 kc ks (l0 :: l1 :: some (.int x) :: l) (.int x :: st) h := rfl
theorem s_X_mendPoint_44 {x : Int32} {l0 l1 l2 l3 : Option Value} {l : eg_Lo} : wps rm K Q c_X_mendPoint_44 kc ks (l0 :: l1 :: l2 :: l3 :: some (.int x) :: l) (st) h = wps rm K Q c_X_mendPoint_46 kc ks (l0 :: l1 :: l2 :: l3 :: some (.int x) :: l) (.int x :: st) h := rfl
theorem s_X_mendPoint_46 {x : Nat} {l : eg_Lo} : wps rm K Q c_X_mendPoint_46 kc ks (some (.ref x) :: l) (st) h = wps rm K Q c_X_mendPoint_47 kc ks (some (.ref x) :: l) (.ref x :: st) h := rfl
theorem s_X_mendPoint_47 {x : Nat} : wps rm K Q c_X_mendPoint_47 kc ks loc (.ref (x + 1) :: st) h = eg_gf h x 11 3 (fun v => wps rm K Q c_X_mendPoint_50 kc ks loc (v :: st) h) := rfl
theorem s_X_mendPoint_50 {x : Nat} : wps rm K Q c_X_mendPoint_50 kc ks loc (.ref (x + 1) :: st) h = eg_gf h x 6 1 (fun v => wps rm K Q c_X_mendPoint_53 kc ks loc (v :: st) h) := rfl
theorem s_X_mendPoint_53 {x : Int32} {l0 l1 l2 : Option Value} {l : eg_Lo} : wps rm K Q c_X_mendPoint_53 kc ks (l0 :: l1 :: l2 :: some (.int x) :: l) (st) h = wps rm K Q c_X_mendPoint_54 kc ks (l0 :: l1 :: l2 :: some (.int x) :: l) (.int x :: st) h := rfl
theorem s_X_mendPoint_54 {x : Int32} {l0 l1 l2 l3 : Option Value} {l : eg_Lo} : wps rm K Q c_X_mendPoint_54 kc ks (l0 :: l1 :: l2 :: l3 :: some (.int x) :: l) (st) h = wps rm K Q c_X_mendPoint_56 kc ks (l0 :: l1 :: l2 :: l3 :: some (.int x) :: l) (.int x :: st) h := rfl
theorem s_X_mendPoint_56  {a1 : Value} {a2 : Value} {a3 : Value} : wps rm K Q c_X_mendPoint_56 kc ks loc (a3 :: a2 :: a1 :: st) h = (st.length ≤ 4 ∧ eg_Cs n_Grid_tooGreat [a1, a2, a3] h (fun v h9 => wps rm K Q c_X_mendPoint_59 kc ks loc (v.toList ++ st) h9)) := eg_c0_3
theorem s_X_mendPoint_59 {x y : Int32} : wps rm K Q c_X_mendPoint_59 kc ks loc (.int y :: .int x :: st) h = wps rm K Q c_X_mendPoint_60 kc ks loc (.int (x - y) :: st) h := rfl
theorem s_X_mendPoint_60  {a1 : Value} : wps rm K Q c_X_mendPoint_60 kc ks loc (a1 :: st) h = (st.length ≤ 4 ∧ eg_Cs n_X_cut [a1] h (fun v h9 => wps rm K Q c_X_mendPoint_63 kc ks loc (v.toList ++ st) h9)) := eg_c0_1
theorem s_X_mendPoint_63 {x : Nat} {i : Int32} {v : Int32} : wps rm K Q c_X_mendPoint_63 kc ks loc (.int v :: .int i :: .ref (x + 1) :: st) h = eg_is h x i v (fun h9 => wps rm K Q c_X_mendPoint_64 kc ks loc (st) h9) := rfl
theorem s_X_mendPoint_64 {x : Nat} {l0 : Option Value} {l : eg_Lo} : wps rm K Q c_X_mendPoint_64 kc ks (l0 :: some (.ref x) :: l) (st) h = wps rm K Q c_X_mendPoint_65 kc ks (l0 :: some (.ref x) :: l) (.ref x :: st) h := rfl
theorem s_X_mendPoint_65 {x : Nat} : wps rm K Q c_X_mendPoint_65 kc ks loc (.ref (x + 1) :: st) h = eg_gf h x 8 0 (fun v => wps rm K Q c_X_mendPoint_68 kc ks loc (v :: st) h) := rfl
theorem s_X_mendPoint_68 {x : Int32} {l0 l1 : Option Value} {l : eg_Lo} : wps rm K Q c_X_mendPoint_68 kc ks (l0 :: l1 :: some (.int x) :: l) (st) h = wps rm K Q c_X_mendPoint_69 kc ks (l0 :: l1 :: some (.int x) :: l) (.int x :: st) h := rfl
theorem s_X_mendPoint_69 {x : Nat} {i : Int32} : wps rm K Q c_X_mendPoint_69 kc ks loc (.int i :: .ref (x + 1) :: st) h = eg_ia h x i (fun v => wps rm K Q c_X_mendPoint_70 kc ks loc (.int v :: st) h) := rfl
theorem s_X_mendPoint_70 {x : Int32} {l0 l1 l2 : Option Value} {l : eg_Lo} : wps rm K Q c_X_mendPoint_70 kc ks (l0 :: l1 :: l2 :: some (.int x) :: l) (st) h = wps rm K Q c_X_mendPoint_71 kc ks (l0 :: l1 :: l2 :: some (.int x) :: l) (.int x :: st) h := rfl
theorem s_X_mendPoint_71 {x y : Int32} : wps rm K Q c_X_mendPoint_71 kc ks loc (.int y :: .int x :: st) h = ((¬ x = y → K 85 kc ks loc st h) ∧ (x = y → wps rm K Q c_X_mendPoint_74 kc ks loc (st) h)) := rfl
theorem s_X_mendPoint_74 {x : Nat} {l0 : Option Value} {l : eg_Lo} : wps rm K Q c_X_mendPoint_74 kc ks (l0 :: some (.ref x) :: l) (st) h = wps rm K Q c_X_mendPoint_75 kc ks (l0 :: some (.ref x) :: l) (.ref x :: st) h := rfl
theorem s_X_mendPoint_75 {x : Nat} : wps rm K Q c_X_mendPoint_75 kc ks loc (.ref (x + 1) :: st) h = eg_gf h x 8 1 (fun v => wps rm K Q c_X_mendPoint_78 kc ks loc (v :: st) h) := rfl
theorem s_X_mendPoint_78 {x : Int32} {l0 l1 : Option Value} {l : eg_Lo} : wps rm K Q c_X_mendPoint_78 kc ks (l0 :: l1 :: some (.int x) :: l) (st) h = wps rm K Q c_X_mendPoint_79 kc ks (l0 :: l1 :: some (.int x) :: l) (.int x :: st) h := rfl
theorem s_X_mendPoint_79 {x : Nat} {i : Int32} : wps rm K Q c_X_mendPoint_79 kc ks loc (.int i :: .ref (x + 1) :: st) h = eg_ia h x i (fun v => wps rm K Q c_X_mendPoint_80 kc ks loc (.int v :: st) h) := rfl
theorem s_X_mendPoint_80 {x : Int32} {l0 l1 l2 l3 : Option Value} {l : eg_Lo} : wps rm K Q c_X_mendPoint_80 kc ks (l0 :: l1 :: l2 :: l3 :: some (.int x) :: l) (st) h = wps rm K Q c_X_mendPoint_82 kc ks (l0 :: l1 :: l2 :: l3 :: some (.int x) :: l) (.int x :: st) h := rfl
theorem s_X_mendPoint_82 {x y : Int32} : wps rm K Q c_X_mendPoint_82 kc ks loc (.int y :: .int x :: st) h = ((x = y → K 89 kc ks loc st h) ∧ (¬ x = y → wps rm K Q c_X_mendPoint_85 kc ks loc (st) h)) := rfl
theorem s_X_mendPoint_85  : wps rm K Q c_X_mendPoint_85 kc ks loc (st) h = wps rm K Q c_X_mendPoint_86 kc ks loc (.int (1) :: st) h := rfl
theorem s_X_mendPoint_86  : wps rm K Q c_X_mendPoint_86 kc ks loc (st) h = K 90 kc ks loc st h := rfl
theorem s_X_mendPoint_89  : wps rm K Q c_X_mendPoint_89 kc ks loc (st) h = wps rm K Q c_X_mendPoint_90 kc ks loc (.int (0) :: st) h := rfl
theorem s_X_mendPoint_90 {x : Int32} : wps rm K Q c_X_mendPoint_90 kc ks loc ([.int x]) h = (kc = rm.cells ∧ ((1 : Nat) = 1 → x = 0 ∨ x = 1) ∧ Q (some (.int x)) h) := rfl
def T_X_mendPoint : List (Nat × List eg_I) := [(85, c_X_mendPoint_85), (89, c_X_mendPoint_89), (90, c_X_mendPoint_90)]
theorem j_X_mendPoint_85 {R : Nat → Nat → Nat → eg_Lo → List Value → List eg_E → Prop} {f pc0 : Nat} : eg_run rm R Q T_X_mendPoint (f + 1) 85 kc ks loc st h = wps rm (eg_run rm R Q T_X_mendPoint f) Q c_X_mendPoint_85 kc ks loc st h := rfl
theorem j_X_mendPoint_89 {R : Nat → Nat → Nat → eg_Lo → List Value → List eg_E → Prop} {f pc0 : Nat} : eg_run rm R Q T_X_mendPoint (f + 1) 89 kc ks loc st h = wps rm (eg_run rm R Q T_X_mendPoint f) Q c_X_mendPoint_89 kc ks loc st h := rfl
theorem j_X_mendPoint_90 {R : Nat → Nat → Nat → eg_Lo → List Value → List eg_E → Prop} {f pc0 : Nat} : eg_run rm R Q T_X_mendPoint (f + 1) 90 kc ks loc st h = wps rm (eg_run rm R Q T_X_mendPoint f) Q c_X_mendPoint_90 kc ks loc st h := rfl
end
theorem q_X_mendPoint : (T_X_mendPoint.all fun q => eg_seq m_X_mendPoint q.1 q.2) = true := by decide +kernel
theorem b_X_mendPoint {as : List Value} {h : List eg_E} {Q : Option Value → List eg_E → Prop} (hf : (eg_fl as).length ≤ 5) (hw : wps (eg_rm m_X_mendPoint) (eg_run (eg_rm m_X_mendPoint) (eg_R m_X_mendPoint Q (h.length + 0)) Q T_X_mendPoint 5) Q c_X_mendPoint_0 0 0 (eg_entry 5 as) [] h) : eg_Runs n_X_mendPoint as h Q := eg_begin (d := m_X_mendPoint) rfl (by decide) (by decide +kernel) q_X_mendPoint hf hw
/-! ===== X_cut ===== -/
def c_X_cut_13 : List eg_I := .inl (13, 1, .ireturn, 0, 0) :: []
def c_X_cut_10 : List eg_I := .inr (10, 0, 254, n_Math_max, 2, 13, 0, 0) :: c_X_cut_13
def c_X_cut_7 : List eg_I := .inr (7, 0, 146, n_Math_min, 2, 13, 0, 0) :: c_X_cut_10
def c_X_cut_6 : List eg_I := .inl (6, 1, .iload 0, 0, 0) :: c_X_cut_7
def c_X_cut_3 : List eg_I := .inl (3, 3, .iconst (300), 0, 0) :: c_X_cut_6
def c_X_cut_0 : List eg_I := .inl (0, 3, .iconst (-300), 0, 0) :: c_X_cut_3
section
variable {rm : Room} {K : Nat → Nat → Nat → eg_Lo → List Value → List eg_E → Prop} {Q : Option Value → List eg_E → Prop} {kc ks : Nat} {loc : eg_Lo} {st : List Value} {h : List eg_E}
theorem s_X_cut_0  : wps rm K Q c_X_cut_0 kc ks loc (st) h = wps rm K Q c_X_cut_3 kc ks loc (.int (-300) :: st) h := rfl
theorem s_X_cut_3  : wps rm K Q c_X_cut_3 kc ks loc (st) h = wps rm K Q c_X_cut_6 kc ks loc (.int (300) :: st) h := rfl
theorem s_X_cut_6 {x : Int32} {l : eg_Lo} : wps rm K Q c_X_cut_6 kc ks (some (.int x) :: l) (st) h = wps rm K Q c_X_cut_7 kc ks (some (.int x) :: l) (.int x :: st) h := rfl
theorem s_X_cut_7  {a1 : Value} {a2 : Value} : wps rm K Q c_X_cut_7 kc ks loc (a2 :: a1 :: st) h = (st.length ≤ 4 ∧ eg_Cs n_Math_min [a1, a2] h (fun v h9 => wps rm K Q c_X_cut_10 kc ks loc (v.toList ++ st) h9)) := eg_c0_2
theorem s_X_cut_10  {a1 : Value} {a2 : Value} : wps rm K Q c_X_cut_10 kc ks loc (a2 :: a1 :: st) h = (st.length ≤ 4 ∧ eg_Cs n_Math_max [a1, a2] h (fun v h9 => wps rm K Q c_X_cut_13 kc ks loc (v.toList ++ st) h9)) := eg_c0_2
theorem s_X_cut_13 {x : Int32} : wps rm K Q c_X_cut_13 kc ks loc ([.int x]) h = (kc = rm.cells ∧ (0 = 1 → x = 0 ∨ x = 1) ∧ Q (some (.int x)) h) := rfl
def T_X_cut : List (Nat × List eg_I) := []
end
theorem q_X_cut : (T_X_cut.all fun q => eg_seq m_X_cut q.1 q.2) = true := by decide +kernel
theorem b_X_cut {as : List Value} {h : List eg_E} {Q : Option Value → List eg_E → Prop} (hf : (eg_fl as).length ≤ 1) (hw : wps (eg_rm m_X_cut) (eg_run (eg_rm m_X_cut) (eg_R m_X_cut Q (h.length + 0)) Q T_X_cut 2) Q c_X_cut_0 0 0 (eg_entry 1 as) [] h) : eg_Runs n_X_cut as h Q := eg_begin (d := m_X_cut) rfl (by decide) (by decide +kernel) q_X_cut hf hw
/-! ===== X_squareApart ===== -/
def c_X_squareApart_84 : List eg_I := .inl (84, 1, .lreturn, 0, 0) :: []
def c_X_squareApart_83 : List eg_I := .inl (83, 1, .ladd, 0, 0) :: c_X_squareApart_84
def c_X_squareApart_82 : List eg_I := .inl (82, 1, .lmul, 0, 0) :: c_X_squareApart_83
def c_X_squareApart_80 : List eg_I := .inl (80, 2, .lload 7, 0, 0) :: c_X_squareApart_82
def c_X_squareApart_78 : List eg_I := .inl (78, 2, .lload 7, 0, 0) :: c_X_squareApart_80
def c_X_squareApart_77 : List eg_I := .inl (77, 1, .ladd, 0, 0) :: c_X_squareApart_78
def c_X_squareApart_76 : List eg_I := .inl (76, 1, .lmul, 0, 0) :: c_X_squareApart_77
def c_X_squareApart_74 : List eg_I := .inl (74, 2, .lload 5, 0, 0) :: c_X_squareApart_76
def c_X_squareApart_72 : List eg_I := .inl (72, 2, .lload 5, 0, 0) :: c_X_squareApart_74
def c_X_squareApart_71 : List eg_I := .inl (71, 1, .lmul, 0, 0) :: c_X_squareApart_72
def c_X_squareApart_70 : List eg_I := .inl (70, 1, .lload 3, 0, 0) :: c_X_squareApart_71
def c_X_squareApart_69 : List eg_I := .inl (69, 1, .lload 3, 0, 0) :: c_X_squareApart_70
def c_X_squareApart_67 : List eg_I := .inl (67, 2, .lstore 7, 0, 0) :: c_X_squareApart_69
def c_X_squareApart_66 : List eg_I := .inl (66, 1, .i2l, 0, 0) :: c_X_squareApart_67
def c_X_squareApart_65 : List eg_I := .inl (65, 1, .isub, 0, 0) :: c_X_squareApart_66
def c_X_squareApart_64 : List eg_I := .inl (64, 1, .iaload, 0, 0) :: c_X_squareApart_65
def c_X_squareApart_63 : List eg_I := .inl (63, 1, .iload 2, 0, 0) :: c_X_squareApart_64
def c_X_squareApart_60 : List eg_I := .inl (60, 3, .getfield 122, 8, 2) :: c_X_squareApart_63
def c_X_squareApart_59 : List eg_I := .inl (59, 1, .aload 1, 0, 0) :: c_X_squareApart_60
def c_X_squareApart_58 : List eg_I := .inl (58, 1, .iaload, 0, 0) :: c_X_squareApart_59
def c_X_squareApart_57 : List eg_I := .inl (57, 1, .iload 2, 0, 0) :: c_X_squareApart_58
def c_X_squareApart_54 : List eg_I := .inl (54, 3, .getfield 122, 8, 2) :: c_X_squareApart_57
def c_X_squareApart_53 : List eg_I := .inl (53, 1, .aload 0, 0, 0) :: c_X_squareApart_54
def c_X_squareApart_51 : List eg_I := .inl (51, 2, .lstore 5, 0, 0) :: c_X_squareApart_53
def c_X_squareApart_50 : List eg_I := .inl (50, 1, .i2l, 0, 0) :: c_X_squareApart_51
def c_X_squareApart_49 : List eg_I := .inl (49, 1, .isub, 0, 0) :: c_X_squareApart_50
def c_X_squareApart_48 : List eg_I := .inl (48, 1, .iaload, 0, 0) :: c_X_squareApart_49
def c_X_squareApart_47 : List eg_I := .inl (47, 1, .iload 2, 0, 0) :: c_X_squareApart_48
def c_X_squareApart_44 : List eg_I := .inl (44, 3, .getfield 119, 8, 1) :: c_X_squareApart_47
def c_X_squareApart_43 : List eg_I := .inl (43, 1, .aload 1, 0, 0) :: c_X_squareApart_44
def c_X_squareApart_42 : List eg_I := .inl (42, 1, .iaload, 0, 0) :: c_X_squareApart_43
def c_X_squareApart_41 : List eg_I := .inl (41, 1, .iload 2, 0, 0) :: c_X_squareApart_42
def c_X_squareApart_38 : List eg_I := .inl (38, 3, .getfield 119, 8, 1) :: c_X_squareApart_41
def c_X_squareApart_37 : List eg_I := .inl (37, 1, .aload 0, 0, 0) :: c_X_squareApart_38
def c_X_squareApart_36 : List eg_I := .inl (36, 1, .lstore 3, 0, 0) :: c_X_squareApart_37
def c_X_squareApart_35 : List eg_I := .inl (35, 1, .i2l, 0, 0) :: c_X_squareApart_36
def c_X_squareApart_34 : List eg_I := .inl (34, 1, .isub, 0, 0) :: c_X_squareApart_35
def c_X_squareApart_33 : List eg_I := .inl (33, 1, .iaload, 0, 0) :: c_X_squareApart_34
def c_X_squareApart_32 : List eg_I := .inl (32, 1, .iload 2, 0, 0) :: c_X_squareApart_33
def c_X_squareApart_29 : List eg_I := .inl (29, 3, .getfield 115, 8, 0) :: c_X_squareApart_32
def c_X_squareApart_28 : List eg_I := .inl (28, 1, .aload 1, 0, 0) :: c_X_squareApart_29
def c_X_squareApart_27 : List eg_I := .inl (27, 1, .iaload, 0, 0) :: c_X_squareApart_28
def c_X_squareApart_26 : List eg_I := .inl (26, 1, .iload 2, 0, 0) :: c_X_squareApart_27
def c_X_squareApart_23 : List eg_I := .inl (23, 3, .getfield 115, 8, 0) :: c_X_squareApart_26
def c_X_squareApart_22 : List eg_I := .inl (22, 1, .aload 0, 0, 0) :: c_X_squareApart_23
def c_X_squareApart_21 : List eg_I := .inl (21, 1, .lreturn, 0, 0) :: []
def c_X_squareApart_18 : List eg_I := .inl (18, 3, .sipush (-1), 152, 0) :: c_X_squareApart_21
def c_X_squareApart_15 : List eg_I := .inl (15, 3, .ifCond .eq (7), 22, 0) :: c_X_squareApart_18
def c_X_squareApart_14 : List eg_I := .inl (14, 1, .baload, 0, 0) :: c_X_squareApart_15
def c_X_squareApart_13 : List eg_I := .inl (13, 1, .iload 2, 0, 0) :: c_X_squareApart_14
def c_X_squareApart_10 : List eg_I := .inl (10, 3, .getfield 109, 8, 3) :: c_X_squareApart_13
def c_X_squareApart_9 : List eg_I := .inl (9, 1, .aload 1, 0, 0) :: c_X_squareApart_10
def c_X_squareApart_6 : List eg_I := .inl (6, 3, .ifCond .ne (12), 18, 0) :: c_X_squareApart_9
def c_X_squareApart_5 : List eg_I := .inl (5, 1, .baload, 0, 0) :: c_X_squareApart_6
def c_X_squareApart_4 : List eg_I := .inl (4, 1, .iload 2, 0, 0) :: c_X_squareApart_5
def c_X_squareApart_1 : List eg_I := .inl (1, 3, .getfield 109, 8, 3) :: c_X_squareApart_4
def c_X_squareApart_0 : List eg_I := .inl (0, 1, .aload 0, 0, 0) :: c_X_squareApart_1
section
variable {rm : Room} {K : Nat → Nat → Nat → eg_Lo → List Value → List eg_E → Prop} {Q : Option Value → List eg_E → Prop} {kc ks : Nat} {loc : eg_Lo} {st : List Value} {h : List eg_E}
theorem s_X_squareApart_0 {x : Nat} {l : eg_Lo} : wps rm K Q c_X_squareApart_0 kc ks (some (.ref x) :: l) (st) h = wps rm K Q c_X_squareApart_1 kc ks (some (.ref x) :: l) (.ref x :: st) h := rfl
theorem s_X_squareApart_1 {x : Nat} : wps rm K Q c_X_squareApart_1 kc ks loc (.ref (x + 1) :: st) h = eg_gf h x 8 3 (fun v => wps rm K Q c_X_squareApart_4 kc ks loc (v :: st) h) := rfl
theorem s_X_squareApart_4 {x : Int32} {l0 l1 : Option Value} {l : eg_Lo} : wps rm K Q c_X_squareApart_4 kc ks (l0 :: l1 :: some (.int x) :: l) (st) h = wps rm K Q c_X_squareApart_5 kc ks (l0 :: l1 :: some (.int x) :: l) (.int x :: st) h := rfl
theorem s_X_squareApart_5 {x : Nat} {i : Int32} : wps rm K Q c_X_squareApart_5 kc ks loc (.int i :: .ref (x + 1) :: st) h = eg_ba h x i (fun v => wps rm K Q c_X_squareApart_6 kc ks loc (.int v :: st) h) := rfl
theorem s_X_squareApart_6 {x : Int32} : wps rm K Q c_X_squareApart_6 kc ks loc (.int x :: st) h = ((¬ x = 0 → K 18 kc ks loc st h) ∧ (x = 0 → wps rm K Q c_X_squareApart_9 kc ks loc (st) h)) := rfl
theorem s_X_squareApart_9 {x : Nat} {l0 : Option Value} {l : eg_Lo} : wps rm K Q c_X_squareApart_9 kc ks (l0 :: some (.ref x) :: l) (st) h = wps rm K Q c_X_squareApart_10 kc ks (l0 :: some (.ref x) :: l) (.ref x :: st) h := rfl
theorem s_X_squareApart_10 {x : Nat} : wps rm K Q c_X_squareApart_10 kc ks loc (.ref (x + 1) :: st) h = eg_gf h x 8 3 (fun v => wps rm K Q c_X_squareApart_13 kc ks loc (v :: st) h) := rfl
theorem s_X_squareApart_13 {x : Int32} {l0 l1 : Option Value} {l : eg_Lo} : wps rm K Q c_X_squareApart_13 kc ks (l0 :: l1 :: some (.int x) :: l) (st) h = wps rm K Q c_X_squareApart_14 kc ks (l0 :: l1 :: some (.int x) :: l) (.int x :: st) h := rfl
theorem s_X_squareApart_14 {x : Nat} {i : Int32} : wps rm K Q c_X_squareApart_14 kc ks loc (.int i :: .ref (x + 1) :: st) h = eg_ba h x i (fun v => wps rm K Q c_X_squareApart_15 kc ks loc (.int v :: st) h) := rfl
theorem s_X_squareApart_15 {x : Int32} : wps rm K Q c_X_squareApart_15 kc ks loc (.int x :: st) h = ((x = 0 → K 22 kc ks loc st h) ∧ (¬ x = 0 → wps rm K Q c_X_squareApart_18 kc ks loc (st) h)) := rfl
theorem s_X_squareApart_18  : wps rm K Q c_X_squareApart_18 kc ks loc (st) h = wps rm K Q c_X_squareApart_21 kc ks loc (.long (-1) :: st) h := rfl
theorem s_X_squareApart_21 {x : Int64} : wps rm K Q c_X_squareApart_21 kc ks loc ([.long x]) h = (kc = rm.cells ∧ Q (some (.long x)) h) := rfl
theorem s_X_squareApart_22 {x : Nat} {l : eg_Lo} : wps rm K Q c_X_squareApart_22 kc ks (some (.ref x) :: l) (st) h = wps rm K Q c_X_squareApart_23 kc ks (some (.ref x) :: l) (.ref x :: st) h := rfl
theorem s_X_squareApart_23 {x : Nat} : wps rm K Q c_X_squareApart_23 kc ks loc (.ref (x + 1) :: st) h = eg_gf h x 8 0 (fun v => wps rm K Q c_X_squareApart_26 kc ks loc (v :: st) h) := rfl
theorem s_X_squareApart_26 {x : Int32} {l0 l1 : Option Value} {l : eg_Lo} : wps rm K Q c_X_squareApart_26 kc ks (l0 :: l1 :: some (.int x) :: l) (st) h = wps rm K Q c_X_squareApart_27 kc ks (l0 :: l1 :: some (.int x) :: l) (.int x :: st) h := rfl
theorem s_X_squareApart_27 {x : Nat} {i : Int32} : wps rm K Q c_X_squareApart_27 kc ks loc (.int i :: .ref (x + 1) :: st) h = eg_ia h x i (fun v => wps rm K Q c_X_squareApart_28 kc ks loc (.int v :: st) h) := rfl
theorem s_X_squareApart_28 {x : Nat} {l0 : Option Value} {l : eg_Lo} : wps rm K Q c_X_squareApart_28 kc ks (l0 :: some (.ref x) :: l) (st) h = wps rm K Q c_X_squareApart_29 kc ks (l0 :: some (.ref x) :: l) (.ref x :: st) h := rfl
theorem s_X_squareApart_29 {x : Nat} : wps rm K Q c_X_squareApart_29 kc ks loc (.ref (x + 1) :: st) h = eg_gf h x 8 0 (fun v => wps rm K Q c_X_squareApart_32 kc ks loc (v :: st) h) := rfl
theorem s_X_squareApart_32 {x : Int32} {l0 l1 : Option Value} {l : eg_Lo} : wps rm K Q c_X_squareApart_32 kc ks (l0 :: l1 :: some (.int x) :: l) (st) h = wps rm K Q c_X_squareApart_33 kc ks (l0 :: l1 :: some (.int x) :: l) (.int x :: st) h := rfl
theorem s_X_squareApart_33 {x : Nat} {i : Int32} : wps rm K Q c_X_squareApart_33 kc ks loc (.int i :: .ref (x + 1) :: st) h = eg_ia h x i (fun v => wps rm K Q c_X_squareApart_34 kc ks loc (.int v :: st) h) := rfl
theorem s_X_squareApart_34 {x y : Int32} : wps rm K Q c_X_squareApart_34 kc ks loc (.int y :: .int x :: st) h = wps rm K Q c_X_squareApart_35 kc ks loc (.int (x - y) :: st) h := rfl
theorem s_X_squareApart_35 {x : Int32} : wps rm K Q c_X_squareApart_35 kc ks loc (.int x :: st) h = wps rm K Q c_X_squareApart_36 kc ks loc (.long (x.toInt64) :: st) h := rfl
theorem s_X_squareApart_36 {x : Int64} : wps rm K Q c_X_squareApart_36 kc ks loc (.long x :: st) h = wps rm K Q c_X_squareApart_37 kc ks (eg_set2 loc 3 (.long x)) (st) h := rfl
theorem s_X_squareApart_37 {x : Nat} {l : eg_Lo} : wps rm K Q c_X_squareApart_37 kc ks (some (.ref x) :: l) (st) h = wps rm K Q c_X_squareApart_38 kc ks (some (.ref x) :: l) (.ref x :: st) h := rfl
theorem s_X_squareApart_38 {x : Nat} : wps rm K Q c_X_squareApart_38 kc ks loc (.ref (x + 1) :: st) h = eg_gf h x 8 1 (fun v => wps rm K Q c_X_squareApart_41 kc ks loc (v :: st) h) := rfl
theorem s_X_squareApart_41 {x : Int32} {l0 l1 : Option Value} {l : eg_Lo} : wps rm K Q c_X_squareApart_41 kc ks (l0 :: l1 :: some (.int x) :: l) (st) h = wps rm K Q c_X_squareApart_42 kc ks (l0 :: l1 :: some (.int x) :: l) (.int x :: st) h := rfl
theorem s_X_squareApart_42 {x : Nat} {i : Int32} : wps rm K Q c_X_squareApart_42 kc ks loc (.int i :: .ref (x + 1) :: st) h = eg_ia h x i (fun v => wps rm K Q c_X_squareApart_43 kc ks loc (.int v :: st) h) := rfl
theorem s_X_squareApart_43 {x : Nat} {l0 : Option Value} {l : eg_Lo} : wps rm K Q c_X_squareApart_43 kc ks (l0 :: some (.ref x) :: l) (st) h = wps rm K Q c_X_squareApart_44 kc ks (l0 :: some (.ref x) :: l) (.ref x :: st) h := rfl
theorem s_X_squareApart_44 {x : Nat} : wps rm K Q c_X_squareApart_44 kc ks loc (.ref (x + 1) :: st) h = eg_gf h x 8 1 (fun v => wps rm K Q c_X_squareApart_47 kc ks loc (v :: st) h) := rfl
theorem s_X_squareApart_47 {x : Int32} {l0 l1 : Option Value} {l : eg_Lo} : wps rm K Q c_X_squareApart_47 kc ks (l0 :: l1 :: some (.int x) :: l) (st) h = wps rm K Q c_X_squareApart_48 kc ks (l0 :: l1 :: some (.int x) :: l) (.int x :: st) h := rfl
theorem s_X_squareApart_48 {x : Nat} {i : Int32} : wps rm K Q c_X_squareApart_48 kc ks loc (.int i :: .ref (x + 1) :: st) h = eg_ia h x i (fun v => wps rm K Q c_X_squareApart_49 kc ks loc (.int v :: st) h) := rfl
theorem s_X_squareApart_49 {x y : Int32} : wps rm K Q c_X_squareApart_49 kc ks loc (.int y :: .int x :: st) h = wps rm K Q c_X_squareApart_50 kc ks loc (.int (x - y) :: st) h := rfl
theorem s_X_squareApart_50 {x : Int32} : wps rm K Q c_X_squareApart_50 kc ks loc (.int x :: st) h = wps rm K Q c_X_squareApart_51 kc ks loc (.long (x.toInt64) :: st) h := rfl
theorem s_X_squareApart_51 {x : Int64} : wps rm K Q c_X_squareApart_51 kc ks loc (.long x :: st) h = wps rm K Q c_X_squareApart_53 kc ks (eg_set2 loc 5 (.long x)) (st) h := rfl
theorem s_X_squareApart_53 {x : Nat} {l : eg_Lo} : wps rm K Q c_X_squareApart_53 kc ks (some (.ref x) :: l) (st) h = wps rm K Q c_X_squareApart_54 kc ks (some (.ref x) :: l) (.ref x :: st) h := rfl
theorem s_X_squareApart_54 {x : Nat} : wps rm K Q c_X_squareApart_54 kc ks loc (.ref (x + 1) :: st) h = eg_gf h x 8 2 (fun v => wps rm K Q c_X_squareApart_57 kc ks loc (v :: st) h) := rfl
theorem s_X_squareApart_57 {x : Int32} {l0 l1 : Option Value} {l : eg_Lo} : wps rm K Q c_X_squareApart_57 kc ks (l0 :: l1 :: some (.int x) :: l) (st) h = wps rm K Q c_X_squareApart_58 kc ks (l0 :: l1 :: some (.int x) :: l) (.int x :: st) h := rfl
theorem s_X_squareApart_58 {x : Nat} {i : Int32} : wps rm K Q c_X_squareApart_58 kc ks loc (.int i :: .ref (x + 1) :: st) h = eg_ia h x i (fun v => wps rm K Q c_X_squareApart_59 kc ks loc (.int v :: st) h) := rfl
theorem s_X_squareApart_59 {x : Nat} {l0 : Option Value} {l : eg_Lo} : wps rm K Q c_X_squareApart_59 kc ks (l0 :: some (.ref x) :: l) (st) h = wps rm K Q c_X_squareApart_60 kc ks (l0 :: some (.ref x) :: l) (.ref x :: st) h := rfl
theorem s_X_squareApart_60 {x : Nat} : wps rm K Q c_X_squareApart_60 kc ks loc (.ref (x + 1) :: st) h = eg_gf h x 8 2 (fun v => wps rm K Q c_X_squareApart_63 kc ks loc (v :: st) h) := rfl
theorem s_X_squareApart_63 {x : Int32} {l0 l1 : Option Value} {l : eg_Lo} : wps rm K Q c_X_squareApart_63 kc ks (l0 :: l1 :: some (.int x) :: l) (st) h = wps rm K Q c_X_squareApart_64 kc ks (l0 :: l1 :: some (.int x) :: l) (.int x :: st) h := rfl
theorem s_X_squareApart_64 {x : Nat} {i : Int32} : wps rm K Q c_X_squareApart_64 kc ks loc (.int i :: .ref (x + 1) :: st) h = eg_ia h x i (fun v => wps rm K Q c_X_squareApart_65 kc ks loc (.int v :: st) h) := rfl
theorem s_X_squareApart_65 {x y : Int32} : wps rm K Q c_X_squareApart_65 kc ks loc (.int y :: .int x :: st) h = wps rm K Q c_X_squareApart_66 kc ks loc (.int (x - y) :: st) h := rfl
theorem s_X_squareApart_66 {x : Int32} : wps rm K Q c_X_squareApart_66 kc ks loc (.int x :: st) h = wps rm K Q c_X_squareApart_67 kc ks loc (.long (x.toInt64) :: st) h := rfl
theorem s_X_squareApart_67 {x : Int64} : wps rm K Q c_X_squareApart_67 kc ks loc (.long x :: st) h = wps rm K Q c_X_squareApart_69 kc ks (eg_set2 loc 7 (.long x)) (st) h := rfl
theorem s_X_squareApart_69 {x : Int64} {l0 l1 l2 : Option Value} {l : eg_Lo} : wps rm K Q c_X_squareApart_69 kc ks (l0 :: l1 :: l2 :: some (.long x) :: l) (st) h = wps rm K Q c_X_squareApart_70 kc ks (l0 :: l1 :: l2 :: some (.long x) :: l) (.long x :: st) h := rfl
theorem s_X_squareApart_70 {x : Int64} {l0 l1 l2 : Option Value} {l : eg_Lo} : wps rm K Q c_X_squareApart_70 kc ks (l0 :: l1 :: l2 :: some (.long x) :: l) (st) h = wps rm K Q c_X_squareApart_71 kc ks (l0 :: l1 :: l2 :: some (.long x) :: l) (.long x :: st) h := rfl
theorem s_X_squareApart_71 {x y : Int64} : wps rm K Q c_X_squareApart_71 kc ks loc (.long y :: .long x :: st) h = wps rm K Q c_X_squareApart_72 kc ks loc (.long (x * y) :: st) h := rfl
theorem s_X_squareApart_72 {x : Int64} {l0 l1 l2 l3 l4 : Option Value} {l : eg_Lo} : wps rm K Q c_X_squareApart_72 kc ks (l0 :: l1 :: l2 :: l3 :: l4 :: some (.long x) :: l) (st) h = wps rm K Q c_X_squareApart_74 kc ks (l0 :: l1 :: l2 :: l3 :: l4 :: some (.long x) :: l) (.long x :: st) h := rfl
theorem s_X_squareApart_74 {x : Int64} {l0 l1 l2 l3 l4 : Option Value} {l : eg_Lo} : wps rm K Q c_X_squareApart_74 kc ks (l0 :: l1 :: l2 :: l3 :: l4 :: some (.long x) :: l) (st) h = wps rm K Q c_X_squareApart_76 kc ks (l0 :: l1 :: l2 :: l3 :: l4 :: some (.long x) :: l) (.long x :: st) h := rfl
theorem s_X_squareApart_76 {x y : Int64} : wps rm K Q c_X_squareApart_76 kc ks loc (.long y :: .long x :: st) h = wps rm K Q c_X_squareApart_77 kc ks loc (.long (x * y) :: st) h := rfl
theorem s_X_squareApart_77 {x y : Int64} : wps rm K Q c_X_squareApart_77 kc ks loc (.long y :: .long x :: st) h = wps rm K Q c_X_squareApart_78 kc ks loc (.long (x + y) :: st) h := rfl
theorem s_X_squareApart_78 {x : Int64} {l0 l1 l2 l3 l4 l5 l6 : Option Value} {l : eg_Lo} : wps rm K Q c_X_squareApart_78 kc ks (l0 :: l1 :: l2 :: l3 :: l4 :: l5 :: l6 :: some (.long x) :: l) (st) h = wps rm K Q c_X_squareApart_80 kc ks (l0 :: l1 :: l2 :: l3 :: l4 :: l5 :: l6 :: some (.long x) :: l) (.long x :: st) h := rfl
theorem s_X_squareApart_80 {x : Int64} {l0 l1 l2 l3 l4 l5 l6 : Option Value} {l : eg_Lo} : wps rm K Q c_X_squareApart_80 kc ks (l0 :: l1 :: l2 :: l3 :: l4 :: l5 :: l6 :: some (.long x) :: l) (st) h = wps rm K Q c_X_squareApart_82 kc ks (l0 :: l1 :: l2 :: l3 :: l4 :: l5 :: l6 :: some (.long x) :: l) (.long x :: st) h := rfl
theorem s_X_squareApart_82 {x y : Int64} : wps rm K Q c_X_squareApart_82 kc ks loc (.long y :: .long x :: st) h = wps rm K Q c_X_squareApart_83 kc ks loc (.long (x * y) :: st) h := rfl
theorem s_X_squareApart_83 {x y : Int64} : wps rm K Q c_X_squareApart_83 kc ks loc (.long y :: .long x :: st) h = wps rm K Q c_X_squareApart_84 kc ks loc (.long (x + y) :: st) h := rfl
theorem s_X_squareApart_84 {x : Int64} : wps rm K Q c_X_squareApart_84 kc ks loc ([.long x]) h = (kc = rm.cells ∧ Q (some (.long x)) h) := rfl
def T_X_squareApart : List (Nat × List eg_I) := [(18, c_X_squareApart_18), (22, c_X_squareApart_22)]
theorem j_X_squareApart_18 {R : Nat → Nat → Nat → eg_Lo → List Value → List eg_E → Prop} {f pc0 : Nat} : eg_run rm R Q T_X_squareApart (f + 1) 18 kc ks loc st h = wps rm (eg_run rm R Q T_X_squareApart f) Q c_X_squareApart_18 kc ks loc st h := rfl
theorem j_X_squareApart_22 {R : Nat → Nat → Nat → eg_Lo → List Value → List eg_E → Prop} {f pc0 : Nat} : eg_run rm R Q T_X_squareApart (f + 1) 22 kc ks loc st h = wps rm (eg_run rm R Q T_X_squareApart f) Q c_X_squareApart_22 kc ks loc st h := rfl
end
theorem q_X_squareApart : (T_X_squareApart.all fun q => eg_seq m_X_squareApart q.1 q.2) = true := by decide +kernel
theorem b_X_squareApart {as : List Value} {h : List eg_E} {Q : Option Value → List eg_E → Prop} (hf : (eg_fl as).length ≤ 9) (hw : wps (eg_rm m_X_squareApart) (eg_run (eg_rm m_X_squareApart) (eg_R m_X_squareApart Q (h.length + 0)) Q T_X_squareApart 4) Q c_X_squareApart_0 0 0 (eg_entry 9 as) [] h) : eg_Runs n_X_squareApart as h Q := eg_begin (d := m_X_squareApart) rfl (by decide) (by decide +kernel) q_X_squareApart hf hw
/-! ===== X_layPoints ===== -/
def c_X_layPoints_95 : List eg_I := .inl (95, 1, .ireturn, 0, 0) :: []
def c_X_layPoints_94 : List eg_I := .inl (94, 1, .iload 2, 0, 0) :: c_X_layPoints_95
def c_X_layPoints_91 : List eg_I := .inl (91, 3, .goto (-87), 4, 0) :: []
def c_X_layPoints_88 : List eg_I := .inl (88, 3, .iinc 3 (3), 0, 0) :: c_X_layPoints_91
def c_X_layPoints_87 : List eg_I := .inl (87, 1, .pop, 0, 0) :: c_X_layPoints_88
def c_X_layPoints_84 : List eg_I := .inr (84, 1, 100, n_Part_addMissed, 0, 8, 0, 0) :: c_X_layPoints_87
def c_X_layPoints_83 : List eg_I := .inl (83, 1, .aload 0, 0, 0) :: c_X_layPoints_84
def c_X_layPoints_80 : List eg_I := .inl (80, 3, .goto (8), 88, 0) :: []
def c_X_layPoints_77 : List eg_I := .inl (77, 3, .iinc 2 (1), 0, 0) :: c_X_layPoints_80
def c_X_layPoints_76 : List eg_I := .inl (76, 1, .pop, 0, 0) :: c_X_layPoints_77
def c_X_layPoints_73 : List eg_I := .inr (73, 1, 96, n_Part_add, 3, 8, 0, 0) :: c_X_layPoints_76
def c_X_layPoints_71 : List eg_I := .inl (71, 2, .iload 6, 0, 0) :: c_X_layPoints_73
def c_X_layPoints_69 : List eg_I := .inl (69, 2, .iload 5, 0, 0) :: c_X_layPoints_71
def c_X_layPoints_67 : List eg_I := .inl (67, 2, .iload 4, 0, 0) :: c_X_layPoints_69
def c_X_layPoints_66 : List eg_I := .inl (66, 1, .aload 0, 0, 0) :: c_X_layPoints_67
def c_X_layPoints_63 : List eg_I := .inl (63, 3, .ifCond .eq (20), 83, 0) :: c_X_layPoints_66
def c_X_layPoints_60 : List eg_I := .inr (60, 0, 80, n_X_isWithin, 3, 11, 0, 0) :: c_X_layPoints_63
def c_X_layPoints_57 : List eg_I := .inl (57, 3, .iconst (300), 0, 0) :: c_X_layPoints_60
def c_X_layPoints_54 : List eg_I := .inl (54, 3, .iconst (-300), 0, 0) :: c_X_layPoints_57
def c_X_layPoints_52 : List eg_I := .inl (52, 2, .iload 6, 0, 0) :: c_X_layPoints_54
def c_X_layPoints_49 : List eg_I := .inl (49, 3, .ifCond .eq (34), 83, 0) :: c_X_layPoints_52
def c_X_layPoints_46 : List eg_I := .inr (46, 0, 76, n_X_isPlace, 2, 11, 0, 0) :: c_X_layPoints_49
def c_X_layPoints_44 : List eg_I := .inl (44, 2, .iload 5, 0, 0) :: c_X_layPoints_46
def c_X_layPoints_42 : List eg_I := .inl (42, 2, .iload 4, 0, 0) :: c_X_layPoints_44
def c_X_layPoints_40 : List eg_I := .inl (40, 2, .istore 6, 0, 0) :: c_X_layPoints_42
def c_X_layPoints_39 : List eg_I := .inl (39, 1, .iaload, 0, 0) :: c_X_layPoints_40
def c_X_layPoints_38 : List eg_I := .inl (38, 1, .iadd, 0, 0) :: c_X_layPoints_39
def c_X_layPoints_37 : List eg_I := .inl (37, 1, .iconst (2), 0, 0) :: c_X_layPoints_38
def c_X_layPoints_36 : List eg_I := .inl (36, 1, .iload 3, 0, 0) :: c_X_layPoints_37
def c_X_layPoints_33 : List eg_I := .inl (33, 3, .getfield 177, 9, 0) :: c_X_layPoints_36
def c_X_layPoints_32 : List eg_I := .inl (32, 1, .aload 1, 0, 0) :: c_X_layPoints_33
def c_X_layPoints_30 : List eg_I := .inl (30, 2, .istore 5, 0, 0) :: c_X_layPoints_32
def c_X_layPoints_29 : List eg_I := .inl (29, 1, .iaload, 0, 0) :: c_X_layPoints_30
def c_X_layPoints_28 : List eg_I := .inl (28, 1, .iadd, 0, 0) :: c_X_layPoints_29
def c_X_layPoints_27 : List eg_I := .inl (27, 1, .iconst (1), 0, 0) :: c_X_layPoints_28
def c_X_layPoints_26 : List eg_I := .inl (26, 1, .iload 3, 0, 0) :: c_X_layPoints_27
def c_X_layPoints_23 : List eg_I := .inl (23, 3, .getfield 177, 9, 0) :: c_X_layPoints_26
def c_X_layPoints_22 : List eg_I := .inl (22, 1, .aload 1, 0, 0) :: c_X_layPoints_23
def c_X_layPoints_20 : List eg_I := .inl (20, 2, .istore 4, 0, 0) :: c_X_layPoints_22
def c_X_layPoints_19 : List eg_I := .inl (19, 1, .iaload, 0, 0) :: c_X_layPoints_20
def c_X_layPoints_18 : List eg_I := .inl (18, 1, .iload 3, 0, 0) :: c_X_layPoints_19
def c_X_layPoints_15 : List eg_I := .inl (15, 3, .getfield 177, 9, 0) :: c_X_layPoints_18
def c_X_layPoints_14 : List eg_I := .inl (14, 1, .aload 1, 0, 0) :: c_X_layPoints_15
def c_X_layPoints_11 : List eg_I := .inl (11, 3, .if_icmp .ge (83), 94, 0) :: c_X_layPoints_14
def c_X_layPoints_8 : List eg_I := .inl (8, 3, .getfield 174, 9, 2) :: c_X_layPoints_11
def c_X_layPoints_7 : List eg_I := .inl (7, 1, .aload 1, 0, 0) :: c_X_layPoints_8
def c_X_layPoints_6 : List eg_I := .inl (6, 1, .iadd, 0, 0) :: c_X_layPoints_7
def c_X_layPoints_5 : List eg_I := .inl (5, 1, .iconst (2), 0, 0) :: c_X_layPoints_6
def c_X_layPoints_4 : List eg_I := .inl (4, 1, .iload 3, 0, 0) :: c_X_layPoints_5
def c_X_layPoints_3 : List eg_I := .inl (3, 1, .istore 3, 0, 0) :: [.inl (4, 0, .nop, 0, 0)]
def c_X_layPoints_2 : List eg_I := .inl (2, 1, .iconst (0), 0, 0) :: c_X_layPoints_3
def c_X_layPoints_1 : List eg_I := .inl (1, 1, .istore 2, 0, 0) :: c_X_layPoints_2
def c_X_layPoints_0 : List eg_I := .inl (0, 1, .iconst (0), 0, 0) :: c_X_layPoints_1
section
variable {rm : Room} {K : Nat → Nat → Nat → eg_Lo → List Value → List eg_E → Prop} {Q : Option Value → List eg_E → Prop} {kc ks : Nat} {loc : eg_Lo} {st : List Value} {h : List eg_E}
theorem s_X_layPoints_0  : wps rm K Q c_X_layPoints_0 kc ks loc (st) h = wps rm K Q c_X_layPoints_1 kc ks loc (.int (0) :: st) h := rfl
theorem s_X_layPoints_1 {x : Int32} : wps rm K Q c_X_layPoints_1 kc ks loc (.int x :: st) h = wps rm K Q c_X_layPoints_2 kc ks (eg_set1 loc 2 (.int x)) (st) h := rfl
theorem s_X_layPoints_2  : wps rm K Q c_X_layPoints_2 kc ks loc (st) h = wps rm K Q c_X_layPoints_3 kc ks loc (.int (0) :: st) h := rfl
theorem s_X_layPoints_3 {x : Int32} : wps rm K Q c_X_layPoints_3 kc ks loc (.int x :: st) h = K 4 kc ks (eg_set1 loc 3 (.int x)) (st) h := rfl
theorem s_X_layPoints_4 {x : Int32} {l0 l1 l2 : Option Value} {l : eg_Lo} : wps rm K Q c_X_layPoints_4 kc ks (l0 :: l1 :: l2 :: some (.int x) :: l) (st) h = wps rm K Q c_X_layPoints_5 kc ks (l0 :: l1 :: l2 :: some (.int x) :: l) (.int x :: st) h := rfl
theorem s_X_layPoints_5  : wps rm K Q c_X_layPoints_5 kc ks loc (st) h = wps rm K Q c_X_layPoints_6 kc ks loc (.int (2) :: st) h := rfl
theorem s_X_layPoints_6 {x y : Int32} : wps rm K Q c_X_layPoints_6 kc ks loc (.int y :: .int x :: st) h = wps rm K Q c_X_layPoints_7 kc ks loc (.int (x + y) :: st) h := rfl
theorem s_X_layPoints_7 {x : Nat} {l0 : Option Value} {l : eg_Lo} : wps rm K Q c_X_layPoints_7 kc ks (l0 :: some (.ref x) :: l) (st) h = wps rm K Q c_X_layPoints_8 kc ks (l0 :: some (.ref x) :: l) (.ref x :: st) h := rfl
theorem s_X_layPoints_8 {x : Nat} : wps rm K Q c_X_layPoints_8 kc ks loc (.ref (x + 1) :: st) h = eg_gf h x 9 2 (fun v => wps rm K Q c_X_layPoints_11 kc ks loc (v :: st) h) := rfl
theorem s_X_layPoints_11 {x y : Int32} : wps rm K Q c_X_layPoints_11 kc ks loc (.int y :: .int x :: st) h = ((y ≤ x → K 94 kc ks loc st h) ∧ (¬ y ≤ x → wps rm K Q c_X_layPoints_14 kc ks loc (st) h)) := rfl
theorem s_X_layPoints_14 {x : Nat} {l0 : Option Value} {l : eg_Lo} : wps rm K Q c_X_layPoints_14 kc ks (l0 :: some (.ref x) :: l) (st) h = wps rm K Q c_X_layPoints_15 kc ks (l0 :: some (.ref x) :: l) (.ref x :: st) h := rfl
theorem s_X_layPoints_15 {x : Nat} : wps rm K Q c_X_layPoints_15 kc ks loc (.ref (x + 1) :: st) h = eg_gf h x 9 0 (fun v => wps rm K Q c_X_layPoints_18 kc ks loc (v :: st) h) := rfl
theorem s_X_layPoints_18 {x : Int32} {l0 l1 l2 : Option Value} {l : eg_Lo} : wps rm K Q c_X_layPoints_18 kc ks (l0 :: l1 :: l2 :: some (.int x) :: l) (st) h = wps rm K Q c_X_layPoints_19 kc ks (l0 :: l1 :: l2 :: some (.int x) :: l) (.int x :: st) h := rfl
theorem s_X_layPoints_19 {x : Nat} {i : Int32} : wps rm K Q c_X_layPoints_19 kc ks loc (.int i :: .ref (x + 1) :: st) h = eg_ia h x i (fun v => wps rm K Q c_X_layPoints_20 kc ks loc (.int v :: st) h) := rfl
theorem s_X_layPoints_20 {x : Int32} : wps rm K Q c_X_layPoints_20 kc ks loc (.int x :: st) h = wps rm K Q c_X_layPoints_22 kc ks (eg_set1 loc 4 (.int x)) (st) h := rfl
theorem s_X_layPoints_22 {x : Nat} {l0 : Option Value} {l : eg_Lo} : wps rm K Q c_X_layPoints_22 kc ks (l0 :: some (.ref x) :: l) (st) h = wps rm K Q c_X_layPoints_23 kc ks (l0 :: some (.ref x) :: l) (.ref x :: st) h := rfl
theorem s_X_layPoints_23 {x : Nat} : wps rm K Q c_X_layPoints_23 kc ks loc (.ref (x + 1) :: st) h = eg_gf h x 9 0 (fun v => wps rm K Q c_X_layPoints_26 kc ks loc (v :: st) h) := rfl
theorem s_X_layPoints_26 {x : Int32} {l0 l1 l2 : Option Value} {l : eg_Lo} : wps rm K Q c_X_layPoints_26 kc ks (l0 :: l1 :: l2 :: some (.int x) :: l) (st) h = wps rm K Q c_X_layPoints_27 kc ks (l0 :: l1 :: l2 :: some (.int x) :: l) (.int x :: st) h := rfl
theorem s_X_layPoints_27  : wps rm K Q c_X_layPoints_27 kc ks loc (st) h = wps rm K Q c_X_layPoints_28 kc ks loc (.int (1) :: st) h := rfl
theorem s_X_layPoints_28 {x y : Int32} : wps rm K Q c_X_layPoints_28 kc ks loc (.int y :: .int x :: st) h = wps rm K Q c_X_layPoints_29 kc ks loc (.int (x + y) :: st) h := rfl
theorem s_X_layPoints_29 {x : Nat} {i : Int32} : wps rm K Q c_X_layPoints_29 kc ks loc (.int i :: .ref (x + 1) :: st) h = eg_ia h x i (fun v => wps rm K Q c_X_layPoints_30 kc ks loc (.int v :: st) h) := rfl
theorem s_X_layPoints_30 {x : Int32} : wps rm K Q c_X_layPoints_30 kc ks loc (.int x :: st) h = wps rm K Q c_X_layPoints_32 kc ks (eg_set1 loc 5 (.int x)) (st) h := rfl
theorem s_X_layPoints_32 {x : Nat} {l0 : Option Value} {l : eg_Lo} : wps rm K Q c_X_layPoints_32 kc ks (l0 :: some (.ref x) :: l) (st) h = wps rm K Q c_X_layPoints_33 kc ks (l0 :: some (.ref x) :: l) (.ref x :: st) h := rfl
theorem s_X_layPoints_33 {x : Nat} : wps rm K Q c_X_layPoints_33 kc ks loc (.ref (x + 1) :: st) h = eg_gf h x 9 0 (fun v => wps rm K Q c_X_layPoints_36 kc ks loc (v :: st) h) := rfl
theorem s_X_layPoints_36 {x : Int32} {l0 l1 l2 : Option Value} {l : eg_Lo} : wps rm K Q c_X_layPoints_36 kc ks (l0 :: l1 :: l2 :: some (.int x) :: l) (st) h = wps rm K Q c_X_layPoints_37 kc ks (l0 :: l1 :: l2 :: some (.int x) :: l) (.int x :: st) h := rfl
theorem s_X_layPoints_37  : wps rm K Q c_X_layPoints_37 kc ks loc (st) h = wps rm K Q c_X_layPoints_38 kc ks loc (.int (2) :: st) h := rfl
theorem s_X_layPoints_38 {x y : Int32} : wps rm K Q c_X_layPoints_38 kc ks loc (.int y :: .int x :: st) h = wps rm K Q c_X_layPoints_39 kc ks loc (.int (x + y) :: st) h := rfl
theorem s_X_layPoints_39 {x : Nat} {i : Int32} : wps rm K Q c_X_layPoints_39 kc ks loc (.int i :: .ref (x + 1) :: st) h = eg_ia h x i (fun v => wps rm K Q c_X_layPoints_40 kc ks loc (.int v :: st) h) := rfl
theorem s_X_layPoints_40 {x : Int32} : wps rm K Q c_X_layPoints_40 kc ks loc (.int x :: st) h = wps rm K Q c_X_layPoints_42 kc ks (eg_set1 loc 6 (.int x)) (st) h := rfl
theorem s_X_layPoints_42 {x : Int32} {l0 l1 l2 l3 : Option Value} {l : eg_Lo} : wps rm K Q c_X_layPoints_42 kc ks (l0 :: l1 :: l2 :: l3 :: some (.int x) :: l) (st) h = wps rm K Q c_X_layPoints_44 kc ks (l0 :: l1 :: l2 :: l3 :: some (.int x) :: l) (.int x :: st) h := rfl
theorem s_X_layPoints_44 {x : Int32} {l0 l1 l2 l3 l4 : Option Value} {l : eg_Lo} : wps rm K Q c_X_layPoints_44 kc ks (l0 :: l1 :: l2 :: l3 :: l4 :: some (.int x) :: l) (st) h = wps rm K Q c_X_layPoints_46 kc ks (l0 :: l1 :: l2 :: l3 :: l4 :: some (.int x) :: l) (.int x :: st) h := rfl
theorem s_X_layPoints_46  {a1 : Value} {a2 : Value} : wps rm K Q c_X_layPoints_46 kc ks loc (a2 :: a1 :: st) h = (st.length ≤ 4 ∧ eg_Cs n_X_isPlace [a1, a2] h (fun v h9 => wps rm K Q c_X_layPoints_49 kc ks loc (v.toList ++ st) h9)) := eg_c0_2
theorem s_X_layPoints_49 {x : Int32} : wps rm K Q c_X_layPoints_49 kc ks loc (.int x :: st) h = ((x = 0 → K 83 kc ks loc st h) ∧ (¬ x = 0 → wps rm K Q c_X_layPoints_52 kc ks loc (st) h)) := rfl
theorem s_X_layPoints_52 {x : Int32} {l0 l1 l2 l3 l4 l5 : Option Value} {l : eg_Lo} : wps rm K Q c_X_layPoints_52 kc ks (l0 :: l1 :: l2 :: l3 :: l4 :: l5 :: some (.int x) :: l) (st) h = wps rm K Q c_X_layPoints_54 kc ks (l0 :: l1 :: l2 :: l3 :: l4 :: l5 :: some (.int x) :: l) (.int x :: st) h := rfl
theorem s_X_layPoints_54  : wps rm K Q c_X_layPoints_54 kc ks loc (st) h = wps rm K Q c_X_layPoints_57 kc ks loc (.int (-300) :: st) h := rfl
theorem s_X_layPoints_57  : wps rm K Q c_X_layPoints_57 kc ks loc (st) h = wps rm K Q c_X_layPoints_60 kc ks loc (.int (300) :: st) h := rfl
theorem s_X_layPoints_60  {a1 : Value} {a2 : Value} {a3 : Value} : wps rm K Q c_X_layPoints_60 kc ks loc (a3 :: a2 :: a1 :: st) h = (st.length ≤ 4 ∧ eg_Cs n_X_isWithin [a1, a2, a3] h (fun v h9 => wps rm K Q c_X_layPoints_63 kc ks loc (v.toList ++ st) h9)) := eg_c0_3
theorem s_X_layPoints_63 {x : Int32} : wps rm K Q c_X_layPoints_63 kc ks loc (.int x :: st) h = ((x = 0 → K 83 kc ks loc st h) ∧ (¬ x = 0 → wps rm K Q c_X_layPoints_66 kc ks loc (st) h)) := rfl
theorem s_X_layPoints_66 {x : Nat} {l : eg_Lo} : wps rm K Q c_X_layPoints_66 kc ks (some (.ref x) :: l) (st) h = wps rm K Q c_X_layPoints_67 kc ks (some (.ref x) :: l) (.ref x :: st) h := rfl
theorem s_X_layPoints_67 {x : Int32} {l0 l1 l2 l3 : Option Value} {l : eg_Lo} : wps rm K Q c_X_layPoints_67 kc ks (l0 :: l1 :: l2 :: l3 :: some (.int x) :: l) (st) h = wps rm K Q c_X_layPoints_69 kc ks (l0 :: l1 :: l2 :: l3 :: some (.int x) :: l) (.int x :: st) h := rfl
theorem s_X_layPoints_69 {x : Int32} {l0 l1 l2 l3 l4 : Option Value} {l : eg_Lo} : wps rm K Q c_X_layPoints_69 kc ks (l0 :: l1 :: l2 :: l3 :: l4 :: some (.int x) :: l) (st) h = wps rm K Q c_X_layPoints_71 kc ks (l0 :: l1 :: l2 :: l3 :: l4 :: some (.int x) :: l) (.int x :: st) h := rfl
theorem s_X_layPoints_71 {x : Int32} {l0 l1 l2 l3 l4 l5 : Option Value} {l : eg_Lo} : wps rm K Q c_X_layPoints_71 kc ks (l0 :: l1 :: l2 :: l3 :: l4 :: l5 :: some (.int x) :: l) (st) h = wps rm K Q c_X_layPoints_73 kc ks (l0 :: l1 :: l2 :: l3 :: l4 :: l5 :: some (.int x) :: l) (.int x :: st) h := rfl
theorem s_X_layPoints_73  {a1 : Value} {a2 : Value} {a3 : Value} {x : Nat} : wps rm K Q c_X_layPoints_73 kc ks loc (a3 :: a2 :: a1 :: .ref (x + 1) :: st) h = (eg_cls h x 8 ∧ st.length ≤ 4 ∧ eg_Cs n_Part_add (.ref (x + 1) :: [a1, a2, a3]) h (fun v h9 => wps rm K Q c_X_layPoints_76 kc ks loc (v.toList ++ st) h9)) := eg_c1_3
theorem s_X_layPoints_76 {x : Int32} : wps rm K Q c_X_layPoints_76 kc ks loc (.int x :: st) h = wps rm K Q c_X_layPoints_77 kc ks loc (st) h := rfl
theorem s_X_layPoints_77 {x : Int32} {l0 l1 : Option Value} {l9 : eg_Lo} : wps rm K Q c_X_layPoints_77 kc ks (l0 :: l1 :: some (.int x) :: l9) (st) h = wps rm K Q c_X_layPoints_80 kc ks (eg_set1 (l0 :: l1 :: some (.int x) :: l9) 2 (.int (x + (1)))) (st) h := rfl
theorem s_X_layPoints_80  : wps rm K Q c_X_layPoints_80 kc ks loc (st) h = K 88 kc ks loc st h := rfl
theorem s_X_layPoints_83 {x : Nat} {l : eg_Lo} : wps rm K Q c_X_layPoints_83 kc ks (some (.ref x) :: l) (st) h = wps rm K Q c_X_layPoints_84 kc ks (some (.ref x) :: l) (.ref x :: st) h := rfl
theorem s_X_layPoints_84  {x : Nat} : wps rm K Q c_X_layPoints_84 kc ks loc (.ref (x + 1) :: st) h = (eg_cls h x 8 ∧ st.length ≤ 4 ∧ eg_Cs n_Part_addMissed (.ref (x + 1) :: []) h (fun v h9 => wps rm K Q c_X_layPoints_87 kc ks loc (v.toList ++ st) h9)) := eg_c1_0
theorem s_X_layPoints_87 {x : Int32} : wps rm K Q c_X_layPoints_87 kc ks loc (.int x :: st) h = wps rm K Q c_X_layPoints_88 kc ks loc (st) h := rfl
theorem s_X_layPoints_88 {x : Int32} {l0 l1 l2 : Option Value} {l9 : eg_Lo} : wps rm K Q c_X_layPoints_88 kc ks (l0 :: l1 :: l2 :: some (.int x) :: l9) (st) h = wps rm K Q c_X_layPoints_91 kc ks (eg_set1 (l0 :: l1 :: l2 :: some (.int x) :: l9) 3 (.int (x + (3)))) (st) h := rfl
theorem s_X_layPoints_91  : wps rm K Q c_X_layPoints_91 kc ks loc (st) h = K 4 kc ks loc st h := rfl
theorem s_X_layPoints_94 {x : Int32} {l0 l1 : Option Value} {l : eg_Lo} : wps rm K Q c_X_layPoints_94 kc ks (l0 :: l1 :: some (.int x) :: l) (st) h = wps rm K Q c_X_layPoints_95 kc ks (l0 :: l1 :: some (.int x) :: l) (.int x :: st) h := rfl
theorem s_X_layPoints_95 {x : Int32} : wps rm K Q c_X_layPoints_95 kc ks loc ([.int x]) h = (kc = rm.cells ∧ (0 = 1 → x = 0 ∨ x = 1) ∧ Q (some (.int x)) h) := rfl
def T_X_layPoints : List (Nat × List eg_I) := [(83, c_X_layPoints_83), (88, c_X_layPoints_88), (94, c_X_layPoints_94)]
theorem j_X_layPoints_83 {R : Nat → Nat → Nat → eg_Lo → List Value → List eg_E → Prop} {f pc0 : Nat} : eg_run rm R Q T_X_layPoints (f + 1) 83 kc ks loc st h = wps rm (eg_run rm R Q T_X_layPoints f) Q c_X_layPoints_83 kc ks loc st h := rfl
theorem j_X_layPoints_88 {R : Nat → Nat → Nat → eg_Lo → List Value → List eg_E → Prop} {f pc0 : Nat} : eg_run rm R Q T_X_layPoints (f + 1) 88 kc ks loc st h = wps rm (eg_run rm R Q T_X_layPoints f) Q c_X_layPoints_88 kc ks loc st h := rfl
theorem j_X_layPoints_94 {R : Nat → Nat → Nat → eg_Lo → List Value → List eg_E → Prop} {f pc0 : Nat} : eg_run rm R Q T_X_layPoints (f + 1) 94 kc ks loc st h = wps rm (eg_run rm R Q T_X_layPoints f) Q c_X_layPoints_94 kc ks loc st h := rfl
theorem j_X_layPoints_4 {R : Nat → Nat → Nat → eg_Lo → List Value → List eg_E → Prop} {f pc0 : Nat} : eg_run rm R Q T_X_layPoints (f + 1) 4 kc ks loc st h = R 4 kc ks loc st h := rfl
end
theorem q_X_layPoints : (T_X_layPoints.all fun q => eg_seq m_X_layPoints q.1 q.2) = true := by decide +kernel
theorem b_X_layPoints {as : List Value} {h : List eg_E} {Q : Option Value → List eg_E → Prop} (hf : (eg_fl as).length ≤ 7) (hw : wps (eg_rm m_X_layPoints) (eg_run (eg_rm m_X_layPoints) (eg_R m_X_layPoints Q (h.length + 0)) Q T_X_layPoints 5) Q c_X_layPoints_0 0 0 (eg_entry 7 as) [] h) : eg_Runs n_X_layPoints as h Q := eg_begin (d := m_X_layPoints) rfl (by decide) (by decide +kernel) q_X_layPoints hf hw
theorem p_X_layPoints_4 {Q : Option Value → List eg_E → Prop} {n0 kc ks : Nat} {loc : eg_Lo} {st : List Value} {h : List eg_E} (hw : wps (eg_rm m_X_layPoints) (eg_run (eg_rm m_X_layPoints) (eg_R m_X_layPoints Q n0) Q T_X_layPoints 5) Q c_X_layPoints_4 kc ks loc st h) : eg_R m_X_layPoints Q n0 4 kc ks loc st h := eg_go (by decide +kernel) q_X_layPoints hw
/-! ===== X_outlineFinding ===== -/
def c_X_outlineFinding_49 : List eg_I := .inl (49, 1, .lreturn, 0, 0) :: []
def c_X_outlineFinding_48 : List eg_I := .inl (48, 1, .sipush (0), 0, 0) :: c_X_outlineFinding_49
def c_X_outlineFinding_45 : List eg_I := .inl (45, 3, .goto (4), 49, 0) :: []
def c_X_outlineFinding_42 : List eg_I := .inl (42, 3, .sipush (-1000000000000000006), 158, 0) :: c_X_outlineFinding_45
def c_X_outlineFinding_39 : List eg_I := .inl (39, 3, .if_icmp .ge (9), 48, 0) :: c_X_outlineFinding_42
def c_X_outlineFinding_38 : List eg_I := .inl (38, 1, .iconst (2), 0, 0) :: c_X_outlineFinding_39
def c_X_outlineFinding_35 : List eg_I := .inl (35, 3, .getfield 282, 7, 1) :: c_X_outlineFinding_38
def c_X_outlineFinding_32 : List eg_I := .inl (32, 3, .getfield 58, 11, 7) :: c_X_outlineFinding_35
def c_X_outlineFinding_31 : List eg_I := .inl (31, 1, .aload 0, 0, 0) :: c_X_outlineFinding_32
def c_X_outlineFinding_30 : List eg_I := .inl (30, 1, .lreturn, 0, 0) :: []
def c_X_outlineFinding_27 : List eg_I := .inl (27, 3, .sipush (-1000000000000000007), 113, 0) :: c_X_outlineFinding_30
def c_X_outlineFinding_24 : List eg_I := .inl (24, 3, .ifCond .eq (7), 31, 0) :: c_X_outlineFinding_27
def c_X_outlineFinding_23 : List eg_I := .inl (23, 1, .baload, 0, 0) :: c_X_outlineFinding_24
def c_X_outlineFinding_22 : List eg_I := .inl (22, 1, .iload 2, 0, 0) :: c_X_outlineFinding_23
def c_X_outlineFinding_19 : List eg_I := .inl (19, 3, .getfield 109, 8, 3) :: c_X_outlineFinding_22
def c_X_outlineFinding_18 : List eg_I := .inl (18, 1, .aaload, 0, 0) :: c_X_outlineFinding_19
def c_X_outlineFinding_17 : List eg_I := .inl (17, 1, .iload 1, 0, 0) :: c_X_outlineFinding_18
def c_X_outlineFinding_14 : List eg_I := .inl (14, 3, .getfield 11, 11, 0) :: c_X_outlineFinding_17
def c_X_outlineFinding_13 : List eg_I := .inl (13, 1, .aload 0, 0, 0) :: c_X_outlineFinding_14
def c_X_outlineFinding_12 : List eg_I := .inl (12, 1, .lreturn, 0, 0) :: []
def c_X_outlineFinding_9 : List eg_I := .inl (9, 3, .sipush (-1000000000000000001), 84, 0) :: c_X_outlineFinding_12
def c_X_outlineFinding_6 : List eg_I := .inl (6, 3, .ifCond .ne (7), 13, 0) :: c_X_outlineFinding_9
def c_X_outlineFinding_3 : List eg_I := .inr (3, 1, 106, n_X_isPoint, 2, 11, 0, 0) :: c_X_outlineFinding_6
def c_X_outlineFinding_2 : List eg_I := .inl (2, 1, .iload 2, 0, 0) :: c_X_outlineFinding_3
def c_X_outlineFinding_1 : List eg_I := .inl (1, 1, .iload 1, 0, 0) :: c_X_outlineFinding_2
def c_X_outlineFinding_0 : List eg_I := .inl (0, 1, .aload 0, 0, 0) :: c_X_outlineFinding_1
section
variable {rm : Room} {K : Nat → Nat → Nat → eg_Lo → List Value → List eg_E → Prop} {Q : Option Value → List eg_E → Prop} {kc ks : Nat} {loc : eg_Lo} {st : List Value} {h : List eg_E}
theorem s_X_outlineFinding_0 {x : Nat} {l : eg_Lo} : wps rm K Q c_X_outlineFinding_0 kc ks (some (.ref x) :: l) (st) h = wps rm K Q c_X_outlineFinding_1 kc ks (some (.ref x) :: l) (.ref x :: st) h := rfl
theorem s_X_outlineFinding_1 {x : Int32} {l0 : Option Value} {l : eg_Lo} : wps rm K Q c_X_outlineFinding_1 kc ks (l0 :: some (.int x) :: l) (st) h = wps rm K Q c_X_outlineFinding_2 kc ks (l0 :: some (.int x) :: l) (.int x :: st) h := rfl
theorem s_X_outlineFinding_2 {x : Int32} {l0 l1 : Option Value} {l : eg_Lo} : wps rm K Q c_X_outlineFinding_2 kc ks (l0 :: l1 :: some (.int x) :: l) (st) h = wps rm K Q c_X_outlineFinding_3 kc ks (l0 :: l1 :: some (.int x) :: l) (.int x :: st) h := rfl
theorem s_X_outlineFinding_3  {a1 : Value} {a2 : Value} {x : Nat} : wps rm K Q c_X_outlineFinding_3 kc ks loc (a2 :: a1 :: .ref (x + 1) :: st) h = (eg_cls h x 11 ∧ st.length ≤ 4 ∧ eg_Cs n_X_isPoint (.ref (x + 1) :: [a1, a2]) h (fun v h9 => wps rm K Q c_X_outlineFinding_6 kc ks loc (v.toList ++ st) h9)) := eg_c1_2
theorem s_X_outlineFinding_6 {x : Int32} : wps rm K Q c_X_outlineFinding_6 kc ks loc (.int x :: st) h = ((¬ x = 0 → K 13 kc ks loc st h) ∧ (x = 0 → wps rm K Q c_X_outlineFinding_9 kc ks loc (st) h)) := rfl
theorem s_X_outlineFinding_9  : wps rm K Q c_X_outlineFinding_9 kc ks loc (st) h = wps rm K Q c_X_outlineFinding_12 kc ks loc (.long (-1000000000000000001) :: st) h := rfl
theorem s_X_outlineFinding_12 {x : Int64} : wps rm K Q c_X_outlineFinding_12 kc ks loc ([.long x]) h = (kc = rm.cells ∧ Q (some (.long x)) h) := rfl
theorem s_X_outlineFinding_13 {x : Nat} {l : eg_Lo} : wps rm K Q c_X_outlineFinding_13 kc ks (some (.ref x) :: l) (st) h = wps rm K Q c_X_outlineFinding_14 kc ks (some (.ref x) :: l) (.ref x :: st) h := rfl
theorem s_X_outlineFinding_14 {x : Nat} : wps rm K Q c_X_outlineFinding_14 kc ks loc (.ref (x + 1) :: st) h = eg_gf h x 11 0 (fun v => wps rm K Q c_X_outlineFinding_17 kc ks loc (v :: st) h) := rfl
theorem s_X_outlineFinding_17 {x : Int32} {l0 : Option Value} {l : eg_Lo} : wps rm K Q c_X_outlineFinding_17 kc ks (l0 :: some (.int x) :: l) (st) h = wps rm K Q c_X_outlineFinding_18 kc ks (l0 :: some (.int x) :: l) (.int x :: st) h := rfl
theorem s_X_outlineFinding_18 {x : Nat} {i : Int32} : wps rm K Q c_X_outlineFinding_18 kc ks loc (.int i :: .ref (x + 1) :: st) h = eg_aa h x i (fun v => wps rm K Q c_X_outlineFinding_19 kc ks loc (v :: st) h) := rfl
theorem s_X_outlineFinding_19 {x : Nat} : wps rm K Q c_X_outlineFinding_19 kc ks loc (.ref (x + 1) :: st) h = eg_gf h x 8 3 (fun v => wps rm K Q c_X_outlineFinding_22 kc ks loc (v :: st) h) := rfl
theorem s_X_outlineFinding_22 {x : Int32} {l0 l1 : Option Value} {l : eg_Lo} : wps rm K Q c_X_outlineFinding_22 kc ks (l0 :: l1 :: some (.int x) :: l) (st) h = wps rm K Q c_X_outlineFinding_23 kc ks (l0 :: l1 :: some (.int x) :: l) (.int x :: st) h := rfl
theorem s_X_outlineFinding_23 {x : Nat} {i : Int32} : wps rm K Q c_X_outlineFinding_23 kc ks loc (.int i :: .ref (x + 1) :: st) h = eg_ba h x i (fun v => wps rm K Q c_X_outlineFinding_24 kc ks loc (.int v :: st) h) := rfl
theorem s_X_outlineFinding_24 {x : Int32} : wps rm K Q c_X_outlineFinding_24 kc ks loc (.int x :: st) h = ((x = 0 → K 31 kc ks loc st h) ∧ (¬ x = 0 → wps rm K Q c_X_outlineFinding_27 kc ks loc (st) h)) := rfl
theorem s_X_outlineFinding_27  : wps rm K Q c_X_outlineFinding_27 kc ks loc (st) h = wps rm K Q c_X_outlineFinding_30 kc ks loc (.long (-1000000000000000007) :: st) h := rfl
theorem s_X_outlineFinding_30 {x : Int64} : wps rm K Q c_X_outlineFinding_30 kc ks loc ([.long x]) h = (kc = rm.cells ∧ Q (some (.long x)) h) := rfl
theorem s_X_outlineFinding_31 {x : Nat} {l : eg_Lo} : wps rm K Q c_X_outlineFinding_31 kc ks (some (.ref x) :: l) (st) h = wps rm K Q c_X_outlineFinding_32 kc ks (some (.ref x) :: l) (.ref x :: st) h := rfl
theorem s_X_outlineFinding_32 {x : Nat} : wps rm K Q c_X_outlineFinding_32 kc ks loc (.ref (x + 1) :: st) h = eg_gf h x 11 7 (fun v => wps rm K Q c_X_outlineFinding_35 kc ks loc (v :: st) h) := rfl
theorem s_X_outlineFinding_35 {x : Nat} : wps rm K Q c_X_outlineFinding_35 kc ks loc (.ref (x + 1) :: st) h = eg_gf h x 7 1 (fun v => wps rm K Q c_X_outlineFinding_38 kc ks loc (v :: st) h) := rfl
theorem s_X_outlineFinding_38  : wps rm K Q c_X_outlineFinding_38 kc ks loc (st) h = wps rm K Q c_X_outlineFinding_39 kc ks loc (.int (2) :: st) h := rfl
theorem s_X_outlineFinding_39 {x y : Int32} : wps rm K Q c_X_outlineFinding_39 kc ks loc (.int y :: .int x :: st) h = ((y ≤ x → K 48 kc ks loc st h) ∧ (¬ y ≤ x → wps rm K Q c_X_outlineFinding_42 kc ks loc (st) h)) := rfl
theorem s_X_outlineFinding_42  : wps rm K Q c_X_outlineFinding_42 kc ks loc (st) h = wps rm K Q c_X_outlineFinding_45 kc ks loc (.long (-1000000000000000006) :: st) h := rfl
theorem s_X_outlineFinding_45  : wps rm K Q c_X_outlineFinding_45 kc ks loc (st) h = K 49 kc ks loc st h := rfl
theorem s_X_outlineFinding_48  : wps rm K Q c_X_outlineFinding_48 kc ks loc (st) h = wps rm K Q c_X_outlineFinding_49 kc ks loc (.long (0) :: st) h := rfl
theorem s_X_outlineFinding_49 {x : Int64} : wps rm K Q c_X_outlineFinding_49 kc ks loc ([.long x]) h = (kc = rm.cells ∧ Q (some (.long x)) h) := rfl
def T_X_outlineFinding : List (Nat × List eg_I) := [(13, c_X_outlineFinding_13), (31, c_X_outlineFinding_31), (48, c_X_outlineFinding_48), (49, c_X_outlineFinding_49)]
theorem j_X_outlineFinding_13 {R : Nat → Nat → Nat → eg_Lo → List Value → List eg_E → Prop} {f pc0 : Nat} : eg_run rm R Q T_X_outlineFinding (f + 1) 13 kc ks loc st h = wps rm (eg_run rm R Q T_X_outlineFinding f) Q c_X_outlineFinding_13 kc ks loc st h := rfl
theorem j_X_outlineFinding_31 {R : Nat → Nat → Nat → eg_Lo → List Value → List eg_E → Prop} {f pc0 : Nat} : eg_run rm R Q T_X_outlineFinding (f + 1) 31 kc ks loc st h = wps rm (eg_run rm R Q T_X_outlineFinding f) Q c_X_outlineFinding_31 kc ks loc st h := rfl
theorem j_X_outlineFinding_48 {R : Nat → Nat → Nat → eg_Lo → List Value → List eg_E → Prop} {f pc0 : Nat} : eg_run rm R Q T_X_outlineFinding (f + 1) 48 kc ks loc st h = wps rm (eg_run rm R Q T_X_outlineFinding f) Q c_X_outlineFinding_48 kc ks loc st h := rfl
theorem j_X_outlineFinding_49 {R : Nat → Nat → Nat → eg_Lo → List Value → List eg_E → Prop} {f pc0 : Nat} : eg_run rm R Q T_X_outlineFinding (f + 1) 49 kc ks loc st h = wps rm (eg_run rm R Q T_X_outlineFinding f) Q c_X_outlineFinding_49 kc ks loc st h := rfl
end
theorem q_X_outlineFinding : (T_X_outlineFinding.all fun q => eg_seq m_X_outlineFinding q.1 q.2) = true := by decide +kernel
theorem b_X_outlineFinding {as : List Value} {h : List eg_E} {Q : Option Value → List eg_E → Prop} (hf : (eg_fl as).length ≤ 3) (hw : wps (eg_rm m_X_outlineFinding) (eg_run (eg_rm m_X_outlineFinding) (eg_R m_X_outlineFinding Q (h.length + 0)) Q T_X_outlineFinding 6) Q c_X_outlineFinding_0 0 0 (eg_entry 3 as) [] h) : eg_Runs n_X_outlineFinding as h Q := eg_begin (d := m_X_outlineFinding) rfl (by decide) (by decide +kernel) q_X_outlineFinding hf hw
/-! ===== X_figureCount ===== -/
def c_X_figureCount_32 : List eg_I := .inl (32, 1, .ireturn, 0, 0) :: []
def c_X_figureCount_31 : List eg_I := .inl (31, 1, .iload 1, 0, 0) :: c_X_figureCount_32
def c_X_figureCount_28 : List eg_I := .inl (28, 3, .goto (-24), 4, 0) :: []
def c_X_figureCount_25 : List eg_I := .inl (25, 3, .iinc 2 (1), 0, 0) :: c_X_figureCount_28
def c_X_figureCount_22 : List eg_I := .inl (22, 3, .iinc 1 (1), 0, 0) :: c_X_figureCount_25
def c_X_figureCount_19 : List eg_I := .inl (19, 3, .ifCond .eq (6), 25, 0) :: c_X_figureCount_22
def c_X_figureCount_16 : List eg_I := .inr (16, 1, 218, n_Fig_isOne, 0, 2, 0, 0) :: c_X_figureCount_19
def c_X_figureCount_15 : List eg_I := .inl (15, 1, .aaload, 0, 0) :: c_X_figureCount_16
def c_X_figureCount_14 : List eg_I := .inl (14, 1, .iload 2, 0, 0) :: c_X_figureCount_15
def c_X_figureCount_11 : List eg_I := .inl (11, 3, .getfield 23, 11, 2) :: c_X_figureCount_14
def c_X_figureCount_10 : List eg_I := .inl (10, 1, .aload 0, 0, 0) :: c_X_figureCount_11
def c_X_figureCount_7 : List eg_I := .inl (7, 3, .if_icmp .ge (24), 31, 0) :: c_X_figureCount_10
def c_X_figureCount_5 : List eg_I := .inl (5, 2, .iconst (6), 0, 0) :: c_X_figureCount_7
def c_X_figureCount_4 : List eg_I := .inl (4, 1, .iload 2, 0, 0) :: c_X_figureCount_5
def c_X_figureCount_3 : List eg_I := .inl (3, 1, .istore 2, 0, 0) :: [.inl (4, 0, .nop, 0, 0)]
def c_X_figureCount_2 : List eg_I := .inl (2, 1, .iconst (0), 0, 0) :: c_X_figureCount_3
def c_X_figureCount_1 : List eg_I := .inl (1, 1, .istore 1, 0, 0) :: c_X_figureCount_2
def c_X_figureCount_0 : List eg_I := .inl (0, 1, .iconst (0), 0, 0) :: c_X_figureCount_1
section
variable {rm : Room} {K : Nat → Nat → Nat → eg_Lo → List Value → List eg_E → Prop} {Q : Option Value → List eg_E → Prop} {kc ks : Nat} {loc : eg_Lo} {st : List Value} {h : List eg_E}
theorem s_X_figureCount_0  : wps rm K Q c_X_figureCount_0 kc ks loc (st) h = wps rm K Q c_X_figureCount_1 kc ks loc (.int (0) :: st) h := rfl
theorem s_X_figureCount_1 {x : Int32} : wps rm K Q c_X_figureCount_1 kc ks loc (.int x :: st) h = wps rm K Q c_X_figureCount_2 kc ks (eg_set1 loc 1 (.int x)) (st) h := rfl
theorem s_X_figureCount_2  : wps rm K Q c_X_figureCount_2 kc ks loc (st) h = wps rm K Q c_X_figureCount_3 kc ks loc (.int (0) :: st) h := rfl
theorem s_X_figureCount_3 {x : Int32} : wps rm K Q c_X_figureCount_3 kc ks loc (.int x :: st) h = K 4 kc ks (eg_set1 loc 2 (.int x)) (st) h := rfl
theorem s_X_figureCount_4 {x : Int32} {l0 l1 : Option Value} {l : eg_Lo} : wps rm K Q c_X_figureCount_4 kc ks (l0 :: l1 :: some (.int x) :: l) (st) h = wps rm K Q c_X_figureCount_5 kc ks (l0 :: l1 :: some (.int x) :: l) (.int x :: st) h := rfl
theorem s_X_figureCount_5  : wps rm K Q c_X_figureCount_5 kc ks loc (st) h = wps rm K Q c_X_figureCount_7 kc ks loc (.int (6) :: st) h := rfl
theorem s_X_figureCount_7 {x y : Int32} : wps rm K Q c_X_figureCount_7 kc ks loc (.int y :: .int x :: st) h = ((y ≤ x → K 31 kc ks loc st h) ∧ (¬ y ≤ x → wps rm K Q c_X_figureCount_10 kc ks loc (st) h)) := rfl
theorem s_X_figureCount_10 {x : Nat} {l : eg_Lo} : wps rm K Q c_X_figureCount_10 kc ks (some (.ref x) :: l) (st) h = wps rm K Q c_X_figureCount_11 kc ks (some (.ref x) :: l) (.ref x :: st) h := rfl
theorem s_X_figureCount_11 {x : Nat} : wps rm K Q c_X_figureCount_11 kc ks loc (.ref (x + 1) :: st) h = eg_gf h x 11 2 (fun v => wps rm K Q c_X_figureCount_14 kc ks loc (v :: st) h) := rfl
theorem s_X_figureCount_14 {x : Int32} {l0 l1 : Option Value} {l : eg_Lo} : wps rm K Q c_X_figureCount_14 kc ks (l0 :: l1 :: some (.int x) :: l) (st) h = wps rm K Q c_X_figureCount_15 kc ks (l0 :: l1 :: some (.int x) :: l) (.int x :: st) h := rfl
theorem s_X_figureCount_15 {x : Nat} {i : Int32} : wps rm K Q c_X_figureCount_15 kc ks loc (.int i :: .ref (x + 1) :: st) h = eg_aa h x i (fun v => wps rm K Q c_X_figureCount_16 kc ks loc (v :: st) h) := rfl
theorem s_X_figureCount_16  {x : Nat} : wps rm K Q c_X_figureCount_16 kc ks loc (.ref (x + 1) :: st) h = (eg_cls h x 2 ∧ st.length ≤ 4 ∧ eg_Cs n_Fig_isOne (.ref (x + 1) :: []) h (fun v h9 => wps rm K Q c_X_figureCount_19 kc ks loc (v.toList ++ st) h9)) := eg_c1_0
theorem s_X_figureCount_19 {x : Int32} : wps rm K Q c_X_figureCount_19 kc ks loc (.int x :: st) h = ((x = 0 → K 25 kc ks loc st h) ∧ (¬ x = 0 → wps rm K Q c_X_figureCount_22 kc ks loc (st) h)) := rfl
theorem s_X_figureCount_22 {x : Int32} {l0 : Option Value} {l9 : eg_Lo} : wps rm K Q c_X_figureCount_22 kc ks (l0 :: some (.int x) :: l9) (st) h = wps rm K Q c_X_figureCount_25 kc ks (eg_set1 (l0 :: some (.int x) :: l9) 1 (.int (x + (1)))) (st) h := rfl
theorem s_X_figureCount_25 {x : Int32} {l0 l1 : Option Value} {l9 : eg_Lo} : wps rm K Q c_X_figureCount_25 kc ks (l0 :: l1 :: some (.int x) :: l9) (st) h = wps rm K Q c_X_figureCount_28 kc ks (eg_set1 (l0 :: l1 :: some (.int x) :: l9) 2 (.int (x + (1)))) (st) h := rfl
theorem s_X_figureCount_28  : wps rm K Q c_X_figureCount_28 kc ks loc (st) h = K 4 kc ks loc st h := rfl
theorem s_X_figureCount_31 {x : Int32} {l0 : Option Value} {l : eg_Lo} : wps rm K Q c_X_figureCount_31 kc ks (l0 :: some (.int x) :: l) (st) h = wps rm K Q c_X_figureCount_32 kc ks (l0 :: some (.int x) :: l) (.int x :: st) h := rfl
theorem s_X_figureCount_32 {x : Int32} : wps rm K Q c_X_figureCount_32 kc ks loc ([.int x]) h = (kc = rm.cells ∧ (0 = 1 → x = 0 ∨ x = 1) ∧ Q (some (.int x)) h) := rfl
def T_X_figureCount : List (Nat × List eg_I) := [(25, c_X_figureCount_25), (31, c_X_figureCount_31)]
theorem j_X_figureCount_25 {R : Nat → Nat → Nat → eg_Lo → List Value → List eg_E → Prop} {f pc0 : Nat} : eg_run rm R Q T_X_figureCount (f + 1) 25 kc ks loc st h = wps rm (eg_run rm R Q T_X_figureCount f) Q c_X_figureCount_25 kc ks loc st h := rfl
theorem j_X_figureCount_31 {R : Nat → Nat → Nat → eg_Lo → List Value → List eg_E → Prop} {f pc0 : Nat} : eg_run rm R Q T_X_figureCount (f + 1) 31 kc ks loc st h = wps rm (eg_run rm R Q T_X_figureCount f) Q c_X_figureCount_31 kc ks loc st h := rfl
theorem j_X_figureCount_4 {R : Nat → Nat → Nat → eg_Lo → List Value → List eg_E → Prop} {f pc0 : Nat} : eg_run rm R Q T_X_figureCount (f + 1) 4 kc ks loc st h = R 4 kc ks loc st h := rfl
end
theorem q_X_figureCount : (T_X_figureCount.all fun q => eg_seq m_X_figureCount q.1 q.2) = true := by decide +kernel
theorem b_X_figureCount {as : List Value} {h : List eg_E} {Q : Option Value → List eg_E → Prop} (hf : (eg_fl as).length ≤ 3) (hw : wps (eg_rm m_X_figureCount) (eg_run (eg_rm m_X_figureCount) (eg_R m_X_figureCount Q (h.length + 0)) Q T_X_figureCount 4) Q c_X_figureCount_0 0 0 (eg_entry 3 as) [] h) : eg_Runs n_X_figureCount as h Q := eg_begin (d := m_X_figureCount) rfl (by decide) (by decide +kernel) q_X_figureCount hf hw
theorem p_X_figureCount_4 {Q : Option Value → List eg_E → Prop} {n0 kc ks : Nat} {loc : eg_Lo} {st : List Value} {h : List eg_E} (hw : wps (eg_rm m_X_figureCount) (eg_run (eg_rm m_X_figureCount) (eg_R m_X_figureCount Q n0) Q T_X_figureCount 4) Q c_X_figureCount_4 kc ks loc st h) : eg_R m_X_figureCount Q n0 4 kc ks loc st h := eg_go (by decide +kernel) q_X_figureCount hw
/-! ===== Math_floorDiv ===== -/
def c_Math_floorDiv_22 : List eg_I := .inl (22, 1, .ireturn, 0, 0) :: []
def c_Math_floorDiv_21 : List eg_I := .inl (21, 1, .iload 2, 0, 0) :: c_Math_floorDiv_22
def c_Math_floorDiv_20 : List eg_I := .inl (20, 1, .ireturn, 0, 0) :: []
def c_Math_floorDiv_19 : List eg_I := .inl (19, 1, .isub, 0, 0) :: c_Math_floorDiv_20
def c_Math_floorDiv_18 : List eg_I := .inl (18, 1, .iconst (1), 0, 0) :: c_Math_floorDiv_19
def c_Math_floorDiv_17 : List eg_I := .inl (17, 1, .iload 2, 0, 0) :: c_Math_floorDiv_18
def c_Math_floorDiv_14 : List eg_I := .inl (14, 3, .if_icmp .eq (7), 21, 0) :: c_Math_floorDiv_17
def c_Math_floorDiv_13 : List eg_I := .inl (13, 1, .iload 0, 0, 0) :: c_Math_floorDiv_14
def c_Math_floorDiv_12 : List eg_I := .inl (12, 1, .imul, 0, 0) :: c_Math_floorDiv_13
def c_Math_floorDiv_11 : List eg_I := .inl (11, 1, .iload 1, 0, 0) :: c_Math_floorDiv_12
def c_Math_floorDiv_10 : List eg_I := .inl (10, 1, .iload 2, 0, 0) :: c_Math_floorDiv_11
def c_Math_floorDiv_7 : List eg_I := .inl (7, 3, .ifCond .ge (14), 21, 0) :: c_Math_floorDiv_10
def c_Math_floorDiv_6 : List eg_I := .inl (6, 1, .ixor, 0, 0) :: c_Math_floorDiv_7
def c_Math_floorDiv_5 : List eg_I := .inl (5, 1, .iload 1, 0, 0) :: c_Math_floorDiv_6
def c_Math_floorDiv_4 : List eg_I := .inl (4, 1, .iload 0, 0, 0) :: c_Math_floorDiv_5
def c_Math_floorDiv_3 : List eg_I := .inl (3, 1, .istore 2, 0, 0) :: c_Math_floorDiv_4
def c_Math_floorDiv_2 : List eg_I := .inl (2, 1, .idiv, 0, 0) :: c_Math_floorDiv_3
def c_Math_floorDiv_1 : List eg_I := .inl (1, 1, .iload 1, 0, 0) :: c_Math_floorDiv_2
def c_Math_floorDiv_0 : List eg_I := .inl (0, 1, .iload 0, 0, 0) :: c_Math_floorDiv_1
section
variable {rm : Room} {K : Nat → Nat → Nat → eg_Lo → List Value → List eg_E → Prop} {Q : Option Value → List eg_E → Prop} {kc ks : Nat} {loc : eg_Lo} {st : List Value} {h : List eg_E}
theorem s_Math_floorDiv_0 {x : Int32} {l : eg_Lo} : wps rm K Q c_Math_floorDiv_0 kc ks (some (.int x) :: l) (st) h = wps rm K Q c_Math_floorDiv_1 kc ks (some (.int x) :: l) (.int x :: st) h := rfl
theorem s_Math_floorDiv_1 {x : Int32} {l0 : Option Value} {l : eg_Lo} : wps rm K Q c_Math_floorDiv_1 kc ks (l0 :: some (.int x) :: l) (st) h = wps rm K Q c_Math_floorDiv_2 kc ks (l0 :: some (.int x) :: l) (.int x :: st) h := rfl
theorem s_Math_floorDiv_2 {x y : Int32} : wps rm K Q c_Math_floorDiv_2 kc ks loc (.int y :: .int x :: st) h = (¬ y = 0 ∧ wps rm K Q c_Math_floorDiv_3 kc ks loc (.int (x / y) :: st) h) := rfl
theorem s_Math_floorDiv_3 {x : Int32} : wps rm K Q c_Math_floorDiv_3 kc ks loc (.int x :: st) h = wps rm K Q c_Math_floorDiv_4 kc ks (eg_set1 loc 2 (.int x)) (st) h := rfl
theorem s_Math_floorDiv_4 {x : Int32} {l : eg_Lo} : wps rm K Q c_Math_floorDiv_4 kc ks (some (.int x) :: l) (st) h = wps rm K Q c_Math_floorDiv_5 kc ks (some (.int x) :: l) (.int x :: st) h := rfl
theorem s_Math_floorDiv_5 {x : Int32} {l0 : Option Value} {l : eg_Lo} : wps rm K Q c_Math_floorDiv_5 kc ks (l0 :: some (.int x) :: l) (st) h = wps rm K Q c_Math_floorDiv_6 kc ks (l0 :: some (.int x) :: l) (.int x :: st) h := rfl
theorem s_Math_floorDiv_6 {x y : Int32} : wps rm K Q c_Math_floorDiv_6 kc ks loc (.int y :: .int x :: st) h = wps rm K Q c_Math_floorDiv_7 kc ks loc (.int (x ^^^ y) :: st) h := rfl
theorem s_Math_floorDiv_7 {x : Int32} : wps rm K Q c_Math_floorDiv_7 kc ks loc (.int x :: st) h = ((0 ≤ x → K 21 kc ks loc st h) ∧ (¬ 0 ≤ x → wps rm K Q c_Math_floorDiv_10 kc ks loc (st) h)) := rfl
theorem s_Math_floorDiv_10 {x : Int32} {l0 l1 : Option Value} {l : eg_Lo} : wps rm K Q c_Math_floorDiv_10 kc ks (l0 :: l1 :: some (.int x) :: l) (st) h = wps rm K Q c_Math_floorDiv_11 kc ks (l0 :: l1 :: some (.int x) :: l) (.int x :: st) h := rfl
theorem s_Math_floorDiv_11 {x : Int32} {l0 : Option Value} {l : eg_Lo} : wps rm K Q c_Math_floorDiv_11 kc ks (l0 :: some (.int x) :: l) (st) h = wps rm K Q c_Math_floorDiv_12 kc ks (l0 :: some (.int x) :: l) (.int x :: st) h := rfl
theorem s_Math_floorDiv_12 {x y : Int32} : wps rm K Q c_Math_floorDiv_12 kc ks loc (.int y :: .int x :: st) h = wps rm K Q c_Math_floorDiv_13 kc ks loc (.int (x * y) :: st) h := rfl
theorem s_Math_floorDiv_13 {x : Int32} {l : eg_Lo} : wps rm K Q c_Math_floorDiv_13 kc ks (some (.int x) :: l) (st) h = wps rm K Q c_Math_floorDiv_14 kc ks (some (.int x) :: l) (.int x :: st) h := rfl
theorem s_Math_floorDiv_14 {x y : Int32} : wps rm K Q c_Math_floorDiv_14 kc ks loc (.int y :: .int x :: st) h = ((x = y → K 21 kc ks loc st h) ∧ (¬ x = y → wps rm K Q c_Math_floorDiv_17 kc ks loc (st) h)) := rfl
theorem s_Math_floorDiv_17 {x : Int32} {l0 l1 : Option Value} {l : eg_Lo} : wps rm K Q c_Math_floorDiv_17 kc ks (l0 :: l1 :: some (.int x) :: l) (st) h = wps rm K Q c_Math_floorDiv_18 kc ks (l0 :: l1 :: some (.int x) :: l) (.int x :: st) h := rfl
theorem s_Math_floorDiv_18  : wps rm K Q c_Math_floorDiv_18 kc ks loc (st) h = wps rm K Q c_Math_floorDiv_19 kc ks loc (.int (1) :: st) h := rfl
theorem s_Math_floorDiv_19 {x y : Int32} : wps rm K Q c_Math_floorDiv_19 kc ks loc (.int y :: .int x :: st) h = wps rm K Q c_Math_floorDiv_20 kc ks loc (.int (x - y) :: st) h := rfl
theorem s_Math_floorDiv_20 {x : Int32} : wps rm K Q c_Math_floorDiv_20 kc ks loc ([.int x]) h = (kc = rm.cells ∧ (0 = 1 → x = 0 ∨ x = 1) ∧ Q (some (.int x)) h) := rfl
theorem s_Math_floorDiv_21 {x : Int32} {l0 l1 : Option Value} {l : eg_Lo} : wps rm K Q c_Math_floorDiv_21 kc ks (l0 :: l1 :: some (.int x) :: l) (st) h = wps rm K Q c_Math_floorDiv_22 kc ks (l0 :: l1 :: some (.int x) :: l) (.int x :: st) h := rfl
theorem s_Math_floorDiv_22 {x : Int32} : wps rm K Q c_Math_floorDiv_22 kc ks loc ([.int x]) h = (kc = rm.cells ∧ (0 = 1 → x = 0 ∨ x = 1) ∧ Q (some (.int x)) h) := rfl
def T_Math_floorDiv : List (Nat × List eg_I) := [(21, c_Math_floorDiv_21)]
theorem j_Math_floorDiv_21 {R : Nat → Nat → Nat → eg_Lo → List Value → List eg_E → Prop} {f pc0 : Nat} : eg_run rm R Q T_Math_floorDiv (f + 1) 21 kc ks loc st h = wps rm (eg_run rm R Q T_Math_floorDiv f) Q c_Math_floorDiv_21 kc ks loc st h := rfl
end
theorem q_Math_floorDiv : (T_Math_floorDiv.all fun q => eg_seq m_Math_floorDiv q.1 q.2) = true := by decide +kernel
theorem b_Math_floorDiv {as : List Value} {h : List eg_E} {Q : Option Value → List eg_E → Prop} (hf : (eg_fl as).length ≤ 3) (hw : wps (eg_rm m_Math_floorDiv) (eg_run (eg_rm m_Math_floorDiv) (eg_R m_Math_floorDiv Q (h.length + 0)) Q T_Math_floorDiv 3) Q c_Math_floorDiv_0 0 0 (eg_entry 3 as) [] h) : eg_Runs n_Math_floorDiv as h Q := eg_begin (d := m_Math_floorDiv) rfl (by decide) (by decide +kernel) q_Math_floorDiv hf hw
/-! ===== Math_abs_I ===== -/
def c_Math_abs_I_10 : List eg_I := .inl (10, 1, .ireturn, 0, 0) :: []
def c_Math_abs_I_9 : List eg_I := .inl (9, 1, .iload 0, 0, 0) :: c_Math_abs_I_10
def c_Math_abs_I_6 : List eg_I := .inl (6, 3, .goto (4), 10, 0) :: []
def c_Math_abs_I_5 : List eg_I := .inl (5, 1, .ineg, 0, 0) :: c_Math_abs_I_6
def c_Math_abs_I_4 : List eg_I := .inl (4, 1, .iload 0, 0, 0) :: c_Math_abs_I_5
def c_Math_abs_I_1 : List eg_I := .inl (1, 3, .ifCond .ge (8), 9, 0) :: c_Math_abs_I_4
def c_Math_abs_I_0 : List eg_I := .inl (0, 1, .iload 0, 0, 0) :: c_Math_abs_I_1
section
variable {rm : Room} {K : Nat → Nat → Nat → eg_Lo → List Value → List eg_E → Prop} {Q : Option Value → List eg_E → Prop} {kc ks : Nat} {loc : eg_Lo} {st : List Value} {h : List eg_E}
theorem s_Math_abs_I_0 {x : Int32} {l : eg_Lo} : wps rm K Q c_Math_abs_I_0 kc ks (some (.int x) :: l) (st) h = wps rm K Q c_Math_abs_I_1 kc ks (some (.int x) :: l) (.int x :: st) h := rfl
theorem s_Math_abs_I_1 {x : Int32} : wps rm K Q c_Math_abs_I_1 kc ks loc (.int x :: st) h = ((0 ≤ x → K 9 kc ks loc st h) ∧ (¬ 0 ≤ x → wps rm K Q c_Math_abs_I_4 kc ks loc (st) h)) := rfl
theorem s_Math_abs_I_4 {x : Int32} {l : eg_Lo} : wps rm K Q c_Math_abs_I_4 kc ks (some (.int x) :: l) (st) h = wps rm K Q c_Math_abs_I_5 kc ks (some (.int x) :: l) (.int x :: st) h := rfl
theorem s_Math_abs_I_5 {x : Int32} : wps rm K Q c_Math_abs_I_5 kc ks loc (.int x :: st) h = wps rm K Q c_Math_abs_I_6 kc ks loc (.int (-x) :: st) h := rfl
theorem s_Math_abs_I_6  : wps rm K Q c_Math_abs_I_6 kc ks loc (st) h = K 10 kc ks loc st h := rfl
theorem s_Math_abs_I_9 {x : Int32} {l : eg_Lo} : wps rm K Q c_Math_abs_I_9 kc ks (some (.int x) :: l) (st) h = wps rm K Q c_Math_abs_I_10 kc ks (some (.int x) :: l) (.int x :: st) h := rfl
theorem s_Math_abs_I_10 {x : Int32} : wps rm K Q c_Math_abs_I_10 kc ks loc ([.int x]) h = (kc = rm.cells ∧ (0 = 1 → x = 0 ∨ x = 1) ∧ Q (some (.int x)) h) := rfl
def T_Math_abs_I : List (Nat × List eg_I) := [(9, c_Math_abs_I_9), (10, c_Math_abs_I_10)]
theorem j_Math_abs_I_9 {R : Nat → Nat → Nat → eg_Lo → List Value → List eg_E → Prop} {f pc0 : Nat} : eg_run rm R Q T_Math_abs_I (f + 1) 9 kc ks loc st h = wps rm (eg_run rm R Q T_Math_abs_I f) Q c_Math_abs_I_9 kc ks loc st h := rfl
theorem j_Math_abs_I_10 {R : Nat → Nat → Nat → eg_Lo → List Value → List eg_E → Prop} {f pc0 : Nat} : eg_run rm R Q T_Math_abs_I (f + 1) 10 kc ks loc st h = wps rm (eg_run rm R Q T_Math_abs_I f) Q c_Math_abs_I_10 kc ks loc st h := rfl
end
theorem q_Math_abs_I : (T_Math_abs_I.all fun q => eg_seq m_Math_abs_I q.1 q.2) = true := by decide +kernel
theorem b_Math_abs_I {as : List Value} {h : List eg_E} {Q : Option Value → List eg_E → Prop} (hf : (eg_fl as).length ≤ 1) (hw : wps (eg_rm m_Math_abs_I) (eg_run (eg_rm m_Math_abs_I) (eg_R m_Math_abs_I Q (h.length + 0)) Q T_Math_abs_I 4) Q c_Math_abs_I_0 0 0 (eg_entry 1 as) [] h) : eg_Runs n_Math_abs_I as h Q := eg_begin (d := m_Math_abs_I) rfl (by decide) (by decide +kernel) q_Math_abs_I hf hw
/-! ===== Math_abs_J ===== -/
def c_Math_abs_J_12 : List eg_I := .inl (12, 1, .lreturn, 0, 0) :: []
def c_Math_abs_J_11 : List eg_I := .inl (11, 1, .lload 0, 0, 0) :: c_Math_abs_J_12
def c_Math_abs_J_8 : List eg_I := .inl (8, 3, .goto (4), 12, 0) :: []
def c_Math_abs_J_7 : List eg_I := .inl (7, 1, .lneg, 0, 0) :: c_Math_abs_J_8
def c_Math_abs_J_6 : List eg_I := .inl (6, 1, .lload 0, 0, 0) :: c_Math_abs_J_7
def c_Math_abs_J_3 : List eg_I := .inl (3, 3, .ifCond .ge (8), 11, 0) :: c_Math_abs_J_6
def c_Math_abs_J_2 : List eg_I := .inl (2, 1, .lcmp, 0, 0) :: c_Math_abs_J_3
def c_Math_abs_J_1 : List eg_I := .inl (1, 1, .sipush (0), 0, 0) :: c_Math_abs_J_2
def c_Math_abs_J_0 : List eg_I := .inl (0, 1, .lload 0, 0, 0) :: c_Math_abs_J_1
section
variable {rm : Room} {K : Nat → Nat → Nat → eg_Lo → List Value → List eg_E → Prop} {Q : Option Value → List eg_E → Prop} {kc ks : Nat} {loc : eg_Lo} {st : List Value} {h : List eg_E}
theorem s_Math_abs_J_0 {x : Int64} {l : eg_Lo} : wps rm K Q c_Math_abs_J_0 kc ks (some (.long x) :: l) (st) h = wps rm K Q c_Math_abs_J_1 kc ks (some (.long x) :: l) (.long x :: st) h := rfl
theorem s_Math_abs_J_1  : wps rm K Q c_Math_abs_J_1 kc ks loc (st) h = wps rm K Q c_Math_abs_J_2 kc ks loc (.long (0) :: st) h := rfl
theorem s_Math_abs_J_2 {x y : Int64} : wps rm K Q c_Math_abs_J_2 kc ks loc (.long y :: .long x :: st) h = wps rm K Q c_Math_abs_J_3 kc ks loc (.int (lg_cmp x y) :: st) h := rfl
theorem s_Math_abs_J_3 {x : Int32} : wps rm K Q c_Math_abs_J_3 kc ks loc (.int x :: st) h = ((0 ≤ x → K 11 kc ks loc st h) ∧ (¬ 0 ≤ x → wps rm K Q c_Math_abs_J_6 kc ks loc (st) h)) := rfl
theorem s_Math_abs_J_6 {x : Int64} {l : eg_Lo} : wps rm K Q c_Math_abs_J_6 kc ks (some (.long x) :: l) (st) h = wps rm K Q c_Math_abs_J_7 kc ks (some (.long x) :: l) (.long x :: st) h := rfl
theorem s_Math_abs_J_7 {x : Int64} : wps rm K Q c_Math_abs_J_7 kc ks loc (.long x :: st) h = wps rm K Q c_Math_abs_J_8 kc ks loc (.long (-x) :: st) h := rfl
theorem s_Math_abs_J_8  : wps rm K Q c_Math_abs_J_8 kc ks loc (st) h = K 12 kc ks loc st h := rfl
theorem s_Math_abs_J_11 {x : Int64} {l : eg_Lo} : wps rm K Q c_Math_abs_J_11 kc ks (some (.long x) :: l) (st) h = wps rm K Q c_Math_abs_J_12 kc ks (some (.long x) :: l) (.long x :: st) h := rfl
theorem s_Math_abs_J_12 {x : Int64} : wps rm K Q c_Math_abs_J_12 kc ks loc ([.long x]) h = (kc = rm.cells ∧ Q (some (.long x)) h) := rfl
def T_Math_abs_J : List (Nat × List eg_I) := [(11, c_Math_abs_J_11), (12, c_Math_abs_J_12)]
theorem j_Math_abs_J_11 {R : Nat → Nat → Nat → eg_Lo → List Value → List eg_E → Prop} {f pc0 : Nat} : eg_run rm R Q T_Math_abs_J (f + 1) 11 kc ks loc st h = wps rm (eg_run rm R Q T_Math_abs_J f) Q c_Math_abs_J_11 kc ks loc st h := rfl
theorem j_Math_abs_J_12 {R : Nat → Nat → Nat → eg_Lo → List Value → List eg_E → Prop} {f pc0 : Nat} : eg_run rm R Q T_Math_abs_J (f + 1) 12 kc ks loc st h = wps rm (eg_run rm R Q T_Math_abs_J f) Q c_Math_abs_J_12 kc ks loc st h := rfl
end
theorem q_Math_abs_J : (T_Math_abs_J.all fun q => eg_seq m_Math_abs_J q.1 q.2) = true := by decide +kernel
theorem b_Math_abs_J {as : List Value} {h : List eg_E} {Q : Option Value → List eg_E → Prop} (hf : (eg_fl as).length ≤ 2) (hw : wps (eg_rm m_Math_abs_J) (eg_run (eg_rm m_Math_abs_J) (eg_R m_Math_abs_J Q (h.length + 0)) Q T_Math_abs_J 4) Q c_Math_abs_J_0 0 0 (eg_entry 2 as) [] h) : eg_Runs n_Math_abs_J as h Q := eg_begin (d := m_Math_abs_J) rfl (by decide) (by decide +kernel) q_Math_abs_J hf hw
/-! ===== Math_max ===== -/
def c_Math_max_10 : List eg_I := .inl (10, 1, .ireturn, 0, 0) :: []
def c_Math_max_9 : List eg_I := .inl (9, 1, .iload 1, 0, 0) :: c_Math_max_10
def c_Math_max_6 : List eg_I := .inl (6, 3, .goto (4), 10, 0) :: []
def c_Math_max_5 : List eg_I := .inl (5, 1, .iload 0, 0, 0) :: c_Math_max_6
def c_Math_max_2 : List eg_I := .inl (2, 3, .if_icmp .lt (7), 9, 0) :: c_Math_max_5
def c_Math_max_1 : List eg_I := .inl (1, 1, .iload 1, 0, 0) :: c_Math_max_2
def c_Math_max_0 : List eg_I := .inl (0, 1, .iload 0, 0, 0) :: c_Math_max_1
section
variable {rm : Room} {K : Nat → Nat → Nat → eg_Lo → List Value → List eg_E → Prop} {Q : Option Value → List eg_E → Prop} {kc ks : Nat} {loc : eg_Lo} {st : List Value} {h : List eg_E}
theorem s_Math_max_0 {x : Int32} {l : eg_Lo} : wps rm K Q c_Math_max_0 kc ks (some (.int x) :: l) (st) h = wps rm K Q c_Math_max_1 kc ks (some (.int x) :: l) (.int x :: st) h := rfl
theorem s_Math_max_1 {x : Int32} {l0 : Option Value} {l : eg_Lo} : wps rm K Q c_Math_max_1 kc ks (l0 :: some (.int x) :: l) (st) h = wps rm K Q c_Math_max_2 kc ks (l0 :: some (.int x) :: l) (.int x :: st) h := rfl
theorem s_Math_max_2 {x y : Int32} : wps rm K Q c_Math_max_2 kc ks loc (.int y :: .int x :: st) h = ((x < y → K 9 kc ks loc st h) ∧ (¬ x < y → wps rm K Q c_Math_max_5 kc ks loc (st) h)) := rfl
theorem s_Math_max_5 {x : Int32} {l : eg_Lo} : wps rm K Q c_Math_max_5 kc ks (some (.int x) :: l) (st) h = wps rm K Q c_Math_max_6 kc ks (some (.int x) :: l) (.int x :: st) h := rfl
theorem s_Math_max_6  : wps rm K Q c_Math_max_6 kc ks loc (st) h = K 10 kc ks loc st h := rfl
theorem s_Math_max_9 {x : Int32} {l0 : Option Value} {l : eg_Lo} : wps rm K Q c_Math_max_9 kc ks (l0 :: some (.int x) :: l) (st) h = wps rm K Q c_Math_max_10 kc ks (l0 :: some (.int x) :: l) (.int x :: st) h := rfl
theorem s_Math_max_10 {x : Int32} : wps rm K Q c_Math_max_10 kc ks loc ([.int x]) h = (kc = rm.cells ∧ (0 = 1 → x = 0 ∨ x = 1) ∧ Q (some (.int x)) h) := rfl
def T_Math_max : List (Nat × List eg_I) := [(9, c_Math_max_9), (10, c_Math_max_10)]
theorem j_Math_max_9 {R : Nat → Nat → Nat → eg_Lo → List Value → List eg_E → Prop} {f pc0 : Nat} : eg_run rm R Q T_Math_max (f + 1) 9 kc ks loc st h = wps rm (eg_run rm R Q T_Math_max f) Q c_Math_max_9 kc ks loc st h := rfl
theorem j_Math_max_10 {R : Nat → Nat → Nat → eg_Lo → List Value → List eg_E → Prop} {f pc0 : Nat} : eg_run rm R Q T_Math_max (f + 1) 10 kc ks loc st h = wps rm (eg_run rm R Q T_Math_max f) Q c_Math_max_10 kc ks loc st h := rfl
end
theorem q_Math_max : (T_Math_max.all fun q => eg_seq m_Math_max q.1 q.2) = true := by decide +kernel
theorem b_Math_max {as : List Value} {h : List eg_E} {Q : Option Value → List eg_E → Prop} (hf : (eg_fl as).length ≤ 2) (hw : wps (eg_rm m_Math_max) (eg_run (eg_rm m_Math_max) (eg_R m_Math_max Q (h.length + 0)) Q T_Math_max 4) Q c_Math_max_0 0 0 (eg_entry 2 as) [] h) : eg_Runs n_Math_max as h Q := eg_begin (d := m_Math_max) rfl (by decide) (by decide +kernel) q_Math_max hf hw
/-! ===== Math_min ===== -/
def c_Math_min_10 : List eg_I := .inl (10, 1, .ireturn, 0, 0) :: []
def c_Math_min_9 : List eg_I := .inl (9, 1, .iload 1, 0, 0) :: c_Math_min_10
def c_Math_min_6 : List eg_I := .inl (6, 3, .goto (4), 10, 0) :: []
def c_Math_min_5 : List eg_I := .inl (5, 1, .iload 0, 0, 0) :: c_Math_min_6
def c_Math_min_2 : List eg_I := .inl (2, 3, .if_icmp .gt (7), 9, 0) :: c_Math_min_5
def c_Math_min_1 : List eg_I := .inl (1, 1, .iload 1, 0, 0) :: c_Math_min_2
def c_Math_min_0 : List eg_I := .inl (0, 1, .iload 0, 0, 0) :: c_Math_min_1
section
variable {rm : Room} {K : Nat → Nat → Nat → eg_Lo → List Value → List eg_E → Prop} {Q : Option Value → List eg_E → Prop} {kc ks : Nat} {loc : eg_Lo} {st : List Value} {h : List eg_E}
theorem s_Math_min_0 {x : Int32} {l : eg_Lo} : wps rm K Q c_Math_min_0 kc ks (some (.int x) :: l) (st) h = wps rm K Q c_Math_min_1 kc ks (some (.int x) :: l) (.int x :: st) h := rfl
theorem s_Math_min_1 {x : Int32} {l0 : Option Value} {l : eg_Lo} : wps rm K Q c_Math_min_1 kc ks (l0 :: some (.int x) :: l) (st) h = wps rm K Q c_Math_min_2 kc ks (l0 :: some (.int x) :: l) (.int x :: st) h := rfl
theorem s_Math_min_2 {x y : Int32} : wps rm K Q c_Math_min_2 kc ks loc (.int y :: .int x :: st) h = ((y < x → K 9 kc ks loc st h) ∧ (¬ y < x → wps rm K Q c_Math_min_5 kc ks loc (st) h)) := rfl
theorem s_Math_min_5 {x : Int32} {l : eg_Lo} : wps rm K Q c_Math_min_5 kc ks (some (.int x) :: l) (st) h = wps rm K Q c_Math_min_6 kc ks (some (.int x) :: l) (.int x :: st) h := rfl
theorem s_Math_min_6  : wps rm K Q c_Math_min_6 kc ks loc (st) h = K 10 kc ks loc st h := rfl
theorem s_Math_min_9 {x : Int32} {l0 : Option Value} {l : eg_Lo} : wps rm K Q c_Math_min_9 kc ks (l0 :: some (.int x) :: l) (st) h = wps rm K Q c_Math_min_10 kc ks (l0 :: some (.int x) :: l) (.int x :: st) h := rfl
theorem s_Math_min_10 {x : Int32} : wps rm K Q c_Math_min_10 kc ks loc ([.int x]) h = (kc = rm.cells ∧ (0 = 1 → x = 0 ∨ x = 1) ∧ Q (some (.int x)) h) := rfl
def T_Math_min : List (Nat × List eg_I) := [(9, c_Math_min_9), (10, c_Math_min_10)]
theorem j_Math_min_9 {R : Nat → Nat → Nat → eg_Lo → List Value → List eg_E → Prop} {f pc0 : Nat} : eg_run rm R Q T_Math_min (f + 1) 9 kc ks loc st h = wps rm (eg_run rm R Q T_Math_min f) Q c_Math_min_9 kc ks loc st h := rfl
theorem j_Math_min_10 {R : Nat → Nat → Nat → eg_Lo → List Value → List eg_E → Prop} {f pc0 : Nat} : eg_run rm R Q T_Math_min (f + 1) 10 kc ks loc st h = wps rm (eg_run rm R Q T_Math_min f) Q c_Math_min_10 kc ks loc st h := rfl
end
theorem q_Math_min : (T_Math_min.all fun q => eg_seq m_Math_min q.1 q.2) = true := by decide +kernel
theorem b_Math_min {as : List Value} {h : List eg_E} {Q : Option Value → List eg_E → Prop} (hf : (eg_fl as).length ≤ 2) (hw : wps (eg_rm m_Math_min) (eg_run (eg_rm m_Math_min) (eg_R m_Math_min Q (h.length + 0)) Q T_Math_min 4) Q c_Math_min_0 0 0 (eg_entry 2 as) [] h) : eg_Runs n_Math_min as h Q := eg_begin (d := m_Math_min) rfl (by decide) (by decide +kernel) q_Math_min hf hw
