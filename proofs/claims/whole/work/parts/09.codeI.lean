/-! ===== M_isLess ===== -/
def z_M_isLess_14 : List eg_I := [.inl (14, 0, .nop, 0, 0)]
def c_M_isLess_112 : List eg_I := .inl (112, 3, .goto (-98), 14, 0) :: []
def c_M_isLess_110 : List eg_I := .inl (110, 2, .lstore 14, 0, 0) :: c_M_isLess_112
def c_M_isLess_108 : List eg_I := .inl (108, 2, .lload 16, 0, 0) :: c_M_isLess_110
def c_M_isLess_106 : List eg_I := .inl (106, 2, .lstore 10, 0, 0) :: c_M_isLess_108
def c_M_isLess_104 : List eg_I := .inl (104, 2, .lload 18, 0, 0) :: c_M_isLess_106
def c_M_isLess_102 : List eg_I := .inl (102, 2, .lstore 12, 0, 0) :: c_M_isLess_104
def c_M_isLess_100 : List eg_I := .inl (100, 2, .lload 10, 0, 0) :: c_M_isLess_102
def c_M_isLess_98 : List eg_I := .inl (98, 2, .lstore 8, 0, 0) :: c_M_isLess_100
def c_M_isLess_96 : List eg_I := .inl (96, 2, .lload 14, 0, 0) :: c_M_isLess_98
def c_M_isLess_95 : List eg_I := .inl (95, 1, .ireturn, 0, 1) :: []
def c_M_isLess_94 : List eg_I := .inl (94, 1, .iconst (0), 0, 0) :: c_M_isLess_95
def c_M_isLess_91 : List eg_I := .inl (91, 3, .goto (4), 95, 0) :: []
def c_M_isLess_90 : List eg_I := .inl (90, 1, .iconst (1), 0, 0) :: c_M_isLess_91
def c_M_isLess_87 : List eg_I := .inl (87, 3, .ifCond .le (7), 94, 0) :: c_M_isLess_90
def c_M_isLess_86 : List eg_I := .inl (86, 1, .lcmp, 0, 0) :: c_M_isLess_87
def c_M_isLess_85 : List eg_I := .inl (85, 1, .sipush (0), 0, 0) :: c_M_isLess_86
def c_M_isLess_83 : List eg_I := .inl (83, 2, .lload 18, 0, 0) :: c_M_isLess_85
def c_M_isLess_80 : List eg_I := .inl (80, 3, .ifCond .ne (14), 94, 0) :: c_M_isLess_83
def c_M_isLess_79 : List eg_I := .inl (79, 1, .lcmp, 0, 0) :: c_M_isLess_80
def c_M_isLess_78 : List eg_I := .inl (78, 1, .sipush (0), 0, 0) :: c_M_isLess_79
def c_M_isLess_76 : List eg_I := .inl (76, 2, .lload 16, 0, 0) :: c_M_isLess_78
def c_M_isLess_73 : List eg_I := .inl (73, 3, .ifCond .ne (23), 96, 0) :: c_M_isLess_76
def c_M_isLess_72 : List eg_I := .inl (72, 1, .lcmp, 0, 0) :: c_M_isLess_73
def c_M_isLess_71 : List eg_I := .inl (71, 1, .sipush (0), 0, 0) :: c_M_isLess_72
def c_M_isLess_69 : List eg_I := .inl (69, 2, .lload 18, 0, 0) :: c_M_isLess_71
def c_M_isLess_66 : List eg_I := .inl (66, 3, .ifCond .eq (10), 76, 0) :: c_M_isLess_69
def c_M_isLess_65 : List eg_I := .inl (65, 1, .lcmp, 0, 0) :: c_M_isLess_66
def c_M_isLess_64 : List eg_I := .inl (64, 1, .sipush (0), 0, 0) :: c_M_isLess_65
def c_M_isLess_62 : List eg_I := .inl (62, 2, .lload 16, 0, 0) :: c_M_isLess_64
def c_M_isLess_60 : List eg_I := .inl (60, 2, .lstore 18, 0, 0) :: c_M_isLess_62
def c_M_isLess_59 : List eg_I := .inl (59, 1, .lrem, 0, 0) :: c_M_isLess_60
def c_M_isLess_57 : List eg_I := .inl (57, 2, .lload 14, 0, 0) :: c_M_isLess_59
def c_M_isLess_55 : List eg_I := .inl (55, 2, .lload 12, 0, 0) :: c_M_isLess_57
def c_M_isLess_53 : List eg_I := .inl (53, 2, .lstore 16, 0, 0) :: c_M_isLess_55
def c_M_isLess_52 : List eg_I := .inl (52, 1, .lrem, 0, 0) :: c_M_isLess_53
def c_M_isLess_50 : List eg_I := .inl (50, 2, .lload 10, 0, 0) :: c_M_isLess_52
def c_M_isLess_48 : List eg_I := .inl (48, 2, .lload 8, 0, 0) :: c_M_isLess_50
def c_M_isLess_47 : List eg_I := .inl (47, 1, .ireturn, 0, 1) :: []
def c_M_isLess_46 : List eg_I := .inl (46, 1, .iconst (0), 0, 0) :: c_M_isLess_47
def c_M_isLess_43 : List eg_I := .inl (43, 3, .goto (4), 47, 0) :: []
def c_M_isLess_42 : List eg_I := .inl (42, 1, .iconst (1), 0, 0) :: c_M_isLess_43
def c_M_isLess_39 : List eg_I := .inl (39, 3, .ifCond .ge (7), 46, 0) :: c_M_isLess_42
def c_M_isLess_38 : List eg_I := .inl (38, 1, .lcmp, 0, 0) :: c_M_isLess_39
def c_M_isLess_37 : List eg_I := .inl (37, 1, .ldiv, 0, 0) :: c_M_isLess_38
def c_M_isLess_35 : List eg_I := .inl (35, 2, .lload 14, 0, 0) :: c_M_isLess_37
def c_M_isLess_33 : List eg_I := .inl (33, 2, .lload 12, 0, 0) :: c_M_isLess_35
def c_M_isLess_32 : List eg_I := .inl (32, 1, .ldiv, 0, 0) :: c_M_isLess_33
def c_M_isLess_30 : List eg_I := .inl (30, 2, .lload 10, 0, 0) :: c_M_isLess_32
def c_M_isLess_28 : List eg_I := .inl (28, 2, .lload 8, 0, 0) :: c_M_isLess_30
def c_M_isLess_25 : List eg_I := .inl (25, 3, .ifCond .eq (23), 48, 0) :: c_M_isLess_28
def c_M_isLess_24 : List eg_I := .inl (24, 1, .lcmp, 0, 0) :: c_M_isLess_25
def c_M_isLess_23 : List eg_I := .inl (23, 1, .ldiv, 0, 0) :: c_M_isLess_24
def c_M_isLess_21 : List eg_I := .inl (21, 2, .lload 14, 0, 0) :: c_M_isLess_23
def c_M_isLess_19 : List eg_I := .inl (19, 2, .lload 12, 0, 0) :: c_M_isLess_21
def c_M_isLess_18 : List eg_I := .inl (18, 1, .ldiv, 0, 0) :: c_M_isLess_19
def c_M_isLess_16 : List eg_I := .inl (16, 2, .lload 10, 0, 0) :: c_M_isLess_18
def c_M_isLess_14 : List eg_I := .inl (14, 2, .lload 8, 0, 0) :: c_M_isLess_16
def c_M_isLess_12 : List eg_I := .inl (12, 2, .lstore 14, 0, 0) :: z_M_isLess_14
def c_M_isLess_10 : List eg_I := .inl (10, 2, .lload 6, 0, 0) :: c_M_isLess_12
def c_M_isLess_8 : List eg_I := .inl (8, 2, .lstore 12, 0, 0) :: c_M_isLess_10
def c_M_isLess_6 : List eg_I := .inl (6, 2, .lload 4, 0, 0) :: c_M_isLess_8
def c_M_isLess_4 : List eg_I := .inl (4, 2, .lstore 10, 0, 0) :: c_M_isLess_6
def c_M_isLess_3 : List eg_I := .inl (3, 1, .lload 2, 0, 0) :: c_M_isLess_4
def c_M_isLess_1 : List eg_I := .inl (1, 2, .lstore 8, 0, 0) :: c_M_isLess_3
def c_M_isLess_0 : List eg_I := .inl (0, 1, .lload 0, 0, 0) :: c_M_isLess_1
section
variable {rm : Room} {K : Nat → Nat → Nat → eg_Lo → List Value → List eg_E → Prop} {Q : Option Value → List eg_E → Prop} {kc ks : Nat} {loc : eg_Lo} {st : List Value} {h : List eg_E}
theorem s_M_isLess_0 {x : Int64} {l : eg_Lo} : wps rm K Q c_M_isLess_0 kc ks (some (.long x) :: l) (st) h = wps rm K Q c_M_isLess_1 kc ks (some (.long x) :: l) (.long x :: st) h := gk_lload rfl
theorem s_M_isLess_1 {x : Int64} : wps rm K Q c_M_isLess_1 kc ks loc (.long x :: st) h = wps rm K Q c_M_isLess_3 kc ks (eg_set2 loc 8 (.long x)) (st) h := gk_lstore
theorem s_M_isLess_3 {x : Int64} {l0 l1 : Option Value} {l : eg_Lo} : wps rm K Q c_M_isLess_3 kc ks (l0 :: l1 :: some (.long x) :: l) (st) h = wps rm K Q c_M_isLess_4 kc ks (l0 :: l1 :: some (.long x) :: l) (.long x :: st) h := gk_lload rfl
theorem s_M_isLess_4 {x : Int64} : wps rm K Q c_M_isLess_4 kc ks loc (.long x :: st) h = wps rm K Q c_M_isLess_6 kc ks (eg_set2 loc 10 (.long x)) (st) h := gk_lstore
theorem s_M_isLess_6 {x : Int64} {l0 l1 l2 l3 : Option Value} {l : eg_Lo} : wps rm K Q c_M_isLess_6 kc ks (l0 :: l1 :: l2 :: l3 :: some (.long x) :: l) (st) h = wps rm K Q c_M_isLess_8 kc ks (l0 :: l1 :: l2 :: l3 :: some (.long x) :: l) (.long x :: st) h := gk_lload rfl
theorem s_M_isLess_8 {x : Int64} : wps rm K Q c_M_isLess_8 kc ks loc (.long x :: st) h = wps rm K Q c_M_isLess_10 kc ks (eg_set2 loc 12 (.long x)) (st) h := gk_lstore
theorem s_M_isLess_10 {x : Int64} {l0 l1 l2 l3 l4 l5 : Option Value} {l : eg_Lo} : wps rm K Q c_M_isLess_10 kc ks (l0 :: l1 :: l2 :: l3 :: l4 :: l5 :: some (.long x) :: l) (st) h = wps rm K Q c_M_isLess_12 kc ks (l0 :: l1 :: l2 :: l3 :: l4 :: l5 :: some (.long x) :: l) (.long x :: st) h := gk_lload rfl
theorem s_M_isLess_12 {x : Int64} : wps rm K Q c_M_isLess_12 kc ks loc (.long x :: st) h = wps rm K Q z_M_isLess_14 kc ks (eg_set2 loc 14 (.long x)) (st) h := gk_lstore
theorem s_M_isLess_14 {x : Int64} {l0 l1 l2 l3 l4 l5 l6 l7 : Option Value} {l : eg_Lo} : wps rm K Q c_M_isLess_14 kc ks (l0 :: l1 :: l2 :: l3 :: l4 :: l5 :: l6 :: l7 :: some (.long x) :: l) (st) h = wps rm K Q c_M_isLess_16 kc ks (l0 :: l1 :: l2 :: l3 :: l4 :: l5 :: l6 :: l7 :: some (.long x) :: l) (.long x :: st) h := gk_lload rfl
theorem s_M_isLess_16 {x : Int64} {l0 l1 l2 l3 l4 l5 l6 l7 l8 l9 : Option Value} {l : eg_Lo} : wps rm K Q c_M_isLess_16 kc ks (l0 :: l1 :: l2 :: l3 :: l4 :: l5 :: l6 :: l7 :: l8 :: l9 :: some (.long x) :: l) (st) h = wps rm K Q c_M_isLess_18 kc ks (l0 :: l1 :: l2 :: l3 :: l4 :: l5 :: l6 :: l7 :: l8 :: l9 :: some (.long x) :: l) (.long x :: st) h := gk_lload rfl
theorem s_M_isLess_18 {x y : Int64} : wps rm K Q c_M_isLess_18 kc ks loc (.long y :: .long x :: st) h = (¬ y = 0 ∧ wps rm K Q c_M_isLess_19 kc ks loc (.long (x / y) :: st) h) := gk_ldiv
theorem s_M_isLess_19 {x : Int64} {l0 l1 l2 l3 l4 l5 l6 l7 l8 l9 l10 l11 : Option Value} {l : eg_Lo} : wps rm K Q c_M_isLess_19 kc ks (l0 :: l1 :: l2 :: l3 :: l4 :: l5 :: l6 :: l7 :: l8 :: l9 :: l10 :: l11 :: some (.long x) :: l) (st) h = wps rm K Q c_M_isLess_21 kc ks (l0 :: l1 :: l2 :: l3 :: l4 :: l5 :: l6 :: l7 :: l8 :: l9 :: l10 :: l11 :: some (.long x) :: l) (.long x :: st) h := gk_lload rfl
theorem s_M_isLess_21 {x : Int64} {l0 l1 l2 l3 l4 l5 l6 l7 l8 l9 l10 l11 l12 l13 : Option Value} {l : eg_Lo} : wps rm K Q c_M_isLess_21 kc ks (l0 :: l1 :: l2 :: l3 :: l4 :: l5 :: l6 :: l7 :: l8 :: l9 :: l10 :: l11 :: l12 :: l13 :: some (.long x) :: l) (st) h = wps rm K Q c_M_isLess_23 kc ks (l0 :: l1 :: l2 :: l3 :: l4 :: l5 :: l6 :: l7 :: l8 :: l9 :: l10 :: l11 :: l12 :: l13 :: some (.long x) :: l) (.long x :: st) h := gk_lload rfl
theorem s_M_isLess_23 {x y : Int64} : wps rm K Q c_M_isLess_23 kc ks loc (.long y :: .long x :: st) h = (¬ y = 0 ∧ wps rm K Q c_M_isLess_24 kc ks loc (.long (x / y) :: st) h) := gk_ldiv
theorem s_M_isLess_24 {x y : Int64} : wps rm K Q c_M_isLess_24 kc ks loc (.long y :: .long x :: st) h = wps rm K Q c_M_isLess_25 kc ks loc (.int (lg_cmp x y) :: st) h := gk_lcmp
theorem s_M_isLess_25 {x : Int32} : wps rm K Q c_M_isLess_25 kc ks loc (.int x :: st) h = ((x = 0 → K 48 kc ks loc st h) ∧ (¬ x = 0 → wps rm K Q c_M_isLess_28 kc ks loc (st) h)) := gk_if1_eq
theorem s_M_isLess_28 {x : Int64} {l0 l1 l2 l3 l4 l5 l6 l7 : Option Value} {l : eg_Lo} : wps rm K Q c_M_isLess_28 kc ks (l0 :: l1 :: l2 :: l3 :: l4 :: l5 :: l6 :: l7 :: some (.long x) :: l) (st) h = wps rm K Q c_M_isLess_30 kc ks (l0 :: l1 :: l2 :: l3 :: l4 :: l5 :: l6 :: l7 :: some (.long x) :: l) (.long x :: st) h := gk_lload rfl
theorem s_M_isLess_30 {x : Int64} {l0 l1 l2 l3 l4 l5 l6 l7 l8 l9 : Option Value} {l : eg_Lo} : wps rm K Q c_M_isLess_30 kc ks (l0 :: l1 :: l2 :: l3 :: l4 :: l5 :: l6 :: l7 :: l8 :: l9 :: some (.long x) :: l) (st) h = wps rm K Q c_M_isLess_32 kc ks (l0 :: l1 :: l2 :: l3 :: l4 :: l5 :: l6 :: l7 :: l8 :: l9 :: some (.long x) :: l) (.long x :: st) h := gk_lload rfl
theorem s_M_isLess_32 {x y : Int64} : wps rm K Q c_M_isLess_32 kc ks loc (.long y :: .long x :: st) h = (¬ y = 0 ∧ wps rm K Q c_M_isLess_33 kc ks loc (.long (x / y) :: st) h) := gk_ldiv
theorem s_M_isLess_33 {x : Int64} {l0 l1 l2 l3 l4 l5 l6 l7 l8 l9 l10 l11 : Option Value} {l : eg_Lo} : wps rm K Q c_M_isLess_33 kc ks (l0 :: l1 :: l2 :: l3 :: l4 :: l5 :: l6 :: l7 :: l8 :: l9 :: l10 :: l11 :: some (.long x) :: l) (st) h = wps rm K Q c_M_isLess_35 kc ks (l0 :: l1 :: l2 :: l3 :: l4 :: l5 :: l6 :: l7 :: l8 :: l9 :: l10 :: l11 :: some (.long x) :: l) (.long x :: st) h := gk_lload rfl
theorem s_M_isLess_35 {x : Int64} {l0 l1 l2 l3 l4 l5 l6 l7 l8 l9 l10 l11 l12 l13 : Option Value} {l : eg_Lo} : wps rm K Q c_M_isLess_35 kc ks (l0 :: l1 :: l2 :: l3 :: l4 :: l5 :: l6 :: l7 :: l8 :: l9 :: l10 :: l11 :: l12 :: l13 :: some (.long x) :: l) (st) h = wps rm K Q c_M_isLess_37 kc ks (l0 :: l1 :: l2 :: l3 :: l4 :: l5 :: l6 :: l7 :: l8 :: l9 :: l10 :: l11 :: l12 :: l13 :: some (.long x) :: l) (.long x :: st) h := gk_lload rfl
theorem s_M_isLess_37 {x y : Int64} : wps rm K Q c_M_isLess_37 kc ks loc (.long y :: .long x :: st) h = (¬ y = 0 ∧ wps rm K Q c_M_isLess_38 kc ks loc (.long (x / y) :: st) h) := gk_ldiv
theorem s_M_isLess_38 {x y : Int64} : wps rm K Q c_M_isLess_38 kc ks loc (.long y :: .long x :: st) h = wps rm K Q c_M_isLess_39 kc ks loc (.int (lg_cmp x y) :: st) h := gk_lcmp
theorem s_M_isLess_39 {x : Int32} : wps rm K Q c_M_isLess_39 kc ks loc (.int x :: st) h = ((0 ≤ x → K 46 kc ks loc st h) ∧ (¬ 0 ≤ x → wps rm K Q c_M_isLess_42 kc ks loc (st) h)) := gk_if1_ge
theorem s_M_isLess_42  : wps rm K Q c_M_isLess_42 kc ks loc (st) h = wps rm K Q c_M_isLess_43 kc ks loc (.int (1) :: st) h := gk_ic (by decide)
theorem s_M_isLess_43  : wps rm K Q c_M_isLess_43 kc ks loc (st) h = K 47 kc ks loc st h := gk_goto
theorem s_M_isLess_46  : wps rm K Q c_M_isLess_46 kc ks loc (st) h = wps rm K Q c_M_isLess_47 kc ks loc (.int (0) :: st) h := gk_ic (by decide)
theorem s_M_isLess_47 {x : Int32} : wps rm K Q c_M_isLess_47 kc ks loc ([.int x]) h = (kc = rm.cells ∧ ((1 : Nat) = 1 → x = 0 ∨ x = 1) ∧ Q (some (.int x)) h) := gk_iret
theorem s_M_isLess_48 {x : Int64} {l0 l1 l2 l3 l4 l5 l6 l7 : Option Value} {l : eg_Lo} : wps rm K Q c_M_isLess_48 kc ks (l0 :: l1 :: l2 :: l3 :: l4 :: l5 :: l6 :: l7 :: some (.long x) :: l) (st) h = wps rm K Q c_M_isLess_50 kc ks (l0 :: l1 :: l2 :: l3 :: l4 :: l5 :: l6 :: l7 :: some (.long x) :: l) (.long x :: st) h := gk_lload rfl
theorem s_M_isLess_50 {x : Int64} {l0 l1 l2 l3 l4 l5 l6 l7 l8 l9 : Option Value} {l : eg_Lo} : wps rm K Q c_M_isLess_50 kc ks (l0 :: l1 :: l2 :: l3 :: l4 :: l5 :: l6 :: l7 :: l8 :: l9 :: some (.long x) :: l) (st) h = wps rm K Q c_M_isLess_52 kc ks (l0 :: l1 :: l2 :: l3 :: l4 :: l5 :: l6 :: l7 :: l8 :: l9 :: some (.long x) :: l) (.long x :: st) h := gk_lload rfl
theorem s_M_isLess_52 {x y : Int64} : wps rm K Q c_M_isLess_52 kc ks loc (.long y :: .long x :: st) h = (¬ y = 0 ∧ wps rm K Q c_M_isLess_53 kc ks loc (.long (x - x / y * y) :: st) h) := gk_lrem
theorem s_M_isLess_53 {x : Int64} : wps rm K Q c_M_isLess_53 kc ks loc (.long x :: st) h = wps rm K Q c_M_isLess_55 kc ks (eg_set2 loc 16 (.long x)) (st) h := gk_lstore
theorem s_M_isLess_55 {x : Int64} {l0 l1 l2 l3 l4 l5 l6 l7 l8 l9 l10 l11 : Option Value} {l : eg_Lo} : wps rm K Q c_M_isLess_55 kc ks (l0 :: l1 :: l2 :: l3 :: l4 :: l5 :: l6 :: l7 :: l8 :: l9 :: l10 :: l11 :: some (.long x) :: l) (st) h = wps rm K Q c_M_isLess_57 kc ks (l0 :: l1 :: l2 :: l3 :: l4 :: l5 :: l6 :: l7 :: l8 :: l9 :: l10 :: l11 :: some (.long x) :: l) (.long x :: st) h := gk_lload rfl
theorem s_M_isLess_57 {x : Int64} {l0 l1 l2 l3 l4 l5 l6 l7 l8 l9 l10 l11 l12 l13 : Option Value} {l : eg_Lo} : wps rm K Q c_M_isLess_57 kc ks (l0 :: l1 :: l2 :: l3 :: l4 :: l5 :: l6 :: l7 :: l8 :: l9 :: l10 :: l11 :: l12 :: l13 :: some (.long x) :: l) (st) h = wps rm K Q c_M_isLess_59 kc ks (l0 :: l1 :: l2 :: l3 :: l4 :: l5 :: l6 :: l7 :: l8 :: l9 :: l10 :: l11 :: l12 :: l13 :: some (.long x) :: l) (.long x :: st) h := gk_lload rfl
theorem s_M_isLess_59 {x y : Int64} : wps rm K Q c_M_isLess_59 kc ks loc (.long y :: .long x :: st) h = (¬ y = 0 ∧ wps rm K Q c_M_isLess_60 kc ks loc (.long (x - x / y * y) :: st) h) := gk_lrem
theorem s_M_isLess_60 {x : Int64} : wps rm K Q c_M_isLess_60 kc ks loc (.long x :: st) h = wps rm K Q c_M_isLess_62 kc ks (eg_set2 loc 18 (.long x)) (st) h := gk_lstore
theorem s_M_isLess_62 {x : Int64} {l0 l1 l2 l3 l4 l5 l6 l7 l8 l9 l10 l11 l12 l13 l14 l15 : Option Value} {l : eg_Lo} : wps rm K Q c_M_isLess_62 kc ks (l0 :: l1 :: l2 :: l3 :: l4 :: l5 :: l6 :: l7 :: l8 :: l9 :: l10 :: l11 :: l12 :: l13 :: l14 :: l15 :: some (.long x) :: l) (st) h = wps rm K Q c_M_isLess_64 kc ks (l0 :: l1 :: l2 :: l3 :: l4 :: l5 :: l6 :: l7 :: l8 :: l9 :: l10 :: l11 :: l12 :: l13 :: l14 :: l15 :: some (.long x) :: l) (.long x :: st) h := gk_lload rfl
theorem s_M_isLess_64  : wps rm K Q c_M_isLess_64 kc ks loc (st) h = wps rm K Q c_M_isLess_65 kc ks loc (.long (0) :: st) h := gk_lc (by decide)
theorem s_M_isLess_65 {x y : Int64} : wps rm K Q c_M_isLess_65 kc ks loc (.long y :: .long x :: st) h = wps rm K Q c_M_isLess_66 kc ks loc (.int (lg_cmp x y) :: st) h := gk_lcmp
theorem s_M_isLess_66 {x : Int32} : wps rm K Q c_M_isLess_66 kc ks loc (.int x :: st) h = ((x = 0 → K 76 kc ks loc st h) ∧ (¬ x = 0 → wps rm K Q c_M_isLess_69 kc ks loc (st) h)) := gk_if1_eq
theorem s_M_isLess_69 {x : Int64} {l0 l1 l2 l3 l4 l5 l6 l7 l8 l9 l10 l11 l12 l13 l14 l15 l16 l17 : Option Value} {l : eg_Lo} : wps rm K Q c_M_isLess_69 kc ks (l0 :: l1 :: l2 :: l3 :: l4 :: l5 :: l6 :: l7 :: l8 :: l9 :: l10 :: l11 :: l12 :: l13 :: l14 :: l15 :: l16 :: l17 :: some (.long x) :: l) (st) h = wps rm K Q c_M_isLess_71 kc ks (l0 :: l1 :: l2 :: l3 :: l4 :: l5 :: l6 :: l7 :: l8 :: l9 :: l10 :: l11 :: l12 :: l13 :: l14 :: l15 :: l16 :: l17 :: some (.long x) :: l) (.long x :: st) h := gk_lload rfl
theorem s_M_isLess_71  : wps rm K Q c_M_isLess_71 kc ks loc (st) h = wps rm K Q c_M_isLess_72 kc ks loc (.long (0) :: st) h := gk_lc (by decide)
theorem s_M_isLess_72 {x y : Int64} : wps rm K Q c_M_isLess_72 kc ks loc (.long y :: .long x :: st) h = wps rm K Q c_M_isLess_73 kc ks loc (.int (lg_cmp x y) :: st) h := gk_lcmp
theorem s_M_isLess_73 {x : Int32} : wps rm K Q c_M_isLess_73 kc ks loc (.int x :: st) h = ((¬ x = 0 → K 96 kc ks loc st h) ∧ (x = 0 → wps rm K Q c_M_isLess_76 kc ks loc (st) h)) := gk_if1_ne
theorem s_M_isLess_76 {x : Int64} {l0 l1 l2 l3 l4 l5 l6 l7 l8 l9 l10 l11 l12 l13 l14 l15 : Option Value} {l : eg_Lo} : wps rm K Q c_M_isLess_76 kc ks (l0 :: l1 :: l2 :: l3 :: l4 :: l5 :: l6 :: l7 :: l8 :: l9 :: l10 :: l11 :: l12 :: l13 :: l14 :: l15 :: some (.long x) :: l) (st) h = wps rm K Q c_M_isLess_78 kc ks (l0 :: l1 :: l2 :: l3 :: l4 :: l5 :: l6 :: l7 :: l8 :: l9 :: l10 :: l11 :: l12 :: l13 :: l14 :: l15 :: some (.long x) :: l) (.long x :: st) h := gk_lload rfl
theorem s_M_isLess_78  : wps rm K Q c_M_isLess_78 kc ks loc (st) h = wps rm K Q c_M_isLess_79 kc ks loc (.long (0) :: st) h := gk_lc (by decide)
theorem s_M_isLess_79 {x y : Int64} : wps rm K Q c_M_isLess_79 kc ks loc (.long y :: .long x :: st) h = wps rm K Q c_M_isLess_80 kc ks loc (.int (lg_cmp x y) :: st) h := gk_lcmp
theorem s_M_isLess_80 {x : Int32} : wps rm K Q c_M_isLess_80 kc ks loc (.int x :: st) h = ((¬ x = 0 → K 94 kc ks loc st h) ∧ (x = 0 → wps rm K Q c_M_isLess_83 kc ks loc (st) h)) := gk_if1_ne
theorem s_M_isLess_83 {x : Int64} {l0 l1 l2 l3 l4 l5 l6 l7 l8 l9 l10 l11 l12 l13 l14 l15 l16 l17 : Option Value} {l : eg_Lo} : wps rm K Q c_M_isLess_83 kc ks (l0 :: l1 :: l2 :: l3 :: l4 :: l5 :: l6 :: l7 :: l8 :: l9 :: l10 :: l11 :: l12 :: l13 :: l14 :: l15 :: l16 :: l17 :: some (.long x) :: l) (st) h = wps rm K Q c_M_isLess_85 kc ks (l0 :: l1 :: l2 :: l3 :: l4 :: l5 :: l6 :: l7 :: l8 :: l9 :: l10 :: l11 :: l12 :: l13 :: l14 :: l15 :: l16 :: l17 :: some (.long x) :: l) (.long x :: st) h := gk_lload rfl
theorem s_M_isLess_85  : wps rm K Q c_M_isLess_85 kc ks loc (st) h = wps rm K Q c_M_isLess_86 kc ks loc (.long (0) :: st) h := gk_lc (by decide)
theorem s_M_isLess_86 {x y : Int64} : wps rm K Q c_M_isLess_86 kc ks loc (.long y :: .long x :: st) h = wps rm K Q c_M_isLess_87 kc ks loc (.int (lg_cmp x y) :: st) h := gk_lcmp
theorem s_M_isLess_87 {x : Int32} : wps rm K Q c_M_isLess_87 kc ks loc (.int x :: st) h = ((x ≤ 0 → K 94 kc ks loc st h) ∧ (¬ x ≤ 0 → wps rm K Q c_M_isLess_90 kc ks loc (st) h)) := gk_if1_le
theorem s_M_isLess_90  : wps rm K Q c_M_isLess_90 kc ks loc (st) h = wps rm K Q c_M_isLess_91 kc ks loc (.int (1) :: st) h := gk_ic (by decide)
theorem s_M_isLess_91  : wps rm K Q c_M_isLess_91 kc ks loc (st) h = K 95 kc ks loc st h := gk_goto
theorem s_M_isLess_94  : wps rm K Q c_M_isLess_94 kc ks loc (st) h = wps rm K Q c_M_isLess_95 kc ks loc (.int (0) :: st) h := gk_ic (by decide)
theorem s_M_isLess_95 {x : Int32} : wps rm K Q c_M_isLess_95 kc ks loc ([.int x]) h = (kc = rm.cells ∧ ((1 : Nat) = 1 → x = 0 ∨ x = 1) ∧ Q (some (.int x)) h) := gk_iret
theorem s_M_isLess_96 {x : Int64} {l0 l1 l2 l3 l4 l5 l6 l7 l8 l9 l10 l11 l12 l13 : Option Value} {l : eg_Lo} : wps rm K Q c_M_isLess_96 kc ks (l0 :: l1 :: l2 :: l3 :: l4 :: l5 :: l6 :: l7 :: l8 :: l9 :: l10 :: l11 :: l12 :: l13 :: some (.long x) :: l) (st) h = wps rm K Q c_M_isLess_98 kc ks (l0 :: l1 :: l2 :: l3 :: l4 :: l5 :: l6 :: l7 :: l8 :: l9 :: l10 :: l11 :: l12 :: l13 :: some (.long x) :: l) (.long x :: st) h := gk_lload rfl
theorem s_M_isLess_98 {x : Int64} : wps rm K Q c_M_isLess_98 kc ks loc (.long x :: st) h = wps rm K Q c_M_isLess_100 kc ks (eg_set2 loc 8 (.long x)) (st) h := gk_lstore
theorem s_M_isLess_100 {x : Int64} {l0 l1 l2 l3 l4 l5 l6 l7 l8 l9 : Option Value} {l : eg_Lo} : wps rm K Q c_M_isLess_100 kc ks (l0 :: l1 :: l2 :: l3 :: l4 :: l5 :: l6 :: l7 :: l8 :: l9 :: some (.long x) :: l) (st) h = wps rm K Q c_M_isLess_102 kc ks (l0 :: l1 :: l2 :: l3 :: l4 :: l5 :: l6 :: l7 :: l8 :: l9 :: some (.long x) :: l) (.long x :: st) h := gk_lload rfl
theorem s_M_isLess_102 {x : Int64} : wps rm K Q c_M_isLess_102 kc ks loc (.long x :: st) h = wps rm K Q c_M_isLess_104 kc ks (eg_set2 loc 12 (.long x)) (st) h := gk_lstore
theorem s_M_isLess_104 {x : Int64} {l0 l1 l2 l3 l4 l5 l6 l7 l8 l9 l10 l11 l12 l13 l14 l15 l16 l17 : Option Value} {l : eg_Lo} : wps rm K Q c_M_isLess_104 kc ks (l0 :: l1 :: l2 :: l3 :: l4 :: l5 :: l6 :: l7 :: l8 :: l9 :: l10 :: l11 :: l12 :: l13 :: l14 :: l15 :: l16 :: l17 :: some (.long x) :: l) (st) h = wps rm K Q c_M_isLess_106 kc ks (l0 :: l1 :: l2 :: l3 :: l4 :: l5 :: l6 :: l7 :: l8 :: l9 :: l10 :: l11 :: l12 :: l13 :: l14 :: l15 :: l16 :: l17 :: some (.long x) :: l) (.long x :: st) h := gk_lload rfl
theorem s_M_isLess_106 {x : Int64} : wps rm K Q c_M_isLess_106 kc ks loc (.long x :: st) h = wps rm K Q c_M_isLess_108 kc ks (eg_set2 loc 10 (.long x)) (st) h := gk_lstore
theorem s_M_isLess_108 {x : Int64} {l0 l1 l2 l3 l4 l5 l6 l7 l8 l9 l10 l11 l12 l13 l14 l15 : Option Value} {l : eg_Lo} : wps rm K Q c_M_isLess_108 kc ks (l0 :: l1 :: l2 :: l3 :: l4 :: l5 :: l6 :: l7 :: l8 :: l9 :: l10 :: l11 :: l12 :: l13 :: l14 :: l15 :: some (.long x) :: l) (st) h = wps rm K Q c_M_isLess_110 kc ks (l0 :: l1 :: l2 :: l3 :: l4 :: l5 :: l6 :: l7 :: l8 :: l9 :: l10 :: l11 :: l12 :: l13 :: l14 :: l15 :: some (.long x) :: l) (.long x :: st) h := gk_lload rfl
theorem s_M_isLess_110 {x : Int64} : wps rm K Q c_M_isLess_110 kc ks loc (.long x :: st) h = wps rm K Q c_M_isLess_112 kc ks (eg_set2 loc 14 (.long x)) (st) h := gk_lstore
theorem s_M_isLess_112  : wps rm K Q c_M_isLess_112 kc ks loc (st) h = K 14 kc ks loc st h := gk_goto
theorem sz_M_isLess_14 : wps rm K Q z_M_isLess_14 kc ks loc st h = K 14 kc ks loc st h := gk_nop
def T_M_isLess : List (Nat × List eg_I) := [(46, c_M_isLess_46), (47, c_M_isLess_47), (48, c_M_isLess_48), (76, c_M_isLess_76), (94, c_M_isLess_94), (95, c_M_isLess_95), (96, c_M_isLess_96)]
theorem j_M_isLess_46 {R : Nat → Nat → Nat → eg_Lo → List Value → List eg_E → Prop} {f pc0 : Nat} : eg_run rm R Q T_M_isLess (f + 1) 46 kc ks loc st h = wps rm (eg_run rm R Q T_M_isLess f) Q c_M_isLess_46 kc ks loc st h := rfl
theorem j_M_isLess_47 {R : Nat → Nat → Nat → eg_Lo → List Value → List eg_E → Prop} {f pc0 : Nat} : eg_run rm R Q T_M_isLess (f + 1) 47 kc ks loc st h = wps rm (eg_run rm R Q T_M_isLess f) Q c_M_isLess_47 kc ks loc st h := rfl
theorem j_M_isLess_48 {R : Nat → Nat → Nat → eg_Lo → List Value → List eg_E → Prop} {f pc0 : Nat} : eg_run rm R Q T_M_isLess (f + 1) 48 kc ks loc st h = wps rm (eg_run rm R Q T_M_isLess f) Q c_M_isLess_48 kc ks loc st h := rfl
theorem j_M_isLess_76 {R : Nat → Nat → Nat → eg_Lo → List Value → List eg_E → Prop} {f pc0 : Nat} : eg_run rm R Q T_M_isLess (f + 1) 76 kc ks loc st h = wps rm (eg_run rm R Q T_M_isLess f) Q c_M_isLess_76 kc ks loc st h := rfl
theorem j_M_isLess_94 {R : Nat → Nat → Nat → eg_Lo → List Value → List eg_E → Prop} {f pc0 : Nat} : eg_run rm R Q T_M_isLess (f + 1) 94 kc ks loc st h = wps rm (eg_run rm R Q T_M_isLess f) Q c_M_isLess_94 kc ks loc st h := rfl
theorem j_M_isLess_95 {R : Nat → Nat → Nat → eg_Lo → List Value → List eg_E → Prop} {f pc0 : Nat} : eg_run rm R Q T_M_isLess (f + 1) 95 kc ks loc st h = wps rm (eg_run rm R Q T_M_isLess f) Q c_M_isLess_95 kc ks loc st h := rfl
theorem j_M_isLess_96 {R : Nat → Nat → Nat → eg_Lo → List Value → List eg_E → Prop} {f pc0 : Nat} : eg_run rm R Q T_M_isLess (f + 1) 96 kc ks loc st h = wps rm (eg_run rm R Q T_M_isLess f) Q c_M_isLess_96 kc ks loc st h := rfl
theorem j_M_isLess_14 {R : Nat → Nat → Nat → eg_Lo → List Value → List eg_E → Prop} {f pc0 : Nat} : eg_run rm R Q T_M_isLess (f + 1) 14 kc ks loc st h = R 14 kc ks loc st h := rfl
end
theorem y_M_isLess_0 : eg_seq m_M_isLess 0 c_M_isLess_0 = true := by decide +kernel
theorem y_M_isLess_14 : eg_seq m_M_isLess 14 c_M_isLess_14 = true := by decide +kernel
theorem y_M_isLess_46 : eg_seq m_M_isLess 46 c_M_isLess_46 = true := by decide +kernel
theorem y_M_isLess_48 : eg_seq m_M_isLess 48 c_M_isLess_48 = true := by decide +kernel
theorem y_M_isLess_94 : eg_seq m_M_isLess 94 c_M_isLess_94 = true := by decide +kernel
theorem y_M_isLess_96 : eg_seq m_M_isLess 96 c_M_isLess_96 = true := by decide +kernel
theorem q_M_isLess : ∀ q ∈ T_M_isLess, eg_seq m_M_isLess q.1 q.2 = true := by
  intro q hq
  simp only [T_M_isLess, List.mem_cons, List.not_mem_nil, or_false] at hq
  rcases hq with rfl | rfl | rfl | rfl | rfl | rfl | rfl
  · exact y_M_isLess_46
  · exact (eg_seq_drop y_M_isLess_46 1 : eg_seq m_M_isLess 47 c_M_isLess_47 = true)
  · exact y_M_isLess_48
  · exact (eg_seq_drop y_M_isLess_48 16 : eg_seq m_M_isLess 76 c_M_isLess_76 = true)
  · exact y_M_isLess_94
  · exact (eg_seq_drop y_M_isLess_94 1 : eg_seq m_M_isLess 95 c_M_isLess_95 = true)
  · exact y_M_isLess_96
theorem b_M_isLess {as : List Value} {h : List eg_E} {Q : Option Value → List eg_E → Prop} (hf : (eg_fl as).length ≤ 20) (hw : wps (eg_rm m_M_isLess) (eg_run (eg_rm m_M_isLess) (eg_R m_M_isLess Q (h.length + 0)) Q T_M_isLess 9) Q c_M_isLess_0 0 0 (eg_entry 20 as) [] h) : eg_Runs n_M_isLess as h Q := eg_begin2 (d := m_M_isLess) rfl (by decide) y_M_isLess_0 q_M_isLess hf hw
theorem p_M_isLess_14 {Q : Option Value → List eg_E → Prop} {n0 kc ks : Nat} {loc : eg_Lo} {st : List Value} {h : List eg_E} (hw : wps (eg_rm m_M_isLess) (eg_run (eg_rm m_M_isLess) (eg_R m_M_isLess Q n0) Q T_M_isLess 9) Q c_M_isLess_14 kc ks loc st h) : eg_R m_M_isLess Q n0 14 kc ks loc st h := eg_go2 y_M_isLess_14 q_M_isLess hw
/-! ===== M_common ===== -/
def z_M_common_28 : List eg_I := [.inl (28, 0, .nop, 0, 0)]
def c_M_common_55 : List eg_I := .inl (55, 1, .lreturn, 0, 0) :: []
def c_M_common_53 : List eg_I := .inl (53, 2, .lload 4, 0, 0) :: c_M_common_55
def c_M_common_50 : List eg_I := .inl (50, 3, .goto (-22), 28, 0) :: []
def c_M_common_48 : List eg_I := .inl (48, 2, .lstore 6, 0, 0) :: c_M_common_50
def c_M_common_46 : List eg_I := .inl (46, 2, .lload 8, 0, 0) :: c_M_common_48
def c_M_common_44 : List eg_I := .inl (44, 2, .lstore 4, 0, 0) :: c_M_common_46
def c_M_common_42 : List eg_I := .inl (42, 2, .lload 6, 0, 0) :: c_M_common_44
def c_M_common_40 : List eg_I := .inl (40, 2, .lstore 8, 0, 0) :: c_M_common_42
def c_M_common_39 : List eg_I := .inl (39, 1, .lrem, 0, 0) :: c_M_common_40
def c_M_common_37 : List eg_I := .inl (37, 2, .lload 6, 0, 0) :: c_M_common_39
def c_M_common_35 : List eg_I := .inl (35, 2, .lload 4, 0, 0) :: c_M_common_37
def c_M_common_32 : List eg_I := .inl (32, 3, .ifCond .eq (21), 53, 0) :: c_M_common_35
def c_M_common_31 : List eg_I := .inl (31, 1, .lcmp, 0, 0) :: c_M_common_32
def c_M_common_30 : List eg_I := .inl (30, 1, .sipush (0), 0, 0) :: c_M_common_31
def c_M_common_28 : List eg_I := .inl (28, 2, .lload 6, 0, 0) :: c_M_common_30
def c_M_common_26 : List eg_I := .inl (26, 2, .lstore 6, 0, 0) :: z_M_common_28
def c_M_common_25 : List eg_I := .inl (25, 1, .lload 2, 0, 0) :: c_M_common_26
def c_M_common_22 : List eg_I := .inl (22, 3, .goto (4), 26, 0) :: []
def c_M_common_21 : List eg_I := .inl (21, 1, .lneg, 0, 0) :: c_M_common_22
def c_M_common_20 : List eg_I := .inl (20, 1, .lload 2, 0, 0) :: c_M_common_21
def c_M_common_17 : List eg_I := .inl (17, 3, .ifCond .ge (8), 25, 0) :: c_M_common_20
def c_M_common_16 : List eg_I := .inl (16, 1, .lcmp, 0, 0) :: c_M_common_17
def c_M_common_15 : List eg_I := .inl (15, 1, .sipush (0), 0, 0) :: c_M_common_16
def c_M_common_14 : List eg_I := .inl (14, 1, .lload 2, 0, 0) :: c_M_common_15
def c_M_common_12 : List eg_I := .inl (12, 2, .lstore 4, 0, 0) :: c_M_common_14
def c_M_common_11 : List eg_I := .inl (11, 1, .lload 0, 0, 0) :: c_M_common_12
def c_M_common_8 : List eg_I := .inl (8, 3, .goto (4), 12, 0) :: []
def c_M_common_7 : List eg_I := .inl (7, 1, .lneg, 0, 0) :: c_M_common_8
def c_M_common_6 : List eg_I := .inl (6, 1, .lload 0, 0, 0) :: c_M_common_7
def c_M_common_3 : List eg_I := .inl (3, 3, .ifCond .ge (8), 11, 0) :: c_M_common_6
def c_M_common_2 : List eg_I := .inl (2, 1, .lcmp, 0, 0) :: c_M_common_3
def c_M_common_1 : List eg_I := .inl (1, 1, .sipush (0), 0, 0) :: c_M_common_2
def c_M_common_0 : List eg_I := .inl (0, 1, .lload 0, 0, 0) :: c_M_common_1
section
variable {rm : Room} {K : Nat → Nat → Nat → eg_Lo → List Value → List eg_E → Prop} {Q : Option Value → List eg_E → Prop} {kc ks : Nat} {loc : eg_Lo} {st : List Value} {h : List eg_E}
theorem s_M_common_0 {x : Int64} {l : eg_Lo} : wps rm K Q c_M_common_0 kc ks (some (.long x) :: l) (st) h = wps rm K Q c_M_common_1 kc ks (some (.long x) :: l) (.long x :: st) h := gk_lload rfl
theorem s_M_common_1  : wps rm K Q c_M_common_1 kc ks loc (st) h = wps rm K Q c_M_common_2 kc ks loc (.long (0) :: st) h := gk_lc (by decide)
theorem s_M_common_2 {x y : Int64} : wps rm K Q c_M_common_2 kc ks loc (.long y :: .long x :: st) h = wps rm K Q c_M_common_3 kc ks loc (.int (lg_cmp x y) :: st) h := gk_lcmp
theorem s_M_common_3 {x : Int32} : wps rm K Q c_M_common_3 kc ks loc (.int x :: st) h = ((0 ≤ x → K 11 kc ks loc st h) ∧ (¬ 0 ≤ x → wps rm K Q c_M_common_6 kc ks loc (st) h)) := gk_if1_ge
theorem s_M_common_6 {x : Int64} {l : eg_Lo} : wps rm K Q c_M_common_6 kc ks (some (.long x) :: l) (st) h = wps rm K Q c_M_common_7 kc ks (some (.long x) :: l) (.long x :: st) h := gk_lload rfl
theorem s_M_common_7 {x : Int64} : wps rm K Q c_M_common_7 kc ks loc (.long x :: st) h = wps rm K Q c_M_common_8 kc ks loc (.long (-x) :: st) h := gk_lneg
theorem s_M_common_8  : wps rm K Q c_M_common_8 kc ks loc (st) h = K 12 kc ks loc st h := gk_goto
theorem s_M_common_11 {x : Int64} {l : eg_Lo} : wps rm K Q c_M_common_11 kc ks (some (.long x) :: l) (st) h = wps rm K Q c_M_common_12 kc ks (some (.long x) :: l) (.long x :: st) h := gk_lload rfl
theorem s_M_common_12 {x : Int64} : wps rm K Q c_M_common_12 kc ks loc (.long x :: st) h = wps rm K Q c_M_common_14 kc ks (eg_set2 loc 4 (.long x)) (st) h := gk_lstore
theorem s_M_common_14 {x : Int64} {l0 l1 : Option Value} {l : eg_Lo} : wps rm K Q c_M_common_14 kc ks (l0 :: l1 :: some (.long x) :: l) (st) h = wps rm K Q c_M_common_15 kc ks (l0 :: l1 :: some (.long x) :: l) (.long x :: st) h := gk_lload rfl
theorem s_M_common_15  : wps rm K Q c_M_common_15 kc ks loc (st) h = wps rm K Q c_M_common_16 kc ks loc (.long (0) :: st) h := gk_lc (by decide)
theorem s_M_common_16 {x y : Int64} : wps rm K Q c_M_common_16 kc ks loc (.long y :: .long x :: st) h = wps rm K Q c_M_common_17 kc ks loc (.int (lg_cmp x y) :: st) h := gk_lcmp
theorem s_M_common_17 {x : Int32} : wps rm K Q c_M_common_17 kc ks loc (.int x :: st) h = ((0 ≤ x → K 25 kc ks loc st h) ∧ (¬ 0 ≤ x → wps rm K Q c_M_common_20 kc ks loc (st) h)) := gk_if1_ge
theorem s_M_common_20 {x : Int64} {l0 l1 : Option Value} {l : eg_Lo} : wps rm K Q c_M_common_20 kc ks (l0 :: l1 :: some (.long x) :: l) (st) h = wps rm K Q c_M_common_21 kc ks (l0 :: l1 :: some (.long x) :: l) (.long x :: st) h := gk_lload rfl
theorem s_M_common_21 {x : Int64} : wps rm K Q c_M_common_21 kc ks loc (.long x :: st) h = wps rm K Q c_M_common_22 kc ks loc (.long (-x) :: st) h := gk_lneg
theorem s_M_common_22  : wps rm K Q c_M_common_22 kc ks loc (st) h = K 26 kc ks loc st h := gk_goto
theorem s_M_common_25 {x : Int64} {l0 l1 : Option Value} {l : eg_Lo} : wps rm K Q c_M_common_25 kc ks (l0 :: l1 :: some (.long x) :: l) (st) h = wps rm K Q c_M_common_26 kc ks (l0 :: l1 :: some (.long x) :: l) (.long x :: st) h := gk_lload rfl
theorem s_M_common_26 {x : Int64} : wps rm K Q c_M_common_26 kc ks loc (.long x :: st) h = wps rm K Q z_M_common_28 kc ks (eg_set2 loc 6 (.long x)) (st) h := gk_lstore
theorem s_M_common_28 {x : Int64} {l0 l1 l2 l3 l4 l5 : Option Value} {l : eg_Lo} : wps rm K Q c_M_common_28 kc ks (l0 :: l1 :: l2 :: l3 :: l4 :: l5 :: some (.long x) :: l) (st) h = wps rm K Q c_M_common_30 kc ks (l0 :: l1 :: l2 :: l3 :: l4 :: l5 :: some (.long x) :: l) (.long x :: st) h := gk_lload rfl
theorem s_M_common_30  : wps rm K Q c_M_common_30 kc ks loc (st) h = wps rm K Q c_M_common_31 kc ks loc (.long (0) :: st) h := gk_lc (by decide)
theorem s_M_common_31 {x y : Int64} : wps rm K Q c_M_common_31 kc ks loc (.long y :: .long x :: st) h = wps rm K Q c_M_common_32 kc ks loc (.int (lg_cmp x y) :: st) h := gk_lcmp
theorem s_M_common_32 {x : Int32} : wps rm K Q c_M_common_32 kc ks loc (.int x :: st) h = ((x = 0 → K 53 kc ks loc st h) ∧ (¬ x = 0 → wps rm K Q c_M_common_35 kc ks loc (st) h)) := gk_if1_eq
theorem s_M_common_35 {x : Int64} {l0 l1 l2 l3 : Option Value} {l : eg_Lo} : wps rm K Q c_M_common_35 kc ks (l0 :: l1 :: l2 :: l3 :: some (.long x) :: l) (st) h = wps rm K Q c_M_common_37 kc ks (l0 :: l1 :: l2 :: l3 :: some (.long x) :: l) (.long x :: st) h := gk_lload rfl
theorem s_M_common_37 {x : Int64} {l0 l1 l2 l3 l4 l5 : Option Value} {l : eg_Lo} : wps rm K Q c_M_common_37 kc ks (l0 :: l1 :: l2 :: l3 :: l4 :: l5 :: some (.long x) :: l) (st) h = wps rm K Q c_M_common_39 kc ks (l0 :: l1 :: l2 :: l3 :: l4 :: l5 :: some (.long x) :: l) (.long x :: st) h := gk_lload rfl
theorem s_M_common_39 {x y : Int64} : wps rm K Q c_M_common_39 kc ks loc (.long y :: .long x :: st) h = (¬ y = 0 ∧ wps rm K Q c_M_common_40 kc ks loc (.long (x - x / y * y) :: st) h) := gk_lrem
theorem s_M_common_40 {x : Int64} : wps rm K Q c_M_common_40 kc ks loc (.long x :: st) h = wps rm K Q c_M_common_42 kc ks (eg_set2 loc 8 (.long x)) (st) h := gk_lstore
theorem s_M_common_42 {x : Int64} {l0 l1 l2 l3 l4 l5 : Option Value} {l : eg_Lo} : wps rm K Q c_M_common_42 kc ks (l0 :: l1 :: l2 :: l3 :: l4 :: l5 :: some (.long x) :: l) (st) h = wps rm K Q c_M_common_44 kc ks (l0 :: l1 :: l2 :: l3 :: l4 :: l5 :: some (.long x) :: l) (.long x :: st) h := gk_lload rfl
theorem s_M_common_44 {x : Int64} : wps rm K Q c_M_common_44 kc ks loc (.long x :: st) h = wps rm K Q c_M_common_46 kc ks (eg_set2 loc 4 (.long x)) (st) h := gk_lstore
theorem s_M_common_46 {x : Int64} {l0 l1 l2 l3 l4 l5 l6 l7 : Option Value} {l : eg_Lo} : wps rm K Q c_M_common_46 kc ks (l0 :: l1 :: l2 :: l3 :: l4 :: l5 :: l6 :: l7 :: some (.long x) :: l) (st) h = wps rm K Q c_M_common_48 kc ks (l0 :: l1 :: l2 :: l3 :: l4 :: l5 :: l6 :: l7 :: some (.long x) :: l) (.long x :: st) h := gk_lload rfl
theorem s_M_common_48 {x : Int64} : wps rm K Q c_M_common_48 kc ks loc (.long x :: st) h = wps rm K Q c_M_common_50 kc ks (eg_set2 loc 6 (.long x)) (st) h := gk_lstore
theorem s_M_common_50  : wps rm K Q c_M_common_50 kc ks loc (st) h = K 28 kc ks loc st h := gk_goto
theorem s_M_common_53 {x : Int64} {l0 l1 l2 l3 : Option Value} {l : eg_Lo} : wps rm K Q c_M_common_53 kc ks (l0 :: l1 :: l2 :: l3 :: some (.long x) :: l) (st) h = wps rm K Q c_M_common_55 kc ks (l0 :: l1 :: l2 :: l3 :: some (.long x) :: l) (.long x :: st) h := gk_lload rfl
theorem s_M_common_55 {x : Int64} : wps rm K Q c_M_common_55 kc ks loc ([.long x]) h = (kc = rm.cells ∧ Q (some (.long x)) h) := gk_lret
theorem sz_M_common_28 : wps rm K Q z_M_common_28 kc ks loc st h = K 28 kc ks loc st h := gk_nop
def T_M_common : List (Nat × List eg_I) := [(11, c_M_common_11), (12, c_M_common_12), (25, c_M_common_25), (26, c_M_common_26), (53, c_M_common_53)]
theorem j_M_common_11 {R : Nat → Nat → Nat → eg_Lo → List Value → List eg_E → Prop} {f pc0 : Nat} : eg_run rm R Q T_M_common (f + 1) 11 kc ks loc st h = wps rm (eg_run rm R Q T_M_common f) Q c_M_common_11 kc ks loc st h := rfl
theorem j_M_common_12 {R : Nat → Nat → Nat → eg_Lo → List Value → List eg_E → Prop} {f pc0 : Nat} : eg_run rm R Q T_M_common (f + 1) 12 kc ks loc st h = wps rm (eg_run rm R Q T_M_common f) Q c_M_common_12 kc ks loc st h := rfl
theorem j_M_common_25 {R : Nat → Nat → Nat → eg_Lo → List Value → List eg_E → Prop} {f pc0 : Nat} : eg_run rm R Q T_M_common (f + 1) 25 kc ks loc st h = wps rm (eg_run rm R Q T_M_common f) Q c_M_common_25 kc ks loc st h := rfl
theorem j_M_common_26 {R : Nat → Nat → Nat → eg_Lo → List Value → List eg_E → Prop} {f pc0 : Nat} : eg_run rm R Q T_M_common (f + 1) 26 kc ks loc st h = wps rm (eg_run rm R Q T_M_common f) Q c_M_common_26 kc ks loc st h := rfl
theorem j_M_common_53 {R : Nat → Nat → Nat → eg_Lo → List Value → List eg_E → Prop} {f pc0 : Nat} : eg_run rm R Q T_M_common (f + 1) 53 kc ks loc st h = wps rm (eg_run rm R Q T_M_common f) Q c_M_common_53 kc ks loc st h := rfl
theorem j_M_common_28 {R : Nat → Nat → Nat → eg_Lo → List Value → List eg_E → Prop} {f pc0 : Nat} : eg_run rm R Q T_M_common (f + 1) 28 kc ks loc st h = R 28 kc ks loc st h := rfl
end
theorem y_M_common_0 : eg_seq m_M_common 0 c_M_common_0 = true := by decide +kernel
theorem y_M_common_11 : eg_seq m_M_common 11 c_M_common_11 = true := by decide +kernel
theorem y_M_common_25 : eg_seq m_M_common 25 c_M_common_25 = true := by decide +kernel
theorem y_M_common_28 : eg_seq m_M_common 28 c_M_common_28 = true := by decide +kernel
theorem y_M_common_53 : eg_seq m_M_common 53 c_M_common_53 = true := by decide +kernel
theorem q_M_common : ∀ q ∈ T_M_common, eg_seq m_M_common q.1 q.2 = true := by
  intro q hq
  simp only [T_M_common, List.mem_cons, List.not_mem_nil, or_false] at hq
  rcases hq with rfl | rfl | rfl | rfl | rfl
  · exact y_M_common_11
  · exact (eg_seq_drop y_M_common_11 1 : eg_seq m_M_common 12 c_M_common_12 = true)
  · exact y_M_common_25
  · exact (eg_seq_drop y_M_common_25 1 : eg_seq m_M_common 26 c_M_common_26 = true)
  · exact y_M_common_53
theorem b_M_common {as : List Value} {h : List eg_E} {Q : Option Value → List eg_E → Prop} (hf : (eg_fl as).length ≤ 10) (hw : wps (eg_rm m_M_common) (eg_run (eg_rm m_M_common) (eg_R m_M_common Q (h.length + 0)) Q T_M_common 7) Q c_M_common_0 0 0 (eg_entry 10 as) [] h) : eg_Runs n_M_common as h Q := eg_begin2 (d := m_M_common) rfl (by decide) y_M_common_0 q_M_common hf hw
theorem p_M_common_28 {Q : Option Value → List eg_E → Prop} {n0 kc ks : Nat} {loc : eg_Lo} {st : List Value} {h : List eg_E} (hw : wps (eg_rm m_M_common) (eg_run (eg_rm m_M_common) (eg_R m_M_common Q n0) Q T_M_common 7) Q c_M_common_28 kc ks loc st h) : eg_R m_M_common Q n0 28 kc ks loc st h := eg_go2 y_M_common_28 q_M_common hw
/-! ===== M_isFigure ===== -/
def c_M_isFigure_6 : List eg_I := .inl (6, 1, .ireturn, 0, 1) :: []
def c_M_isFigure_3 : List eg_I := .inr (3, 0, 95, n_M_isIn, 3, 12, 0, 0) :: c_M_isFigure_6
def c_M_isFigure_2 : List eg_I := .inl (2, 1, .iconst (5), 0, 0) :: c_M_isFigure_3
def c_M_isFigure_1 : List eg_I := .inl (1, 1, .iconst (0), 0, 0) :: c_M_isFigure_2
def c_M_isFigure_0 : List eg_I := .inl (0, 1, .iload 0, 0, 0) :: c_M_isFigure_1
section
variable {rm : Room} {K : Nat → Nat → Nat → eg_Lo → List Value → List eg_E → Prop} {Q : Option Value → List eg_E → Prop} {kc ks : Nat} {loc : eg_Lo} {st : List Value} {h : List eg_E}
theorem s_M_isFigure_0 {x : Int32} {l : eg_Lo} : wps rm K Q c_M_isFigure_0 kc ks (some (.int x) :: l) (st) h = wps rm K Q c_M_isFigure_1 kc ks (some (.int x) :: l) (.int x :: st) h := gk_iload rfl
theorem s_M_isFigure_1  : wps rm K Q c_M_isFigure_1 kc ks loc (st) h = wps rm K Q c_M_isFigure_2 kc ks loc (.int (0) :: st) h := gk_ic (by decide)
theorem s_M_isFigure_2  : wps rm K Q c_M_isFigure_2 kc ks loc (st) h = wps rm K Q c_M_isFigure_3 kc ks loc (.int (5) :: st) h := gk_ic (by decide)
theorem s_M_isFigure_3  {a1 : Value} {a2 : Value} {a3 : Value} : wps rm K Q c_M_isFigure_3 kc ks loc (a3 :: a2 :: a1 :: st) h = (st.length ≤ 4 ∧ eg_Cs n_M_isIn [a1, a2, a3] h (fun v h9 => wps rm K Q c_M_isFigure_6 kc ks loc (v.toList ++ st) h9)) := eg_c0_3
theorem s_M_isFigure_6 {x : Int32} : wps rm K Q c_M_isFigure_6 kc ks loc ([.int x]) h = (kc = rm.cells ∧ ((1 : Nat) = 1 → x = 0 ∨ x = 1) ∧ Q (some (.int x)) h) := gk_iret
def T_M_isFigure : List (Nat × List eg_I) := []
end
theorem y_M_isFigure_0 : eg_seq m_M_isFigure 0 c_M_isFigure_0 = true := by decide +kernel
theorem q_M_isFigure : ∀ q ∈ T_M_isFigure, eg_seq m_M_isFigure q.1 q.2 = true := by
  intro q hq
  cases hq
theorem b_M_isFigure {as : List Value} {h : List eg_E} {Q : Option Value → List eg_E → Prop} (hf : (eg_fl as).length ≤ 1) (hw : wps (eg_rm m_M_isFigure) (eg_run (eg_rm m_M_isFigure) (eg_R m_M_isFigure Q (h.length + 0)) Q T_M_isFigure 2) Q c_M_isFigure_0 0 0 (eg_entry 1 as) [] h) : eg_Runs n_M_isFigure as h Q := eg_begin2 (d := m_M_isFigure) rfl (by decide) y_M_isFigure_0 q_M_isFigure hf hw
/-! ===== M_keepMiss ===== -/
def c_M_keepMiss_29 : List eg_I := .inl (29, 1, .return_, 0, 0) :: []
def c_M_keepMiss_28 : List eg_I := .inl (28, 1, .lastore, 0, 0) :: c_M_keepMiss_29
def c_M_keepMiss_27 : List eg_I := .inl (27, 1, .ldiv, 0, 0) :: c_M_keepMiss_28
def c_M_keepMiss_25 : List eg_I := .inl (25, 2, .lload 6, 0, 0) :: c_M_keepMiss_27
def c_M_keepMiss_23 : List eg_I := .inl (23, 2, .lload 4, 0, 0) :: c_M_keepMiss_25
def c_M_keepMiss_22 : List eg_I := .inl (22, 1, .iload 1, 0, 0) :: c_M_keepMiss_23
def c_M_keepMiss_19 : List eg_I := .inl (19, 3, .getfield 45, 12, 11) :: c_M_keepMiss_22
def c_M_keepMiss_18 : List eg_I := .inl (18, 1, .aload 0, 0, 0) :: c_M_keepMiss_19
def c_M_keepMiss_17 : List eg_I := .inl (17, 1, .lastore, 0, 0) :: c_M_keepMiss_18
def c_M_keepMiss_16 : List eg_I := .inl (16, 1, .ldiv, 0, 0) :: c_M_keepMiss_17
def c_M_keepMiss_14 : List eg_I := .inl (14, 2, .lload 6, 0, 0) :: c_M_keepMiss_16
def c_M_keepMiss_13 : List eg_I := .inl (13, 1, .lload 2, 0, 0) :: c_M_keepMiss_14
def c_M_keepMiss_12 : List eg_I := .inl (12, 1, .iload 1, 0, 0) :: c_M_keepMiss_13
def c_M_keepMiss_9 : List eg_I := .inl (9, 3, .getfield 41, 12, 10) :: c_M_keepMiss_12
def c_M_keepMiss_8 : List eg_I := .inl (8, 1, .aload 0, 0, 0) :: c_M_keepMiss_9
def c_M_keepMiss_6 : List eg_I := .inl (6, 2, .lstore 6, 0, 0) :: c_M_keepMiss_8
def c_M_keepMiss_3 : List eg_I := .inr (3, 0, 168, n_M_common, 2, 12, 0, 0) :: c_M_keepMiss_6
def c_M_keepMiss_1 : List eg_I := .inl (1, 2, .lload 4, 0, 0) :: c_M_keepMiss_3
def c_M_keepMiss_0 : List eg_I := .inl (0, 1, .lload 2, 0, 0) :: c_M_keepMiss_1
section
variable {rm : Room} {K : Nat → Nat → Nat → eg_Lo → List Value → List eg_E → Prop} {Q : Option Value → List eg_E → Prop} {kc ks : Nat} {loc : eg_Lo} {st : List Value} {h : List eg_E}
theorem s_M_keepMiss_0 {x : Int64} {l0 l1 : Option Value} {l : eg_Lo} : wps rm K Q c_M_keepMiss_0 kc ks (l0 :: l1 :: some (.long x) :: l) (st) h = wps rm K Q c_M_keepMiss_1 kc ks (l0 :: l1 :: some (.long x) :: l) (.long x :: st) h := gk_lload rfl
theorem s_M_keepMiss_1 {x : Int64} {l0 l1 l2 l3 : Option Value} {l : eg_Lo} : wps rm K Q c_M_keepMiss_1 kc ks (l0 :: l1 :: l2 :: l3 :: some (.long x) :: l) (st) h = wps rm K Q c_M_keepMiss_3 kc ks (l0 :: l1 :: l2 :: l3 :: some (.long x) :: l) (.long x :: st) h := gk_lload rfl
theorem s_M_keepMiss_3  {a1 : Value} {a2 : Value} : wps rm K Q c_M_keepMiss_3 kc ks loc (a2 :: a1 :: st) h = (st.length ≤ 4 ∧ eg_Cs n_M_common [a1, a2] h (fun v h9 => wps rm K Q c_M_keepMiss_6 kc ks loc (v.toList ++ st) h9)) := eg_c0_2
theorem s_M_keepMiss_6 {x : Int64} : wps rm K Q c_M_keepMiss_6 kc ks loc (.long x :: st) h = wps rm K Q c_M_keepMiss_8 kc ks (eg_set2 loc 6 (.long x)) (st) h := gk_lstore
theorem s_M_keepMiss_8 {x : Nat} {l : eg_Lo} : wps rm K Q c_M_keepMiss_8 kc ks (some (.ref x) :: l) (st) h = wps rm K Q c_M_keepMiss_9 kc ks (some (.ref x) :: l) (.ref x :: st) h := gk_aload rfl
theorem s_M_keepMiss_9 {x : Nat} : wps rm K Q c_M_keepMiss_9 kc ks loc (.ref (x + 1) :: st) h = eg_gf h x 12 10 (fun v => wps rm K Q c_M_keepMiss_12 kc ks loc (v :: st) h) := gk_gf
theorem s_M_keepMiss_12 {x : Int32} {l0 : Option Value} {l : eg_Lo} : wps rm K Q c_M_keepMiss_12 kc ks (l0 :: some (.int x) :: l) (st) h = wps rm K Q c_M_keepMiss_13 kc ks (l0 :: some (.int x) :: l) (.int x :: st) h := gk_iload rfl
theorem s_M_keepMiss_13 {x : Int64} {l0 l1 : Option Value} {l : eg_Lo} : wps rm K Q c_M_keepMiss_13 kc ks (l0 :: l1 :: some (.long x) :: l) (st) h = wps rm K Q c_M_keepMiss_14 kc ks (l0 :: l1 :: some (.long x) :: l) (.long x :: st) h := gk_lload rfl
theorem s_M_keepMiss_14 {x : Int64} {l0 l1 l2 l3 l4 l5 : Option Value} {l : eg_Lo} : wps rm K Q c_M_keepMiss_14 kc ks (l0 :: l1 :: l2 :: l3 :: l4 :: l5 :: some (.long x) :: l) (st) h = wps rm K Q c_M_keepMiss_16 kc ks (l0 :: l1 :: l2 :: l3 :: l4 :: l5 :: some (.long x) :: l) (.long x :: st) h := gk_lload rfl
theorem s_M_keepMiss_16 {x y : Int64} : wps rm K Q c_M_keepMiss_16 kc ks loc (.long y :: .long x :: st) h = (¬ y = 0 ∧ wps rm K Q c_M_keepMiss_17 kc ks loc (.long (x / y) :: st) h) := gk_ldiv
theorem s_M_keepMiss_17 {x : Nat} {i : Int32} {v : Int64} : wps rm K Q c_M_keepMiss_17 kc ks loc (.long v :: .int i :: .ref (x + 1) :: st) h = eg_lst h x i v (fun h9 => wps rm K Q c_M_keepMiss_18 kc ks loc (st) h9) := gk_lastore
theorem s_M_keepMiss_18 {x : Nat} {l : eg_Lo} : wps rm K Q c_M_keepMiss_18 kc ks (some (.ref x) :: l) (st) h = wps rm K Q c_M_keepMiss_19 kc ks (some (.ref x) :: l) (.ref x :: st) h := gk_aload rfl
theorem s_M_keepMiss_19 {x : Nat} : wps rm K Q c_M_keepMiss_19 kc ks loc (.ref (x + 1) :: st) h = eg_gf h x 12 11 (fun v => wps rm K Q c_M_keepMiss_22 kc ks loc (v :: st) h) := gk_gf
theorem s_M_keepMiss_22 {x : Int32} {l0 : Option Value} {l : eg_Lo} : wps rm K Q c_M_keepMiss_22 kc ks (l0 :: some (.int x) :: l) (st) h = wps rm K Q c_M_keepMiss_23 kc ks (l0 :: some (.int x) :: l) (.int x :: st) h := gk_iload rfl
theorem s_M_keepMiss_23 {x : Int64} {l0 l1 l2 l3 : Option Value} {l : eg_Lo} : wps rm K Q c_M_keepMiss_23 kc ks (l0 :: l1 :: l2 :: l3 :: some (.long x) :: l) (st) h = wps rm K Q c_M_keepMiss_25 kc ks (l0 :: l1 :: l2 :: l3 :: some (.long x) :: l) (.long x :: st) h := gk_lload rfl
theorem s_M_keepMiss_25 {x : Int64} {l0 l1 l2 l3 l4 l5 : Option Value} {l : eg_Lo} : wps rm K Q c_M_keepMiss_25 kc ks (l0 :: l1 :: l2 :: l3 :: l4 :: l5 :: some (.long x) :: l) (st) h = wps rm K Q c_M_keepMiss_27 kc ks (l0 :: l1 :: l2 :: l3 :: l4 :: l5 :: some (.long x) :: l) (.long x :: st) h := gk_lload rfl
theorem s_M_keepMiss_27 {x y : Int64} : wps rm K Q c_M_keepMiss_27 kc ks loc (.long y :: .long x :: st) h = (¬ y = 0 ∧ wps rm K Q c_M_keepMiss_28 kc ks loc (.long (x / y) :: st) h) := gk_ldiv
theorem s_M_keepMiss_28 {x : Nat} {i : Int32} {v : Int64} : wps rm K Q c_M_keepMiss_28 kc ks loc (.long v :: .int i :: .ref (x + 1) :: st) h = eg_lst h x i v (fun h9 => wps rm K Q c_M_keepMiss_29 kc ks loc (st) h9) := gk_lastore
theorem s_M_keepMiss_29  : wps rm K Q c_M_keepMiss_29 kc ks loc ([]) h = (kc = rm.cells ∧ Q none h) := gk_vret
def T_M_keepMiss : List (Nat × List eg_I) := []
end
theorem y_M_keepMiss_0 : eg_seq m_M_keepMiss 0 c_M_keepMiss_0 = true := by decide +kernel
theorem q_M_keepMiss : ∀ q ∈ T_M_keepMiss, eg_seq m_M_keepMiss q.1 q.2 = true := by
  intro q hq
  cases hq
theorem b_M_keepMiss {as : List Value} {h : List eg_E} {Q : Option Value → List eg_E → Prop} (hf : (eg_fl as).length ≤ 8) (hw : wps (eg_rm m_M_keepMiss) (eg_run (eg_rm m_M_keepMiss) (eg_R m_M_keepMiss Q (h.length + 0)) Q T_M_keepMiss 2) Q c_M_keepMiss_0 0 0 (eg_entry 8 as) [] h) : eg_Runs n_M_keepMiss as h Q := eg_begin2 (d := m_M_keepMiss) rfl (by decide) y_M_keepMiss_0 q_M_keepMiss hf hw
/-! ===== M_lowest ===== -/
def c_M_lowest_105 : List eg_I := .inl (105, 1, .return_, 0, 0) :: []
def c_M_lowest_104 : List eg_I := .inl (104, 1, .lastore, 0, 0) :: c_M_lowest_105
def c_M_lowest_103 : List eg_I := .inl (103, 1, .ldiv, 0, 0) :: c_M_lowest_104
def c_M_lowest_101 : List eg_I := .inl (101, 2, .lload 9, 0, 0) :: c_M_lowest_103
def c_M_lowest_99 : List eg_I := .inl (99, 2, .lload 4, 0, 0) :: c_M_lowest_101
def c_M_lowest_98 : List eg_I := .inl (98, 1, .iadd, 0, 0) :: c_M_lowest_99
def c_M_lowest_97 : List eg_I := .inl (97, 1, .iconst (2), 0, 0) :: c_M_lowest_98
def c_M_lowest_95 : List eg_I := .inl (95, 2, .iload 7, 0, 0) :: c_M_lowest_97
def c_M_lowest_93 : List eg_I := .inl (93, 2, .aload 6, 0, 0) :: c_M_lowest_95
def c_M_lowest_92 : List eg_I := .inl (92, 1, .lastore, 0, 0) :: c_M_lowest_93
def c_M_lowest_91 : List eg_I := .inl (91, 1, .ldiv, 0, 0) :: c_M_lowest_92
def c_M_lowest_89 : List eg_I := .inl (89, 2, .lload 9, 0, 0) :: c_M_lowest_91
def c_M_lowest_88 : List eg_I := .inl (88, 1, .lload 2, 0, 0) :: c_M_lowest_89
def c_M_lowest_87 : List eg_I := .inl (87, 1, .iadd, 0, 0) :: c_M_lowest_88
def c_M_lowest_86 : List eg_I := .inl (86, 1, .iconst (1), 0, 0) :: c_M_lowest_87
def c_M_lowest_84 : List eg_I := .inl (84, 2, .iload 7, 0, 0) :: c_M_lowest_86
def c_M_lowest_82 : List eg_I := .inl (82, 2, .aload 6, 0, 0) :: c_M_lowest_84
def c_M_lowest_81 : List eg_I := .inl (81, 1, .lastore, 0, 0) :: c_M_lowest_82
def c_M_lowest_80 : List eg_I := .inl (80, 1, .ldiv, 0, 0) :: c_M_lowest_81
def c_M_lowest_78 : List eg_I := .inl (78, 2, .lload 9, 0, 0) :: c_M_lowest_80
def c_M_lowest_77 : List eg_I := .inl (77, 1, .lload 0, 0, 0) :: c_M_lowest_78
def c_M_lowest_75 : List eg_I := .inl (75, 2, .iload 7, 0, 0) :: c_M_lowest_77
def c_M_lowest_73 : List eg_I := .inl (73, 2, .aload 6, 0, 0) :: c_M_lowest_75
def c_M_lowest_71 : List eg_I := .inl (71, 2, .lstore 9, 0, 0) :: c_M_lowest_73
def c_M_lowest_69 : List eg_I := .inl (69, 2, .lload 9, 0, 0) :: c_M_lowest_71
def c_M_lowest_66 : List eg_I := .inl (66, 3, .goto (5), 71, 0) :: []
def c_M_lowest_65 : List eg_I := .inl (65, 1, .lneg, 0, 0) :: c_M_lowest_66
def c_M_lowest_63 : List eg_I := .inl (63, 2, .lload 9, 0, 0) :: c_M_lowest_65
def c_M_lowest_60 : List eg_I := .inl (60, 3, .ifCond .ge (9), 69, 0) :: c_M_lowest_63
def c_M_lowest_59 : List eg_I := .inl (59, 1, .lcmp, 0, 0) :: c_M_lowest_60
def c_M_lowest_58 : List eg_I := .inl (58, 1, .sipush (0), 0, 0) :: c_M_lowest_59
def c_M_lowest_56 : List eg_I := .inl (56, 2, .lload 11, 0, 0) :: c_M_lowest_58
def c_M_lowest_53 : List eg_I := .inl (53, 3, .ifCond .eq (16), 69, 0) :: c_M_lowest_56
def c_M_lowest_51 : List eg_I := .inl (51, 2, .iload 8, 0, 0) :: c_M_lowest_53
def c_M_lowest_49 : List eg_I := .inl (49, 2, .lstore 11, 0, 0) :: c_M_lowest_51
def c_M_lowest_47 : List eg_I := .inl (47, 2, .lload 4, 0, 0) :: c_M_lowest_49
def c_M_lowest_44 : List eg_I := .inl (44, 3, .goto (5), 49, 0) :: []
def c_M_lowest_43 : List eg_I := .inl (43, 1, .lload 2, 0, 0) :: c_M_lowest_44
def c_M_lowest_40 : List eg_I := .inl (40, 3, .ifCond .eq (7), 47, 0) :: c_M_lowest_43
def c_M_lowest_39 : List eg_I := .inl (39, 1, .lcmp, 0, 0) :: c_M_lowest_40
def c_M_lowest_38 : List eg_I := .inl (38, 1, .sipush (0), 0, 0) :: c_M_lowest_39
def c_M_lowest_37 : List eg_I := .inl (37, 1, .lload 2, 0, 0) :: c_M_lowest_38
def c_M_lowest_34 : List eg_I := .inl (34, 3, .goto (15), 49, 0) :: []
def c_M_lowest_33 : List eg_I := .inl (33, 1, .lload 0, 0, 0) :: c_M_lowest_34
def c_M_lowest_30 : List eg_I := .inl (30, 3, .ifCond .eq (7), 37, 0) :: c_M_lowest_33
def c_M_lowest_29 : List eg_I := .inl (29, 1, .lcmp, 0, 0) :: c_M_lowest_30
def c_M_lowest_28 : List eg_I := .inl (28, 1, .sipush (0), 0, 0) :: c_M_lowest_29
def c_M_lowest_27 : List eg_I := .inl (27, 1, .lload 0, 0, 0) :: c_M_lowest_28
def c_M_lowest_25 : List eg_I := .inl (25, 2, .lstore 9, 0, 0) :: c_M_lowest_27
def c_M_lowest_23 : List eg_I := .inl (23, 2, .lload 9, 0, 0) :: c_M_lowest_25
def c_M_lowest_20 : List eg_I := .inl (20, 3, .goto (5), 25, 0) :: []
def c_M_lowest_19 : List eg_I := .inl (19, 1, .sipush (1), 0, 0) :: c_M_lowest_20
def c_M_lowest_16 : List eg_I := .inl (16, 3, .ifCond .ne (7), 23, 0) :: c_M_lowest_19
def c_M_lowest_15 : List eg_I := .inl (15, 1, .lcmp, 0, 0) :: c_M_lowest_16
def c_M_lowest_14 : List eg_I := .inl (14, 1, .sipush (0), 0, 0) :: c_M_lowest_15
def c_M_lowest_12 : List eg_I := .inl (12, 2, .lload 9, 0, 0) :: c_M_lowest_14
def c_M_lowest_10 : List eg_I := .inl (10, 2, .lstore 9, 0, 0) :: c_M_lowest_12
def c_M_lowest_7 : List eg_I := .inr (7, 0, 168, n_M_common, 2, 12, 0, 0) :: c_M_lowest_10
def c_M_lowest_5 : List eg_I := .inl (5, 2, .lload 4, 0, 0) :: c_M_lowest_7
def c_M_lowest_2 : List eg_I := .inr (2, 0, 168, n_M_common, 2, 12, 0, 0) :: c_M_lowest_5
def c_M_lowest_1 : List eg_I := .inl (1, 1, .lload 2, 0, 0) :: c_M_lowest_2
def c_M_lowest_0 : List eg_I := .inl (0, 1, .lload 0, 0, 0) :: c_M_lowest_1
section
variable {rm : Room} {K : Nat → Nat → Nat → eg_Lo → List Value → List eg_E → Prop} {Q : Option Value → List eg_E → Prop} {kc ks : Nat} {loc : eg_Lo} {st : List Value} {h : List eg_E}
theorem s_M_lowest_0 {x : Int64} {l : eg_Lo} : wps rm K Q c_M_lowest_0 kc ks (some (.long x) :: l) (st) h = wps rm K Q c_M_lowest_1 kc ks (some (.long x) :: l) (.long x :: st) h := gk_lload rfl
theorem s_M_lowest_1 {x : Int64} {l0 l1 : Option Value} {l : eg_Lo} : wps rm K Q c_M_lowest_1 kc ks (l0 :: l1 :: some (.long x) :: l) (st) h = wps rm K Q c_M_lowest_2 kc ks (l0 :: l1 :: some (.long x) :: l) (.long x :: st) h := gk_lload rfl
theorem s_M_lowest_2  {a1 : Value} {a2 : Value} : wps rm K Q c_M_lowest_2 kc ks loc (a2 :: a1 :: st) h = (st.length ≤ 4 ∧ eg_Cs n_M_common [a1, a2] h (fun v h9 => wps rm K Q c_M_lowest_5 kc ks loc (v.toList ++ st) h9)) := eg_c0_2
theorem s_M_lowest_5 {x : Int64} {l0 l1 l2 l3 : Option Value} {l : eg_Lo} : wps rm K Q c_M_lowest_5 kc ks (l0 :: l1 :: l2 :: l3 :: some (.long x) :: l) (st) h = wps rm K Q c_M_lowest_7 kc ks (l0 :: l1 :: l2 :: l3 :: some (.long x) :: l) (.long x :: st) h := gk_lload rfl
theorem s_M_lowest_7  {a1 : Value} {a2 : Value} : wps rm K Q c_M_lowest_7 kc ks loc (a2 :: a1 :: st) h = (st.length ≤ 4 ∧ eg_Cs n_M_common [a1, a2] h (fun v h9 => wps rm K Q c_M_lowest_10 kc ks loc (v.toList ++ st) h9)) := eg_c0_2
theorem s_M_lowest_10 {x : Int64} : wps rm K Q c_M_lowest_10 kc ks loc (.long x :: st) h = wps rm K Q c_M_lowest_12 kc ks (eg_set2 loc 9 (.long x)) (st) h := gk_lstore
theorem s_M_lowest_12 {x : Int64} {l0 l1 l2 l3 l4 l5 l6 l7 l8 : Option Value} {l : eg_Lo} : wps rm K Q c_M_lowest_12 kc ks (l0 :: l1 :: l2 :: l3 :: l4 :: l5 :: l6 :: l7 :: l8 :: some (.long x) :: l) (st) h = wps rm K Q c_M_lowest_14 kc ks (l0 :: l1 :: l2 :: l3 :: l4 :: l5 :: l6 :: l7 :: l8 :: some (.long x) :: l) (.long x :: st) h := gk_lload rfl
theorem s_M_lowest_14  : wps rm K Q c_M_lowest_14 kc ks loc (st) h = wps rm K Q c_M_lowest_15 kc ks loc (.long (0) :: st) h := gk_lc (by decide)
theorem s_M_lowest_15 {x y : Int64} : wps rm K Q c_M_lowest_15 kc ks loc (.long y :: .long x :: st) h = wps rm K Q c_M_lowest_16 kc ks loc (.int (lg_cmp x y) :: st) h := gk_lcmp
theorem s_M_lowest_16 {x : Int32} : wps rm K Q c_M_lowest_16 kc ks loc (.int x :: st) h = ((¬ x = 0 → K 23 kc ks loc st h) ∧ (x = 0 → wps rm K Q c_M_lowest_19 kc ks loc (st) h)) := gk_if1_ne
theorem s_M_lowest_19  : wps rm K Q c_M_lowest_19 kc ks loc (st) h = wps rm K Q c_M_lowest_20 kc ks loc (.long (1) :: st) h := gk_lc (by decide)
theorem s_M_lowest_20  : wps rm K Q c_M_lowest_20 kc ks loc (st) h = K 25 kc ks loc st h := gk_goto
theorem s_M_lowest_23 {x : Int64} {l0 l1 l2 l3 l4 l5 l6 l7 l8 : Option Value} {l : eg_Lo} : wps rm K Q c_M_lowest_23 kc ks (l0 :: l1 :: l2 :: l3 :: l4 :: l5 :: l6 :: l7 :: l8 :: some (.long x) :: l) (st) h = wps rm K Q c_M_lowest_25 kc ks (l0 :: l1 :: l2 :: l3 :: l4 :: l5 :: l6 :: l7 :: l8 :: some (.long x) :: l) (.long x :: st) h := gk_lload rfl
theorem s_M_lowest_25 {x : Int64} : wps rm K Q c_M_lowest_25 kc ks loc (.long x :: st) h = wps rm K Q c_M_lowest_27 kc ks (eg_set2 loc 9 (.long x)) (st) h := gk_lstore
theorem s_M_lowest_27 {x : Int64} {l : eg_Lo} : wps rm K Q c_M_lowest_27 kc ks (some (.long x) :: l) (st) h = wps rm K Q c_M_lowest_28 kc ks (some (.long x) :: l) (.long x :: st) h := gk_lload rfl
theorem s_M_lowest_28  : wps rm K Q c_M_lowest_28 kc ks loc (st) h = wps rm K Q c_M_lowest_29 kc ks loc (.long (0) :: st) h := gk_lc (by decide)
theorem s_M_lowest_29 {x y : Int64} : wps rm K Q c_M_lowest_29 kc ks loc (.long y :: .long x :: st) h = wps rm K Q c_M_lowest_30 kc ks loc (.int (lg_cmp x y) :: st) h := gk_lcmp
theorem s_M_lowest_30 {x : Int32} : wps rm K Q c_M_lowest_30 kc ks loc (.int x :: st) h = ((x = 0 → K 37 kc ks loc st h) ∧ (¬ x = 0 → wps rm K Q c_M_lowest_33 kc ks loc (st) h)) := gk_if1_eq
theorem s_M_lowest_33 {x : Int64} {l : eg_Lo} : wps rm K Q c_M_lowest_33 kc ks (some (.long x) :: l) (st) h = wps rm K Q c_M_lowest_34 kc ks (some (.long x) :: l) (.long x :: st) h := gk_lload rfl
theorem s_M_lowest_34  : wps rm K Q c_M_lowest_34 kc ks loc (st) h = K 49 kc ks loc st h := gk_goto
theorem s_M_lowest_37 {x : Int64} {l0 l1 : Option Value} {l : eg_Lo} : wps rm K Q c_M_lowest_37 kc ks (l0 :: l1 :: some (.long x) :: l) (st) h = wps rm K Q c_M_lowest_38 kc ks (l0 :: l1 :: some (.long x) :: l) (.long x :: st) h := gk_lload rfl
theorem s_M_lowest_38  : wps rm K Q c_M_lowest_38 kc ks loc (st) h = wps rm K Q c_M_lowest_39 kc ks loc (.long (0) :: st) h := gk_lc (by decide)
theorem s_M_lowest_39 {x y : Int64} : wps rm K Q c_M_lowest_39 kc ks loc (.long y :: .long x :: st) h = wps rm K Q c_M_lowest_40 kc ks loc (.int (lg_cmp x y) :: st) h := gk_lcmp
theorem s_M_lowest_40 {x : Int32} : wps rm K Q c_M_lowest_40 kc ks loc (.int x :: st) h = ((x = 0 → K 47 kc ks loc st h) ∧ (¬ x = 0 → wps rm K Q c_M_lowest_43 kc ks loc (st) h)) := gk_if1_eq
theorem s_M_lowest_43 {x : Int64} {l0 l1 : Option Value} {l : eg_Lo} : wps rm K Q c_M_lowest_43 kc ks (l0 :: l1 :: some (.long x) :: l) (st) h = wps rm K Q c_M_lowest_44 kc ks (l0 :: l1 :: some (.long x) :: l) (.long x :: st) h := gk_lload rfl
theorem s_M_lowest_44  : wps rm K Q c_M_lowest_44 kc ks loc (st) h = K 49 kc ks loc st h := gk_goto
theorem s_M_lowest_47 {x : Int64} {l0 l1 l2 l3 : Option Value} {l : eg_Lo} : wps rm K Q c_M_lowest_47 kc ks (l0 :: l1 :: l2 :: l3 :: some (.long x) :: l) (st) h = wps rm K Q c_M_lowest_49 kc ks (l0 :: l1 :: l2 :: l3 :: some (.long x) :: l) (.long x :: st) h := gk_lload rfl
theorem s_M_lowest_49 {x : Int64} : wps rm K Q c_M_lowest_49 kc ks loc (.long x :: st) h = wps rm K Q c_M_lowest_51 kc ks (eg_set2 loc 11 (.long x)) (st) h := gk_lstore
theorem s_M_lowest_51 {x : Int32} {l0 l1 l2 l3 l4 l5 l6 l7 : Option Value} {l : eg_Lo} : wps rm K Q c_M_lowest_51 kc ks (l0 :: l1 :: l2 :: l3 :: l4 :: l5 :: l6 :: l7 :: some (.int x) :: l) (st) h = wps rm K Q c_M_lowest_53 kc ks (l0 :: l1 :: l2 :: l3 :: l4 :: l5 :: l6 :: l7 :: some (.int x) :: l) (.int x :: st) h := gk_iload rfl
theorem s_M_lowest_53 {x : Int32} : wps rm K Q c_M_lowest_53 kc ks loc (.int x :: st) h = ((x = 0 → K 69 kc ks loc st h) ∧ (¬ x = 0 → wps rm K Q c_M_lowest_56 kc ks loc (st) h)) := gk_if1_eq
theorem s_M_lowest_56 {x : Int64} {l0 l1 l2 l3 l4 l5 l6 l7 l8 l9 l10 : Option Value} {l : eg_Lo} : wps rm K Q c_M_lowest_56 kc ks (l0 :: l1 :: l2 :: l3 :: l4 :: l5 :: l6 :: l7 :: l8 :: l9 :: l10 :: some (.long x) :: l) (st) h = wps rm K Q c_M_lowest_58 kc ks (l0 :: l1 :: l2 :: l3 :: l4 :: l5 :: l6 :: l7 :: l8 :: l9 :: l10 :: some (.long x) :: l) (.long x :: st) h := gk_lload rfl
theorem s_M_lowest_58  : wps rm K Q c_M_lowest_58 kc ks loc (st) h = wps rm K Q c_M_lowest_59 kc ks loc (.long (0) :: st) h := gk_lc (by decide)
theorem s_M_lowest_59 {x y : Int64} : wps rm K Q c_M_lowest_59 kc ks loc (.long y :: .long x :: st) h = wps rm K Q c_M_lowest_60 kc ks loc (.int (lg_cmp x y) :: st) h := gk_lcmp
theorem s_M_lowest_60 {x : Int32} : wps rm K Q c_M_lowest_60 kc ks loc (.int x :: st) h = ((0 ≤ x → K 69 kc ks loc st h) ∧ (¬ 0 ≤ x → wps rm K Q c_M_lowest_63 kc ks loc (st) h)) := gk_if1_ge
theorem s_M_lowest_63 {x : Int64} {l0 l1 l2 l3 l4 l5 l6 l7 l8 : Option Value} {l : eg_Lo} : wps rm K Q c_M_lowest_63 kc ks (l0 :: l1 :: l2 :: l3 :: l4 :: l5 :: l6 :: l7 :: l8 :: some (.long x) :: l) (st) h = wps rm K Q c_M_lowest_65 kc ks (l0 :: l1 :: l2 :: l3 :: l4 :: l5 :: l6 :: l7 :: l8 :: some (.long x) :: l) (.long x :: st) h := gk_lload rfl
theorem s_M_lowest_65 {x : Int64} : wps rm K Q c_M_lowest_65 kc ks loc (.long x :: st) h = wps rm K Q c_M_lowest_66 kc ks loc (.long (-x) :: st) h := gk_lneg
theorem s_M_lowest_66  : wps rm K Q c_M_lowest_66 kc ks loc (st) h = K 71 kc ks loc st h := gk_goto
theorem s_M_lowest_69 {x : Int64} {l0 l1 l2 l3 l4 l5 l6 l7 l8 : Option Value} {l : eg_Lo} : wps rm K Q c_M_lowest_69 kc ks (l0 :: l1 :: l2 :: l3 :: l4 :: l5 :: l6 :: l7 :: l8 :: some (.long x) :: l) (st) h = wps rm K Q c_M_lowest_71 kc ks (l0 :: l1 :: l2 :: l3 :: l4 :: l5 :: l6 :: l7 :: l8 :: some (.long x) :: l) (.long x :: st) h := gk_lload rfl
theorem s_M_lowest_71 {x : Int64} : wps rm K Q c_M_lowest_71 kc ks loc (.long x :: st) h = wps rm K Q c_M_lowest_73 kc ks (eg_set2 loc 9 (.long x)) (st) h := gk_lstore
theorem s_M_lowest_73 {x : Nat} {l0 l1 l2 l3 l4 l5 : Option Value} {l : eg_Lo} : wps rm K Q c_M_lowest_73 kc ks (l0 :: l1 :: l2 :: l3 :: l4 :: l5 :: some (.ref x) :: l) (st) h = wps rm K Q c_M_lowest_75 kc ks (l0 :: l1 :: l2 :: l3 :: l4 :: l5 :: some (.ref x) :: l) (.ref x :: st) h := gk_aload rfl
theorem s_M_lowest_75 {x : Int32} {l0 l1 l2 l3 l4 l5 l6 : Option Value} {l : eg_Lo} : wps rm K Q c_M_lowest_75 kc ks (l0 :: l1 :: l2 :: l3 :: l4 :: l5 :: l6 :: some (.int x) :: l) (st) h = wps rm K Q c_M_lowest_77 kc ks (l0 :: l1 :: l2 :: l3 :: l4 :: l5 :: l6 :: some (.int x) :: l) (.int x :: st) h := gk_iload rfl
theorem s_M_lowest_77 {x : Int64} {l : eg_Lo} : wps rm K Q c_M_lowest_77 kc ks (some (.long x) :: l) (st) h = wps rm K Q c_M_lowest_78 kc ks (some (.long x) :: l) (.long x :: st) h := gk_lload rfl
theorem s_M_lowest_78 {x : Int64} {l0 l1 l2 l3 l4 l5 l6 l7 l8 : Option Value} {l : eg_Lo} : wps rm K Q c_M_lowest_78 kc ks (l0 :: l1 :: l2 :: l3 :: l4 :: l5 :: l6 :: l7 :: l8 :: some (.long x) :: l) (st) h = wps rm K Q c_M_lowest_80 kc ks (l0 :: l1 :: l2 :: l3 :: l4 :: l5 :: l6 :: l7 :: l8 :: some (.long x) :: l) (.long x :: st) h := gk_lload rfl
theorem s_M_lowest_80 {x y : Int64} : wps rm K Q c_M_lowest_80 kc ks loc (.long y :: .long x :: st) h = (¬ y = 0 ∧ wps rm K Q c_M_lowest_81 kc ks loc (.long (x / y) :: st) h) := gk_ldiv
theorem s_M_lowest_81 {x : Nat} {i : Int32} {v : Int64} : wps rm K Q c_M_lowest_81 kc ks loc (.long v :: .int i :: .ref (x + 1) :: st) h = eg_lst h x i v (fun h9 => wps rm K Q c_M_lowest_82 kc ks loc (st) h9) := gk_lastore
theorem s_M_lowest_82 {x : Nat} {l0 l1 l2 l3 l4 l5 : Option Value} {l : eg_Lo} : wps rm K Q c_M_lowest_82 kc ks (l0 :: l1 :: l2 :: l3 :: l4 :: l5 :: some (.ref x) :: l) (st) h = wps rm K Q c_M_lowest_84 kc ks (l0 :: l1 :: l2 :: l3 :: l4 :: l5 :: some (.ref x) :: l) (.ref x :: st) h := gk_aload rfl
theorem s_M_lowest_84 {x : Int32} {l0 l1 l2 l3 l4 l5 l6 : Option Value} {l : eg_Lo} : wps rm K Q c_M_lowest_84 kc ks (l0 :: l1 :: l2 :: l3 :: l4 :: l5 :: l6 :: some (.int x) :: l) (st) h = wps rm K Q c_M_lowest_86 kc ks (l0 :: l1 :: l2 :: l3 :: l4 :: l5 :: l6 :: some (.int x) :: l) (.int x :: st) h := gk_iload rfl
theorem s_M_lowest_86  : wps rm K Q c_M_lowest_86 kc ks loc (st) h = wps rm K Q c_M_lowest_87 kc ks loc (.int (1) :: st) h := gk_ic (by decide)
theorem s_M_lowest_87 {x y : Int32} : wps rm K Q c_M_lowest_87 kc ks loc (.int y :: .int x :: st) h = wps rm K Q c_M_lowest_88 kc ks loc (.int (x + y) :: st) h := gk_iadd
theorem s_M_lowest_88 {x : Int64} {l0 l1 : Option Value} {l : eg_Lo} : wps rm K Q c_M_lowest_88 kc ks (l0 :: l1 :: some (.long x) :: l) (st) h = wps rm K Q c_M_lowest_89 kc ks (l0 :: l1 :: some (.long x) :: l) (.long x :: st) h := gk_lload rfl
theorem s_M_lowest_89 {x : Int64} {l0 l1 l2 l3 l4 l5 l6 l7 l8 : Option Value} {l : eg_Lo} : wps rm K Q c_M_lowest_89 kc ks (l0 :: l1 :: l2 :: l3 :: l4 :: l5 :: l6 :: l7 :: l8 :: some (.long x) :: l) (st) h = wps rm K Q c_M_lowest_91 kc ks (l0 :: l1 :: l2 :: l3 :: l4 :: l5 :: l6 :: l7 :: l8 :: some (.long x) :: l) (.long x :: st) h := gk_lload rfl
theorem s_M_lowest_91 {x y : Int64} : wps rm K Q c_M_lowest_91 kc ks loc (.long y :: .long x :: st) h = (¬ y = 0 ∧ wps rm K Q c_M_lowest_92 kc ks loc (.long (x / y) :: st) h) := gk_ldiv
theorem s_M_lowest_92 {x : Nat} {i : Int32} {v : Int64} : wps rm K Q c_M_lowest_92 kc ks loc (.long v :: .int i :: .ref (x + 1) :: st) h = eg_lst h x i v (fun h9 => wps rm K Q c_M_lowest_93 kc ks loc (st) h9) := gk_lastore
theorem s_M_lowest_93 {x : Nat} {l0 l1 l2 l3 l4 l5 : Option Value} {l : eg_Lo} : wps rm K Q c_M_lowest_93 kc ks (l0 :: l1 :: l2 :: l3 :: l4 :: l5 :: some (.ref x) :: l) (st) h = wps rm K Q c_M_lowest_95 kc ks (l0 :: l1 :: l2 :: l3 :: l4 :: l5 :: some (.ref x) :: l) (.ref x :: st) h := gk_aload rfl
theorem s_M_lowest_95 {x : Int32} {l0 l1 l2 l3 l4 l5 l6 : Option Value} {l : eg_Lo} : wps rm K Q c_M_lowest_95 kc ks (l0 :: l1 :: l2 :: l3 :: l4 :: l5 :: l6 :: some (.int x) :: l) (st) h = wps rm K Q c_M_lowest_97 kc ks (l0 :: l1 :: l2 :: l3 :: l4 :: l5 :: l6 :: some (.int x) :: l) (.int x :: st) h := gk_iload rfl
theorem s_M_lowest_97  : wps rm K Q c_M_lowest_97 kc ks loc (st) h = wps rm K Q c_M_lowest_98 kc ks loc (.int (2) :: st) h := gk_ic (by decide)
theorem s_M_lowest_98 {x y : Int32} : wps rm K Q c_M_lowest_98 kc ks loc (.int y :: .int x :: st) h = wps rm K Q c_M_lowest_99 kc ks loc (.int (x + y) :: st) h := gk_iadd
theorem s_M_lowest_99 {x : Int64} {l0 l1 l2 l3 : Option Value} {l : eg_Lo} : wps rm K Q c_M_lowest_99 kc ks (l0 :: l1 :: l2 :: l3 :: some (.long x) :: l) (st) h = wps rm K Q c_M_lowest_101 kc ks (l0 :: l1 :: l2 :: l3 :: some (.long x) :: l) (.long x :: st) h := gk_lload rfl
theorem s_M_lowest_101 {x : Int64} {l0 l1 l2 l3 l4 l5 l6 l7 l8 : Option Value} {l : eg_Lo} : wps rm K Q c_M_lowest_101 kc ks (l0 :: l1 :: l2 :: l3 :: l4 :: l5 :: l6 :: l7 :: l8 :: some (.long x) :: l) (st) h = wps rm K Q c_M_lowest_103 kc ks (l0 :: l1 :: l2 :: l3 :: l4 :: l5 :: l6 :: l7 :: l8 :: some (.long x) :: l) (.long x :: st) h := gk_lload rfl
theorem s_M_lowest_103 {x y : Int64} : wps rm K Q c_M_lowest_103 kc ks loc (.long y :: .long x :: st) h = (¬ y = 0 ∧ wps rm K Q c_M_lowest_104 kc ks loc (.long (x / y) :: st) h) := gk_ldiv
theorem s_M_lowest_104 {x : Nat} {i : Int32} {v : Int64} : wps rm K Q c_M_lowest_104 kc ks loc (.long v :: .int i :: .ref (x + 1) :: st) h = eg_lst h x i v (fun h9 => wps rm K Q c_M_lowest_105 kc ks loc (st) h9) := gk_lastore
theorem s_M_lowest_105  : wps rm K Q c_M_lowest_105 kc ks loc ([]) h = (kc = rm.cells ∧ Q none h) := gk_vret
def T_M_lowest : List (Nat × List eg_I) := [(23, c_M_lowest_23), (25, c_M_lowest_25), (37, c_M_lowest_37), (47, c_M_lowest_47), (49, c_M_lowest_49), (69, c_M_lowest_69), (71, c_M_lowest_71)]
theorem j_M_lowest_23 {R : Nat → Nat → Nat → eg_Lo → List Value → List eg_E → Prop} {f pc0 : Nat} : eg_run rm R Q T_M_lowest (f + 1) 23 kc ks loc st h = wps rm (eg_run rm R Q T_M_lowest f) Q c_M_lowest_23 kc ks loc st h := rfl
theorem j_M_lowest_25 {R : Nat → Nat → Nat → eg_Lo → List Value → List eg_E → Prop} {f pc0 : Nat} : eg_run rm R Q T_M_lowest (f + 1) 25 kc ks loc st h = wps rm (eg_run rm R Q T_M_lowest f) Q c_M_lowest_25 kc ks loc st h := rfl
theorem j_M_lowest_37 {R : Nat → Nat → Nat → eg_Lo → List Value → List eg_E → Prop} {f pc0 : Nat} : eg_run rm R Q T_M_lowest (f + 1) 37 kc ks loc st h = wps rm (eg_run rm R Q T_M_lowest f) Q c_M_lowest_37 kc ks loc st h := rfl
theorem j_M_lowest_47 {R : Nat → Nat → Nat → eg_Lo → List Value → List eg_E → Prop} {f pc0 : Nat} : eg_run rm R Q T_M_lowest (f + 1) 47 kc ks loc st h = wps rm (eg_run rm R Q T_M_lowest f) Q c_M_lowest_47 kc ks loc st h := rfl
theorem j_M_lowest_49 {R : Nat → Nat → Nat → eg_Lo → List Value → List eg_E → Prop} {f pc0 : Nat} : eg_run rm R Q T_M_lowest (f + 1) 49 kc ks loc st h = wps rm (eg_run rm R Q T_M_lowest f) Q c_M_lowest_49 kc ks loc st h := rfl
theorem j_M_lowest_69 {R : Nat → Nat → Nat → eg_Lo → List Value → List eg_E → Prop} {f pc0 : Nat} : eg_run rm R Q T_M_lowest (f + 1) 69 kc ks loc st h = wps rm (eg_run rm R Q T_M_lowest f) Q c_M_lowest_69 kc ks loc st h := rfl
theorem j_M_lowest_71 {R : Nat → Nat → Nat → eg_Lo → List Value → List eg_E → Prop} {f pc0 : Nat} : eg_run rm R Q T_M_lowest (f + 1) 71 kc ks loc st h = wps rm (eg_run rm R Q T_M_lowest f) Q c_M_lowest_71 kc ks loc st h := rfl
end
theorem y_M_lowest_0 : eg_seq m_M_lowest 0 c_M_lowest_0 = true := by decide +kernel
theorem y_M_lowest_23 : eg_seq m_M_lowest 23 c_M_lowest_23 = true := by decide +kernel
theorem y_M_lowest_37 : eg_seq m_M_lowest 37 c_M_lowest_37 = true := by decide +kernel
theorem y_M_lowest_47 : eg_seq m_M_lowest 47 c_M_lowest_47 = true := by decide +kernel
theorem y_M_lowest_69 : eg_seq m_M_lowest 69 c_M_lowest_69 = true := by decide +kernel
theorem q_M_lowest : ∀ q ∈ T_M_lowest, eg_seq m_M_lowest q.1 q.2 = true := by
  intro q hq
  simp only [T_M_lowest, List.mem_cons, List.not_mem_nil, or_false] at hq
  rcases hq with rfl | rfl | rfl | rfl | rfl | rfl | rfl
  · exact y_M_lowest_23
  · exact (eg_seq_drop y_M_lowest_23 1 : eg_seq m_M_lowest 25 c_M_lowest_25 = true)
  · exact y_M_lowest_37
  · exact y_M_lowest_47
  · exact (eg_seq_drop y_M_lowest_47 1 : eg_seq m_M_lowest 49 c_M_lowest_49 = true)
  · exact y_M_lowest_69
  · exact (eg_seq_drop y_M_lowest_69 1 : eg_seq m_M_lowest 71 c_M_lowest_71 = true)
theorem b_M_lowest {as : List Value} {h : List eg_E} {Q : Option Value → List eg_E → Prop} (hf : (eg_fl as).length ≤ 13) (hw : wps (eg_rm m_M_lowest) (eg_run (eg_rm m_M_lowest) (eg_R m_M_lowest Q (h.length + 0)) Q T_M_lowest 9) Q c_M_lowest_0 0 0 (eg_entry 13 as) [] h) : eg_Runs n_M_lowest as h Q := eg_begin2 (d := m_M_lowest) rfl (by decide) y_M_lowest_0 q_M_lowest hf hw
/-! ===== M_crosses ===== -/
def z_M_crosses_20 : List eg_I := [.inl (20, 0, .nop, 0, 0)]
def c_M_crosses_173 : List eg_I := .inl (173, 1, .return_, 0, 0) :: []
def c_M_crosses_170 : List eg_I := .inl (170, 3, .goto (-150), 20, 0) :: []
def c_M_crosses_167 : List eg_I := .inl (167, 3, .iinc 10 (1), 0, 0) :: c_M_crosses_170
def c_M_crosses_164 : List eg_I := .inl (164, 3, .putfield 176, 12, 32) :: c_M_crosses_167
def c_M_crosses_162 : List eg_I := .inl (162, 2, .iload 10, 0, 0) :: c_M_crosses_164
def c_M_crosses_161 : List eg_I := .inl (161, 1, .aload 0, 0, 0) :: c_M_crosses_162
def c_M_crosses_158 : List eg_I := .inl (158, 3, .putfield 182, 12, 30) :: c_M_crosses_161
def c_M_crosses_156 : List eg_I := .inl (156, 2, .lload 12, 0, 0) :: c_M_crosses_158
def c_M_crosses_155 : List eg_I := .inl (155, 1, .aload 0, 0, 0) :: c_M_crosses_156
def c_M_crosses_152 : List eg_I := .inl (152, 3, .ifCond .ge (15), 167, 0) :: c_M_crosses_155
def c_M_crosses_151 : List eg_I := .inl (151, 1, .lcmp, 0, 0) :: c_M_crosses_152
def c_M_crosses_148 : List eg_I := .inl (148, 3, .getfield 182, 12, 30) :: c_M_crosses_151
def c_M_crosses_147 : List eg_I := .inl (147, 1, .aload 0, 0, 0) :: c_M_crosses_148
def c_M_crosses_145 : List eg_I := .inl (145, 2, .lload 12, 0, 0) :: c_M_crosses_147
def c_M_crosses_142 : List eg_I := .inl (142, 3, .ifCond .lt (13), 155, 0) :: c_M_crosses_145
def c_M_crosses_139 : List eg_I := .inl (139, 3, .getfield 176, 12, 32) :: c_M_crosses_142
def c_M_crosses_138 : List eg_I := .inl (138, 1, .aload 0, 0, 0) :: c_M_crosses_139
def c_M_crosses_135 : List eg_I := .inl (135, 3, .putfield 172, 12, 31) :: c_M_crosses_138
def c_M_crosses_133 : List eg_I := .inl (133, 2, .iload 10, 0, 0) :: c_M_crosses_135
def c_M_crosses_132 : List eg_I := .inl (132, 1, .aload 0, 0, 0) :: c_M_crosses_133
def c_M_crosses_129 : List eg_I := .inl (129, 3, .putfield 179, 12, 29) :: c_M_crosses_132
def c_M_crosses_127 : List eg_I := .inl (127, 2, .lload 12, 0, 0) :: c_M_crosses_129
def c_M_crosses_126 : List eg_I := .inl (126, 1, .aload 0, 0, 0) :: c_M_crosses_127
def c_M_crosses_123 : List eg_I := .inl (123, 3, .ifCond .le (15), 138, 0) :: c_M_crosses_126
def c_M_crosses_122 : List eg_I := .inl (122, 1, .lcmp, 0, 0) :: c_M_crosses_123
def c_M_crosses_119 : List eg_I := .inl (119, 3, .getfield 179, 12, 29) :: c_M_crosses_122
def c_M_crosses_118 : List eg_I := .inl (118, 1, .aload 0, 0, 0) :: c_M_crosses_119
def c_M_crosses_116 : List eg_I := .inl (116, 2, .lload 12, 0, 0) :: c_M_crosses_118
def c_M_crosses_113 : List eg_I := .inl (113, 3, .ifCond .lt (13), 126, 0) :: c_M_crosses_116
def c_M_crosses_110 : List eg_I := .inl (110, 3, .getfield 172, 12, 31) :: c_M_crosses_113
def c_M_crosses_109 : List eg_I := .inl (109, 1, .aload 0, 0, 0) :: c_M_crosses_110
def c_M_crosses_107 : List eg_I := .inl (107, 2, .lstore 12, 0, 0) :: c_M_crosses_109
def c_M_crosses_106 : List eg_I := .inl (106, 1, .ladd, 0, 0) :: c_M_crosses_107
def c_M_crosses_105 : List eg_I := .inl (105, 1, .lmul, 0, 0) :: c_M_crosses_106
def c_M_crosses_104 : List eg_I := .inl (104, 1, .i2l, 0, 0) :: c_M_crosses_105
def c_M_crosses_103 : List eg_I := .inl (103, 1, .isub, 0, 0) :: c_M_crosses_104
def c_M_crosses_102 : List eg_I := .inl (102, 1, .iaload, 0, 0) :: c_M_crosses_103
def c_M_crosses_100 : List eg_I := .inl (100, 2, .iload 9, 0, 0) :: c_M_crosses_102
def c_M_crosses_97 : List eg_I := .inl (97, 3, .getfield 19, 12, 3) :: c_M_crosses_100
def c_M_crosses_96 : List eg_I := .inl (96, 1, .aload 0, 0, 0) :: c_M_crosses_97
def c_M_crosses_95 : List eg_I := .inl (95, 1, .iaload, 0, 0) :: c_M_crosses_96
def c_M_crosses_93 : List eg_I := .inl (93, 2, .iload 11, 0, 0) :: c_M_crosses_95
def c_M_crosses_90 : List eg_I := .inl (90, 3, .getfield 19, 12, 3) :: c_M_crosses_93
def c_M_crosses_89 : List eg_I := .inl (89, 1, .aload 0, 0, 0) :: c_M_crosses_90
def c_M_crosses_87 : List eg_I := .inl (87, 2, .lload 7, 0, 0) :: c_M_crosses_89
def c_M_crosses_86 : List eg_I := .inl (86, 1, .ladd, 0, 0) :: c_M_crosses_87
def c_M_crosses_85 : List eg_I := .inl (85, 1, .lmul, 0, 0) :: c_M_crosses_86
def c_M_crosses_84 : List eg_I := .inl (84, 1, .i2l, 0, 0) :: c_M_crosses_85
def c_M_crosses_83 : List eg_I := .inl (83, 1, .isub, 0, 0) :: c_M_crosses_84
def c_M_crosses_82 : List eg_I := .inl (82, 1, .iaload, 0, 0) :: c_M_crosses_83
def c_M_crosses_80 : List eg_I := .inl (80, 2, .iload 9, 0, 0) :: c_M_crosses_82
def c_M_crosses_77 : List eg_I := .inl (77, 3, .getfield 16, 12, 2) :: c_M_crosses_80
def c_M_crosses_76 : List eg_I := .inl (76, 1, .aload 0, 0, 0) :: c_M_crosses_77
def c_M_crosses_75 : List eg_I := .inl (75, 1, .iaload, 0, 0) :: c_M_crosses_76
def c_M_crosses_73 : List eg_I := .inl (73, 2, .iload 11, 0, 0) :: c_M_crosses_75
def c_M_crosses_70 : List eg_I := .inl (70, 3, .getfield 16, 12, 2) :: c_M_crosses_73
def c_M_crosses_69 : List eg_I := .inl (69, 1, .aload 0, 0, 0) :: c_M_crosses_70
def c_M_crosses_67 : List eg_I := .inl (67, 2, .lload 5, 0, 0) :: c_M_crosses_69
def c_M_crosses_66 : List eg_I := .inl (66, 1, .lmul, 0, 0) :: c_M_crosses_67
def c_M_crosses_65 : List eg_I := .inl (65, 1, .i2l, 0, 0) :: c_M_crosses_66
def c_M_crosses_64 : List eg_I := .inl (64, 1, .isub, 0, 0) :: c_M_crosses_65
def c_M_crosses_63 : List eg_I := .inl (63, 1, .iaload, 0, 0) :: c_M_crosses_64
def c_M_crosses_61 : List eg_I := .inl (61, 2, .iload 9, 0, 0) :: c_M_crosses_63
def c_M_crosses_58 : List eg_I := .inl (58, 3, .getfield 13, 12, 1) :: c_M_crosses_61
def c_M_crosses_57 : List eg_I := .inl (57, 1, .aload 0, 0, 0) :: c_M_crosses_58
def c_M_crosses_56 : List eg_I := .inl (56, 1, .iaload, 0, 0) :: c_M_crosses_57
def c_M_crosses_54 : List eg_I := .inl (54, 2, .iload 11, 0, 0) :: c_M_crosses_56
def c_M_crosses_51 : List eg_I := .inl (51, 3, .getfield 13, 12, 1) :: c_M_crosses_54
def c_M_crosses_50 : List eg_I := .inl (50, 1, .aload 0, 0, 0) :: c_M_crosses_51
def c_M_crosses_49 : List eg_I := .inl (49, 1, .lload 3, 0, 0) :: c_M_crosses_50
def c_M_crosses_46 : List eg_I := .inl (46, 3, .ifCond .ne (121), 167, 0) :: c_M_crosses_49
def c_M_crosses_45 : List eg_I := .inl (45, 1, .baload, 0, 0) :: c_M_crosses_46
def c_M_crosses_43 : List eg_I := .inl (43, 2, .iload 11, 0, 0) :: c_M_crosses_45
def c_M_crosses_40 : List eg_I := .inl (40, 3, .getfield 22, 12, 4) :: c_M_crosses_43
def c_M_crosses_39 : List eg_I := .inl (39, 1, .aload 0, 0, 0) :: c_M_crosses_40
def c_M_crosses_37 : List eg_I := .inl (37, 2, .istore 11, 0, 0) :: c_M_crosses_39
def c_M_crosses_34 : List eg_I := .inr (34, 0, 103, n_M_at_II, 2, 12, 0, 0) :: c_M_crosses_37
def c_M_crosses_32 : List eg_I := .inl (32, 2, .iload 10, 0, 0) :: c_M_crosses_34
def c_M_crosses_31 : List eg_I := .inl (31, 1, .iload 1, 0, 0) :: c_M_crosses_32
def c_M_crosses_28 : List eg_I := .inl (28, 3, .if_icmp .ge (145), 173, 0) :: c_M_crosses_31
def c_M_crosses_27 : List eg_I := .inl (27, 1, .iaload, 0, 0) :: c_M_crosses_28
def c_M_crosses_26 : List eg_I := .inl (26, 1, .iload 1, 0, 0) :: c_M_crosses_27
def c_M_crosses_23 : List eg_I := .inl (23, 3, .getfield 9, 12, 0) :: c_M_crosses_26
def c_M_crosses_22 : List eg_I := .inl (22, 1, .aload 0, 0, 0) :: c_M_crosses_23
def c_M_crosses_20 : List eg_I := .inl (20, 2, .iload 10, 0, 0) :: c_M_crosses_22
def c_M_crosses_18 : List eg_I := .inl (18, 2, .istore 10, 0, 0) :: z_M_crosses_20
def c_M_crosses_17 : List eg_I := .inl (17, 1, .iconst (0), 0, 0) :: c_M_crosses_18
def c_M_crosses_15 : List eg_I := .inl (15, 2, .istore 9, 0, 0) :: c_M_crosses_17
def c_M_crosses_12 : List eg_I := .inr (12, 0, 103, n_M_at_II, 2, 12, 0, 0) :: c_M_crosses_15
def c_M_crosses_11 : List eg_I := .inl (11, 1, .iload 2, 0, 0) :: c_M_crosses_12
def c_M_crosses_10 : List eg_I := .inl (10, 1, .iload 1, 0, 0) :: c_M_crosses_11
def c_M_crosses_7 : List eg_I := .inl (7, 3, .putfield 176, 12, 32) :: c_M_crosses_10
def c_M_crosses_6 : List eg_I := .inl (6, 1, .iconst (-1), 0, 0) :: c_M_crosses_7
def c_M_crosses_5 : List eg_I := .inl (5, 1, .aload 0, 0, 0) :: c_M_crosses_6
def c_M_crosses_2 : List eg_I := .inl (2, 3, .putfield 172, 12, 31) :: c_M_crosses_5
def c_M_crosses_1 : List eg_I := .inl (1, 1, .iconst (-1), 0, 0) :: c_M_crosses_2
def c_M_crosses_0 : List eg_I := .inl (0, 1, .aload 0, 0, 0) :: c_M_crosses_1
section
variable {rm : Room} {K : Nat → Nat → Nat → eg_Lo → List Value → List eg_E → Prop} {Q : Option Value → List eg_E → Prop} {kc ks : Nat} {loc : eg_Lo} {st : List Value} {h : List eg_E}
theorem s_M_crosses_0 {x : Nat} {l : eg_Lo} : wps rm K Q c_M_crosses_0 kc ks (some (.ref x) :: l) (st) h = wps rm K Q c_M_crosses_1 kc ks (some (.ref x) :: l) (.ref x :: st) h := gk_aload rfl
theorem s_M_crosses_1  : wps rm K Q c_M_crosses_1 kc ks loc (st) h = wps rm K Q c_M_crosses_2 kc ks loc (.int (-1) :: st) h := gk_ic (by decide)
theorem s_M_crosses_2 {x : Nat} {v : Value} : wps rm K Q c_M_crosses_2 kc ks loc (v :: .ref (x + 1) :: st) h = eg_pf h x 12 31 v (fun h9 => wps rm K Q c_M_crosses_5 kc ks loc (st) h9) := gk_pf
theorem s_M_crosses_5 {x : Nat} {l : eg_Lo} : wps rm K Q c_M_crosses_5 kc ks (some (.ref x) :: l) (st) h = wps rm K Q c_M_crosses_6 kc ks (some (.ref x) :: l) (.ref x :: st) h := gk_aload rfl
theorem s_M_crosses_6  : wps rm K Q c_M_crosses_6 kc ks loc (st) h = wps rm K Q c_M_crosses_7 kc ks loc (.int (-1) :: st) h := gk_ic (by decide)
theorem s_M_crosses_7 {x : Nat} {v : Value} : wps rm K Q c_M_crosses_7 kc ks loc (v :: .ref (x + 1) :: st) h = eg_pf h x 12 32 v (fun h9 => wps rm K Q c_M_crosses_10 kc ks loc (st) h9) := gk_pf
theorem s_M_crosses_10 {x : Int32} {l0 : Option Value} {l : eg_Lo} : wps rm K Q c_M_crosses_10 kc ks (l0 :: some (.int x) :: l) (st) h = wps rm K Q c_M_crosses_11 kc ks (l0 :: some (.int x) :: l) (.int x :: st) h := gk_iload rfl
theorem s_M_crosses_11 {x : Int32} {l0 l1 : Option Value} {l : eg_Lo} : wps rm K Q c_M_crosses_11 kc ks (l0 :: l1 :: some (.int x) :: l) (st) h = wps rm K Q c_M_crosses_12 kc ks (l0 :: l1 :: some (.int x) :: l) (.int x :: st) h := gk_iload rfl
theorem s_M_crosses_12  {a1 : Value} {a2 : Value} : wps rm K Q c_M_crosses_12 kc ks loc (a2 :: a1 :: st) h = (st.length ≤ 4 ∧ eg_Cs n_M_at_II [a1, a2] h (fun v h9 => wps rm K Q c_M_crosses_15 kc ks loc (v.toList ++ st) h9)) := eg_c0_2
theorem s_M_crosses_15 {x : Int32} : wps rm K Q c_M_crosses_15 kc ks loc (.int x :: st) h = wps rm K Q c_M_crosses_17 kc ks (eg_set1 loc 9 (.int x)) (st) h := gk_istore
theorem s_M_crosses_17  : wps rm K Q c_M_crosses_17 kc ks loc (st) h = wps rm K Q c_M_crosses_18 kc ks loc (.int (0) :: st) h := gk_ic (by decide)
theorem s_M_crosses_18 {x : Int32} : wps rm K Q c_M_crosses_18 kc ks loc (.int x :: st) h = wps rm K Q z_M_crosses_20 kc ks (eg_set1 loc 10 (.int x)) (st) h := gk_istore
theorem s_M_crosses_20 {x : Int32} {l0 l1 l2 l3 l4 l5 l6 l7 l8 l9 : Option Value} {l : eg_Lo} : wps rm K Q c_M_crosses_20 kc ks (l0 :: l1 :: l2 :: l3 :: l4 :: l5 :: l6 :: l7 :: l8 :: l9 :: some (.int x) :: l) (st) h = wps rm K Q c_M_crosses_22 kc ks (l0 :: l1 :: l2 :: l3 :: l4 :: l5 :: l6 :: l7 :: l8 :: l9 :: some (.int x) :: l) (.int x :: st) h := gk_iload rfl
theorem s_M_crosses_22 {x : Nat} {l : eg_Lo} : wps rm K Q c_M_crosses_22 kc ks (some (.ref x) :: l) (st) h = wps rm K Q c_M_crosses_23 kc ks (some (.ref x) :: l) (.ref x :: st) h := gk_aload rfl
theorem s_M_crosses_23 {x : Nat} : wps rm K Q c_M_crosses_23 kc ks loc (.ref (x + 1) :: st) h = eg_gf h x 12 0 (fun v => wps rm K Q c_M_crosses_26 kc ks loc (v :: st) h) := gk_gf
theorem s_M_crosses_26 {x : Int32} {l0 : Option Value} {l : eg_Lo} : wps rm K Q c_M_crosses_26 kc ks (l0 :: some (.int x) :: l) (st) h = wps rm K Q c_M_crosses_27 kc ks (l0 :: some (.int x) :: l) (.int x :: st) h := gk_iload rfl
theorem s_M_crosses_27 {x : Nat} {i : Int32} : wps rm K Q c_M_crosses_27 kc ks loc (.int i :: .ref (x + 1) :: st) h = eg_ia h x i (fun v => wps rm K Q c_M_crosses_28 kc ks loc (.int v :: st) h) := gk_iaload
theorem s_M_crosses_28 {x y : Int32} : wps rm K Q c_M_crosses_28 kc ks loc (.int y :: .int x :: st) h = ((y ≤ x → K 173 kc ks loc st h) ∧ (¬ y ≤ x → wps rm K Q c_M_crosses_31 kc ks loc (st) h)) := gk_if2_ge
theorem s_M_crosses_31 {x : Int32} {l0 : Option Value} {l : eg_Lo} : wps rm K Q c_M_crosses_31 kc ks (l0 :: some (.int x) :: l) (st) h = wps rm K Q c_M_crosses_32 kc ks (l0 :: some (.int x) :: l) (.int x :: st) h := gk_iload rfl
theorem s_M_crosses_32 {x : Int32} {l0 l1 l2 l3 l4 l5 l6 l7 l8 l9 : Option Value} {l : eg_Lo} : wps rm K Q c_M_crosses_32 kc ks (l0 :: l1 :: l2 :: l3 :: l4 :: l5 :: l6 :: l7 :: l8 :: l9 :: some (.int x) :: l) (st) h = wps rm K Q c_M_crosses_34 kc ks (l0 :: l1 :: l2 :: l3 :: l4 :: l5 :: l6 :: l7 :: l8 :: l9 :: some (.int x) :: l) (.int x :: st) h := gk_iload rfl
theorem s_M_crosses_34  {a1 : Value} {a2 : Value} : wps rm K Q c_M_crosses_34 kc ks loc (a2 :: a1 :: st) h = (st.length ≤ 4 ∧ eg_Cs n_M_at_II [a1, a2] h (fun v h9 => wps rm K Q c_M_crosses_37 kc ks loc (v.toList ++ st) h9)) := eg_c0_2
theorem s_M_crosses_37 {x : Int32} : wps rm K Q c_M_crosses_37 kc ks loc (.int x :: st) h = wps rm K Q c_M_crosses_39 kc ks (eg_set1 loc 11 (.int x)) (st) h := gk_istore
theorem s_M_crosses_39 {x : Nat} {l : eg_Lo} : wps rm K Q c_M_crosses_39 kc ks (some (.ref x) :: l) (st) h = wps rm K Q c_M_crosses_40 kc ks (some (.ref x) :: l) (.ref x :: st) h := gk_aload rfl
theorem s_M_crosses_40 {x : Nat} : wps rm K Q c_M_crosses_40 kc ks loc (.ref (x + 1) :: st) h = eg_gf h x 12 4 (fun v => wps rm K Q c_M_crosses_43 kc ks loc (v :: st) h) := gk_gf
theorem s_M_crosses_43 {x : Int32} {l0 l1 l2 l3 l4 l5 l6 l7 l8 l9 l10 : Option Value} {l : eg_Lo} : wps rm K Q c_M_crosses_43 kc ks (l0 :: l1 :: l2 :: l3 :: l4 :: l5 :: l6 :: l7 :: l8 :: l9 :: l10 :: some (.int x) :: l) (st) h = wps rm K Q c_M_crosses_45 kc ks (l0 :: l1 :: l2 :: l3 :: l4 :: l5 :: l6 :: l7 :: l8 :: l9 :: l10 :: some (.int x) :: l) (.int x :: st) h := gk_iload rfl
theorem s_M_crosses_45 {x : Nat} {i : Int32} : wps rm K Q c_M_crosses_45 kc ks loc (.int i :: .ref (x + 1) :: st) h = eg_ba h x i (fun v => wps rm K Q c_M_crosses_46 kc ks loc (.int v :: st) h) := gk_baload
theorem s_M_crosses_46 {x : Int32} : wps rm K Q c_M_crosses_46 kc ks loc (.int x :: st) h = ((¬ x = 0 → K 167 kc ks loc st h) ∧ (x = 0 → wps rm K Q c_M_crosses_49 kc ks loc (st) h)) := gk_if1_ne
theorem s_M_crosses_49 {x : Int64} {l0 l1 l2 : Option Value} {l : eg_Lo} : wps rm K Q c_M_crosses_49 kc ks (l0 :: l1 :: l2 :: some (.long x) :: l) (st) h = wps rm K Q c_M_crosses_50 kc ks (l0 :: l1 :: l2 :: some (.long x) :: l) (.long x :: st) h := gk_lload rfl
theorem s_M_crosses_50 {x : Nat} {l : eg_Lo} : wps rm K Q c_M_crosses_50 kc ks (some (.ref x) :: l) (st) h = wps rm K Q c_M_crosses_51 kc ks (some (.ref x) :: l) (.ref x :: st) h := gk_aload rfl
theorem s_M_crosses_51 {x : Nat} : wps rm K Q c_M_crosses_51 kc ks loc (.ref (x + 1) :: st) h = eg_gf h x 12 1 (fun v => wps rm K Q c_M_crosses_54 kc ks loc (v :: st) h) := gk_gf
theorem s_M_crosses_54 {x : Int32} {l0 l1 l2 l3 l4 l5 l6 l7 l8 l9 l10 : Option Value} {l : eg_Lo} : wps rm K Q c_M_crosses_54 kc ks (l0 :: l1 :: l2 :: l3 :: l4 :: l5 :: l6 :: l7 :: l8 :: l9 :: l10 :: some (.int x) :: l) (st) h = wps rm K Q c_M_crosses_56 kc ks (l0 :: l1 :: l2 :: l3 :: l4 :: l5 :: l6 :: l7 :: l8 :: l9 :: l10 :: some (.int x) :: l) (.int x :: st) h := gk_iload rfl
theorem s_M_crosses_56 {x : Nat} {i : Int32} : wps rm K Q c_M_crosses_56 kc ks loc (.int i :: .ref (x + 1) :: st) h = eg_ia h x i (fun v => wps rm K Q c_M_crosses_57 kc ks loc (.int v :: st) h) := gk_iaload
theorem s_M_crosses_57 {x : Nat} {l : eg_Lo} : wps rm K Q c_M_crosses_57 kc ks (some (.ref x) :: l) (st) h = wps rm K Q c_M_crosses_58 kc ks (some (.ref x) :: l) (.ref x :: st) h := gk_aload rfl
theorem s_M_crosses_58 {x : Nat} : wps rm K Q c_M_crosses_58 kc ks loc (.ref (x + 1) :: st) h = eg_gf h x 12 1 (fun v => wps rm K Q c_M_crosses_61 kc ks loc (v :: st) h) := gk_gf
theorem s_M_crosses_61 {x : Int32} {l0 l1 l2 l3 l4 l5 l6 l7 l8 : Option Value} {l : eg_Lo} : wps rm K Q c_M_crosses_61 kc ks (l0 :: l1 :: l2 :: l3 :: l4 :: l5 :: l6 :: l7 :: l8 :: some (.int x) :: l) (st) h = wps rm K Q c_M_crosses_63 kc ks (l0 :: l1 :: l2 :: l3 :: l4 :: l5 :: l6 :: l7 :: l8 :: some (.int x) :: l) (.int x :: st) h := gk_iload rfl
theorem s_M_crosses_63 {x : Nat} {i : Int32} : wps rm K Q c_M_crosses_63 kc ks loc (.int i :: .ref (x + 1) :: st) h = eg_ia h x i (fun v => wps rm K Q c_M_crosses_64 kc ks loc (.int v :: st) h) := gk_iaload
theorem s_M_crosses_64 {x y : Int32} : wps rm K Q c_M_crosses_64 kc ks loc (.int y :: .int x :: st) h = wps rm K Q c_M_crosses_65 kc ks loc (.int (x - y) :: st) h := gk_isub
theorem s_M_crosses_65 {x : Int32} : wps rm K Q c_M_crosses_65 kc ks loc (.int x :: st) h = wps rm K Q c_M_crosses_66 kc ks loc (.long (x.toInt64) :: st) h := gk_i2l
theorem s_M_crosses_66 {x y : Int64} : wps rm K Q c_M_crosses_66 kc ks loc (.long y :: .long x :: st) h = wps rm K Q c_M_crosses_67 kc ks loc (.long (x * y) :: st) h := gk_lmul
theorem s_M_crosses_67 {x : Int64} {l0 l1 l2 l3 l4 : Option Value} {l : eg_Lo} : wps rm K Q c_M_crosses_67 kc ks (l0 :: l1 :: l2 :: l3 :: l4 :: some (.long x) :: l) (st) h = wps rm K Q c_M_crosses_69 kc ks (l0 :: l1 :: l2 :: l3 :: l4 :: some (.long x) :: l) (.long x :: st) h := gk_lload rfl
theorem s_M_crosses_69 {x : Nat} {l : eg_Lo} : wps rm K Q c_M_crosses_69 kc ks (some (.ref x) :: l) (st) h = wps rm K Q c_M_crosses_70 kc ks (some (.ref x) :: l) (.ref x :: st) h := gk_aload rfl
theorem s_M_crosses_70 {x : Nat} : wps rm K Q c_M_crosses_70 kc ks loc (.ref (x + 1) :: st) h = eg_gf h x 12 2 (fun v => wps rm K Q c_M_crosses_73 kc ks loc (v :: st) h) := gk_gf
theorem s_M_crosses_73 {x : Int32} {l0 l1 l2 l3 l4 l5 l6 l7 l8 l9 l10 : Option Value} {l : eg_Lo} : wps rm K Q c_M_crosses_73 kc ks (l0 :: l1 :: l2 :: l3 :: l4 :: l5 :: l6 :: l7 :: l8 :: l9 :: l10 :: some (.int x) :: l) (st) h = wps rm K Q c_M_crosses_75 kc ks (l0 :: l1 :: l2 :: l3 :: l4 :: l5 :: l6 :: l7 :: l8 :: l9 :: l10 :: some (.int x) :: l) (.int x :: st) h := gk_iload rfl
theorem s_M_crosses_75 {x : Nat} {i : Int32} : wps rm K Q c_M_crosses_75 kc ks loc (.int i :: .ref (x + 1) :: st) h = eg_ia h x i (fun v => wps rm K Q c_M_crosses_76 kc ks loc (.int v :: st) h) := gk_iaload
theorem s_M_crosses_76 {x : Nat} {l : eg_Lo} : wps rm K Q c_M_crosses_76 kc ks (some (.ref x) :: l) (st) h = wps rm K Q c_M_crosses_77 kc ks (some (.ref x) :: l) (.ref x :: st) h := gk_aload rfl
theorem s_M_crosses_77 {x : Nat} : wps rm K Q c_M_crosses_77 kc ks loc (.ref (x + 1) :: st) h = eg_gf h x 12 2 (fun v => wps rm K Q c_M_crosses_80 kc ks loc (v :: st) h) := gk_gf
theorem s_M_crosses_80 {x : Int32} {l0 l1 l2 l3 l4 l5 l6 l7 l8 : Option Value} {l : eg_Lo} : wps rm K Q c_M_crosses_80 kc ks (l0 :: l1 :: l2 :: l3 :: l4 :: l5 :: l6 :: l7 :: l8 :: some (.int x) :: l) (st) h = wps rm K Q c_M_crosses_82 kc ks (l0 :: l1 :: l2 :: l3 :: l4 :: l5 :: l6 :: l7 :: l8 :: some (.int x) :: l) (.int x :: st) h := gk_iload rfl
theorem s_M_crosses_82 {x : Nat} {i : Int32} : wps rm K Q c_M_crosses_82 kc ks loc (.int i :: .ref (x + 1) :: st) h = eg_ia h x i (fun v => wps rm K Q c_M_crosses_83 kc ks loc (.int v :: st) h) := gk_iaload
theorem s_M_crosses_83 {x y : Int32} : wps rm K Q c_M_crosses_83 kc ks loc (.int y :: .int x :: st) h = wps rm K Q c_M_crosses_84 kc ks loc (.int (x - y) :: st) h := gk_isub
theorem s_M_crosses_84 {x : Int32} : wps rm K Q c_M_crosses_84 kc ks loc (.int x :: st) h = wps rm K Q c_M_crosses_85 kc ks loc (.long (x.toInt64) :: st) h := gk_i2l
theorem s_M_crosses_85 {x y : Int64} : wps rm K Q c_M_crosses_85 kc ks loc (.long y :: .long x :: st) h = wps rm K Q c_M_crosses_86 kc ks loc (.long (x * y) :: st) h := gk_lmul
theorem s_M_crosses_86 {x y : Int64} : wps rm K Q c_M_crosses_86 kc ks loc (.long y :: .long x :: st) h = wps rm K Q c_M_crosses_87 kc ks loc (.long (x + y) :: st) h := gk_ladd
theorem s_M_crosses_87 {x : Int64} {l0 l1 l2 l3 l4 l5 l6 : Option Value} {l : eg_Lo} : wps rm K Q c_M_crosses_87 kc ks (l0 :: l1 :: l2 :: l3 :: l4 :: l5 :: l6 :: some (.long x) :: l) (st) h = wps rm K Q c_M_crosses_89 kc ks (l0 :: l1 :: l2 :: l3 :: l4 :: l5 :: l6 :: some (.long x) :: l) (.long x :: st) h := gk_lload rfl
theorem s_M_crosses_89 {x : Nat} {l : eg_Lo} : wps rm K Q c_M_crosses_89 kc ks (some (.ref x) :: l) (st) h = wps rm K Q c_M_crosses_90 kc ks (some (.ref x) :: l) (.ref x :: st) h := gk_aload rfl
theorem s_M_crosses_90 {x : Nat} : wps rm K Q c_M_crosses_90 kc ks loc (.ref (x + 1) :: st) h = eg_gf h x 12 3 (fun v => wps rm K Q c_M_crosses_93 kc ks loc (v :: st) h) := gk_gf
theorem s_M_crosses_93 {x : Int32} {l0 l1 l2 l3 l4 l5 l6 l7 l8 l9 l10 : Option Value} {l : eg_Lo} : wps rm K Q c_M_crosses_93 kc ks (l0 :: l1 :: l2 :: l3 :: l4 :: l5 :: l6 :: l7 :: l8 :: l9 :: l10 :: some (.int x) :: l) (st) h = wps rm K Q c_M_crosses_95 kc ks (l0 :: l1 :: l2 :: l3 :: l4 :: l5 :: l6 :: l7 :: l8 :: l9 :: l10 :: some (.int x) :: l) (.int x :: st) h := gk_iload rfl
theorem s_M_crosses_95 {x : Nat} {i : Int32} : wps rm K Q c_M_crosses_95 kc ks loc (.int i :: .ref (x + 1) :: st) h = eg_ia h x i (fun v => wps rm K Q c_M_crosses_96 kc ks loc (.int v :: st) h) := gk_iaload
theorem s_M_crosses_96 {x : Nat} {l : eg_Lo} : wps rm K Q c_M_crosses_96 kc ks (some (.ref x) :: l) (st) h = wps rm K Q c_M_crosses_97 kc ks (some (.ref x) :: l) (.ref x :: st) h := gk_aload rfl
theorem s_M_crosses_97 {x : Nat} : wps rm K Q c_M_crosses_97 kc ks loc (.ref (x + 1) :: st) h = eg_gf h x 12 3 (fun v => wps rm K Q c_M_crosses_100 kc ks loc (v :: st) h) := gk_gf
theorem s_M_crosses_100 {x : Int32} {l0 l1 l2 l3 l4 l5 l6 l7 l8 : Option Value} {l : eg_Lo} : wps rm K Q c_M_crosses_100 kc ks (l0 :: l1 :: l2 :: l3 :: l4 :: l5 :: l6 :: l7 :: l8 :: some (.int x) :: l) (st) h = wps rm K Q c_M_crosses_102 kc ks (l0 :: l1 :: l2 :: l3 :: l4 :: l5 :: l6 :: l7 :: l8 :: some (.int x) :: l) (.int x :: st) h := gk_iload rfl
theorem s_M_crosses_102 {x : Nat} {i : Int32} : wps rm K Q c_M_crosses_102 kc ks loc (.int i :: .ref (x + 1) :: st) h = eg_ia h x i (fun v => wps rm K Q c_M_crosses_103 kc ks loc (.int v :: st) h) := gk_iaload
theorem s_M_crosses_103 {x y : Int32} : wps rm K Q c_M_crosses_103 kc ks loc (.int y :: .int x :: st) h = wps rm K Q c_M_crosses_104 kc ks loc (.int (x - y) :: st) h := gk_isub
theorem s_M_crosses_104 {x : Int32} : wps rm K Q c_M_crosses_104 kc ks loc (.int x :: st) h = wps rm K Q c_M_crosses_105 kc ks loc (.long (x.toInt64) :: st) h := gk_i2l
theorem s_M_crosses_105 {x y : Int64} : wps rm K Q c_M_crosses_105 kc ks loc (.long y :: .long x :: st) h = wps rm K Q c_M_crosses_106 kc ks loc (.long (x * y) :: st) h := gk_lmul
theorem s_M_crosses_106 {x y : Int64} : wps rm K Q c_M_crosses_106 kc ks loc (.long y :: .long x :: st) h = wps rm K Q c_M_crosses_107 kc ks loc (.long (x + y) :: st) h := gk_ladd
theorem s_M_crosses_107 {x : Int64} : wps rm K Q c_M_crosses_107 kc ks loc (.long x :: st) h = wps rm K Q c_M_crosses_109 kc ks (eg_set2 loc 12 (.long x)) (st) h := gk_lstore
theorem s_M_crosses_109 {x : Nat} {l : eg_Lo} : wps rm K Q c_M_crosses_109 kc ks (some (.ref x) :: l) (st) h = wps rm K Q c_M_crosses_110 kc ks (some (.ref x) :: l) (.ref x :: st) h := gk_aload rfl
theorem s_M_crosses_110 {x : Nat} : wps rm K Q c_M_crosses_110 kc ks loc (.ref (x + 1) :: st) h = eg_gf h x 12 31 (fun v => wps rm K Q c_M_crosses_113 kc ks loc (v :: st) h) := gk_gf
theorem s_M_crosses_113 {x : Int32} : wps rm K Q c_M_crosses_113 kc ks loc (.int x :: st) h = ((x < 0 → K 126 kc ks loc st h) ∧ (¬ x < 0 → wps rm K Q c_M_crosses_116 kc ks loc (st) h)) := gk_if1_lt
theorem s_M_crosses_116 {x : Int64} {l0 l1 l2 l3 l4 l5 l6 l7 l8 l9 l10 l11 : Option Value} {l : eg_Lo} : wps rm K Q c_M_crosses_116 kc ks (l0 :: l1 :: l2 :: l3 :: l4 :: l5 :: l6 :: l7 :: l8 :: l9 :: l10 :: l11 :: some (.long x) :: l) (st) h = wps rm K Q c_M_crosses_118 kc ks (l0 :: l1 :: l2 :: l3 :: l4 :: l5 :: l6 :: l7 :: l8 :: l9 :: l10 :: l11 :: some (.long x) :: l) (.long x :: st) h := gk_lload rfl
theorem s_M_crosses_118 {x : Nat} {l : eg_Lo} : wps rm K Q c_M_crosses_118 kc ks (some (.ref x) :: l) (st) h = wps rm K Q c_M_crosses_119 kc ks (some (.ref x) :: l) (.ref x :: st) h := gk_aload rfl
theorem s_M_crosses_119 {x : Nat} : wps rm K Q c_M_crosses_119 kc ks loc (.ref (x + 1) :: st) h = eg_gf h x 12 29 (fun v => wps rm K Q c_M_crosses_122 kc ks loc (v :: st) h) := gk_gf
theorem s_M_crosses_122 {x y : Int64} : wps rm K Q c_M_crosses_122 kc ks loc (.long y :: .long x :: st) h = wps rm K Q c_M_crosses_123 kc ks loc (.int (lg_cmp x y) :: st) h := gk_lcmp
theorem s_M_crosses_123 {x : Int32} : wps rm K Q c_M_crosses_123 kc ks loc (.int x :: st) h = ((x ≤ 0 → K 138 kc ks loc st h) ∧ (¬ x ≤ 0 → wps rm K Q c_M_crosses_126 kc ks loc (st) h)) := gk_if1_le
theorem s_M_crosses_126 {x : Nat} {l : eg_Lo} : wps rm K Q c_M_crosses_126 kc ks (some (.ref x) :: l) (st) h = wps rm K Q c_M_crosses_127 kc ks (some (.ref x) :: l) (.ref x :: st) h := gk_aload rfl
theorem s_M_crosses_127 {x : Int64} {l0 l1 l2 l3 l4 l5 l6 l7 l8 l9 l10 l11 : Option Value} {l : eg_Lo} : wps rm K Q c_M_crosses_127 kc ks (l0 :: l1 :: l2 :: l3 :: l4 :: l5 :: l6 :: l7 :: l8 :: l9 :: l10 :: l11 :: some (.long x) :: l) (st) h = wps rm K Q c_M_crosses_129 kc ks (l0 :: l1 :: l2 :: l3 :: l4 :: l5 :: l6 :: l7 :: l8 :: l9 :: l10 :: l11 :: some (.long x) :: l) (.long x :: st) h := gk_lload rfl
theorem s_M_crosses_129 {x : Nat} {v : Value} : wps rm K Q c_M_crosses_129 kc ks loc (v :: .ref (x + 1) :: st) h = eg_pf h x 12 29 v (fun h9 => wps rm K Q c_M_crosses_132 kc ks loc (st) h9) := gk_pf
theorem s_M_crosses_132 {x : Nat} {l : eg_Lo} : wps rm K Q c_M_crosses_132 kc ks (some (.ref x) :: l) (st) h = wps rm K Q c_M_crosses_133 kc ks (some (.ref x) :: l) (.ref x :: st) h := gk_aload rfl
theorem s_M_crosses_133 {x : Int32} {l0 l1 l2 l3 l4 l5 l6 l7 l8 l9 : Option Value} {l : eg_Lo} : wps rm K Q c_M_crosses_133 kc ks (l0 :: l1 :: l2 :: l3 :: l4 :: l5 :: l6 :: l7 :: l8 :: l9 :: some (.int x) :: l) (st) h = wps rm K Q c_M_crosses_135 kc ks (l0 :: l1 :: l2 :: l3 :: l4 :: l5 :: l6 :: l7 :: l8 :: l9 :: some (.int x) :: l) (.int x :: st) h := gk_iload rfl
theorem s_M_crosses_135 {x : Nat} {v : Value} : wps rm K Q c_M_crosses_135 kc ks loc (v :: .ref (x + 1) :: st) h = eg_pf h x 12 31 v (fun h9 => wps rm K Q c_M_crosses_138 kc ks loc (st) h9) := gk_pf
theorem s_M_crosses_138 {x : Nat} {l : eg_Lo} : wps rm K Q c_M_crosses_138 kc ks (some (.ref x) :: l) (st) h = wps rm K Q c_M_crosses_139 kc ks (some (.ref x) :: l) (.ref x :: st) h := gk_aload rfl
theorem s_M_crosses_139 {x : Nat} : wps rm K Q c_M_crosses_139 kc ks loc (.ref (x + 1) :: st) h = eg_gf h x 12 32 (fun v => wps rm K Q c_M_crosses_142 kc ks loc (v :: st) h) := gk_gf
theorem s_M_crosses_142 {x : Int32} : wps rm K Q c_M_crosses_142 kc ks loc (.int x :: st) h = ((x < 0 → K 155 kc ks loc st h) ∧ (¬ x < 0 → wps rm K Q c_M_crosses_145 kc ks loc (st) h)) := gk_if1_lt
theorem s_M_crosses_145 {x : Int64} {l0 l1 l2 l3 l4 l5 l6 l7 l8 l9 l10 l11 : Option Value} {l : eg_Lo} : wps rm K Q c_M_crosses_145 kc ks (l0 :: l1 :: l2 :: l3 :: l4 :: l5 :: l6 :: l7 :: l8 :: l9 :: l10 :: l11 :: some (.long x) :: l) (st) h = wps rm K Q c_M_crosses_147 kc ks (l0 :: l1 :: l2 :: l3 :: l4 :: l5 :: l6 :: l7 :: l8 :: l9 :: l10 :: l11 :: some (.long x) :: l) (.long x :: st) h := gk_lload rfl
theorem s_M_crosses_147 {x : Nat} {l : eg_Lo} : wps rm K Q c_M_crosses_147 kc ks (some (.ref x) :: l) (st) h = wps rm K Q c_M_crosses_148 kc ks (some (.ref x) :: l) (.ref x :: st) h := gk_aload rfl
theorem s_M_crosses_148 {x : Nat} : wps rm K Q c_M_crosses_148 kc ks loc (.ref (x + 1) :: st) h = eg_gf h x 12 30 (fun v => wps rm K Q c_M_crosses_151 kc ks loc (v :: st) h) := gk_gf
theorem s_M_crosses_151 {x y : Int64} : wps rm K Q c_M_crosses_151 kc ks loc (.long y :: .long x :: st) h = wps rm K Q c_M_crosses_152 kc ks loc (.int (lg_cmp x y) :: st) h := gk_lcmp
theorem s_M_crosses_152 {x : Int32} : wps rm K Q c_M_crosses_152 kc ks loc (.int x :: st) h = ((0 ≤ x → K 167 kc ks loc st h) ∧ (¬ 0 ≤ x → wps rm K Q c_M_crosses_155 kc ks loc (st) h)) := gk_if1_ge
theorem s_M_crosses_155 {x : Nat} {l : eg_Lo} : wps rm K Q c_M_crosses_155 kc ks (some (.ref x) :: l) (st) h = wps rm K Q c_M_crosses_156 kc ks (some (.ref x) :: l) (.ref x :: st) h := gk_aload rfl
theorem s_M_crosses_156 {x : Int64} {l0 l1 l2 l3 l4 l5 l6 l7 l8 l9 l10 l11 : Option Value} {l : eg_Lo} : wps rm K Q c_M_crosses_156 kc ks (l0 :: l1 :: l2 :: l3 :: l4 :: l5 :: l6 :: l7 :: l8 :: l9 :: l10 :: l11 :: some (.long x) :: l) (st) h = wps rm K Q c_M_crosses_158 kc ks (l0 :: l1 :: l2 :: l3 :: l4 :: l5 :: l6 :: l7 :: l8 :: l9 :: l10 :: l11 :: some (.long x) :: l) (.long x :: st) h := gk_lload rfl
theorem s_M_crosses_158 {x : Nat} {v : Value} : wps rm K Q c_M_crosses_158 kc ks loc (v :: .ref (x + 1) :: st) h = eg_pf h x 12 30 v (fun h9 => wps rm K Q c_M_crosses_161 kc ks loc (st) h9) := gk_pf
theorem s_M_crosses_161 {x : Nat} {l : eg_Lo} : wps rm K Q c_M_crosses_161 kc ks (some (.ref x) :: l) (st) h = wps rm K Q c_M_crosses_162 kc ks (some (.ref x) :: l) (.ref x :: st) h := gk_aload rfl
theorem s_M_crosses_162 {x : Int32} {l0 l1 l2 l3 l4 l5 l6 l7 l8 l9 : Option Value} {l : eg_Lo} : wps rm K Q c_M_crosses_162 kc ks (l0 :: l1 :: l2 :: l3 :: l4 :: l5 :: l6 :: l7 :: l8 :: l9 :: some (.int x) :: l) (st) h = wps rm K Q c_M_crosses_164 kc ks (l0 :: l1 :: l2 :: l3 :: l4 :: l5 :: l6 :: l7 :: l8 :: l9 :: some (.int x) :: l) (.int x :: st) h := gk_iload rfl
theorem s_M_crosses_164 {x : Nat} {v : Value} : wps rm K Q c_M_crosses_164 kc ks loc (v :: .ref (x + 1) :: st) h = eg_pf h x 12 32 v (fun h9 => wps rm K Q c_M_crosses_167 kc ks loc (st) h9) := gk_pf
theorem s_M_crosses_167 {x : Int32} {l0 l1 l2 l3 l4 l5 l6 l7 l8 l9 : Option Value} {lz : eg_Lo} : wps rm K Q c_M_crosses_167 kc ks (l0 :: l1 :: l2 :: l3 :: l4 :: l5 :: l6 :: l7 :: l8 :: l9 :: some (.int x) :: lz) (st) h = wps rm K Q c_M_crosses_170 kc ks (eg_set1 (l0 :: l1 :: l2 :: l3 :: l4 :: l5 :: l6 :: l7 :: l8 :: l9 :: some (.int x) :: lz) 10 (.int (x + (1)))) (st) h := gk_iinc rfl (by decide)
theorem s_M_crosses_170  : wps rm K Q c_M_crosses_170 kc ks loc (st) h = K 20 kc ks loc st h := gk_goto
theorem s_M_crosses_173  : wps rm K Q c_M_crosses_173 kc ks loc ([]) h = (kc = rm.cells ∧ Q none h) := gk_vret
theorem sz_M_crosses_20 : wps rm K Q z_M_crosses_20 kc ks loc st h = K 20 kc ks loc st h := gk_nop
def T_M_crosses : List (Nat × List eg_I) := [(126, c_M_crosses_126), (138, c_M_crosses_138), (155, c_M_crosses_155), (167, c_M_crosses_167), (173, c_M_crosses_173)]
theorem j_M_crosses_126 {R : Nat → Nat → Nat → eg_Lo → List Value → List eg_E → Prop} {f pc0 : Nat} : eg_run rm R Q T_M_crosses (f + 1) 126 kc ks loc st h = wps rm (eg_run rm R Q T_M_crosses f) Q c_M_crosses_126 kc ks loc st h := rfl
theorem j_M_crosses_138 {R : Nat → Nat → Nat → eg_Lo → List Value → List eg_E → Prop} {f pc0 : Nat} : eg_run rm R Q T_M_crosses (f + 1) 138 kc ks loc st h = wps rm (eg_run rm R Q T_M_crosses f) Q c_M_crosses_138 kc ks loc st h := rfl
theorem j_M_crosses_155 {R : Nat → Nat → Nat → eg_Lo → List Value → List eg_E → Prop} {f pc0 : Nat} : eg_run rm R Q T_M_crosses (f + 1) 155 kc ks loc st h = wps rm (eg_run rm R Q T_M_crosses f) Q c_M_crosses_155 kc ks loc st h := rfl
theorem j_M_crosses_167 {R : Nat → Nat → Nat → eg_Lo → List Value → List eg_E → Prop} {f pc0 : Nat} : eg_run rm R Q T_M_crosses (f + 1) 167 kc ks loc st h = wps rm (eg_run rm R Q T_M_crosses f) Q c_M_crosses_167 kc ks loc st h := rfl
theorem j_M_crosses_173 {R : Nat → Nat → Nat → eg_Lo → List Value → List eg_E → Prop} {f pc0 : Nat} : eg_run rm R Q T_M_crosses (f + 1) 173 kc ks loc st h = wps rm (eg_run rm R Q T_M_crosses f) Q c_M_crosses_173 kc ks loc st h := rfl
theorem j_M_crosses_20 {R : Nat → Nat → Nat → eg_Lo → List Value → List eg_E → Prop} {f pc0 : Nat} : eg_run rm R Q T_M_crosses (f + 1) 20 kc ks loc st h = R 20 kc ks loc st h := rfl
end
theorem y_M_crosses_0 : eg_seq m_M_crosses 0 c_M_crosses_0 = true := by decide +kernel
theorem y_M_crosses_20 : eg_seq m_M_crosses 20 c_M_crosses_20 = true := by decide +kernel
theorem y_M_crosses_173 : eg_seq m_M_crosses 173 c_M_crosses_173 = true := by decide +kernel
theorem q_M_crosses : ∀ q ∈ T_M_crosses, eg_seq m_M_crosses q.1 q.2 = true := by
  intro q hq
  simp only [T_M_crosses, List.mem_cons, List.not_mem_nil, or_false] at hq
  rcases hq with rfl | rfl | rfl | rfl | rfl
  · exact (eg_seq_drop y_M_crosses_20 62 : eg_seq m_M_crosses 126 c_M_crosses_126 = true)
  · exact (eg_seq_drop y_M_crosses_20 68 : eg_seq m_M_crosses 138 c_M_crosses_138 = true)
  · exact (eg_seq_drop y_M_crosses_20 76 : eg_seq m_M_crosses 155 c_M_crosses_155 = true)
  · exact (eg_seq_drop y_M_crosses_20 82 : eg_seq m_M_crosses 167 c_M_crosses_167 = true)
  · exact y_M_crosses_173
theorem b_M_crosses {as : List Value} {h : List eg_E} {Q : Option Value → List eg_E → Prop} (hf : (eg_fl as).length ≤ 14) (hw : wps (eg_rm m_M_crosses) (eg_run (eg_rm m_M_crosses) (eg_R m_M_crosses Q (h.length + 0)) Q T_M_crosses 7) Q c_M_crosses_0 0 0 (eg_entry 14 as) [] h) : eg_Runs n_M_crosses as h Q := eg_begin2 (d := m_M_crosses) rfl (by decide) y_M_crosses_0 q_M_crosses hf hw
theorem p_M_crosses_20 {Q : Option Value → List eg_E → Prop} {n0 kc ks : Nat} {loc : eg_Lo} {st : List Value} {h : List eg_E} (hw : wps (eg_rm m_M_crosses) (eg_run (eg_rm m_M_crosses) (eg_R m_M_crosses Q n0) Q T_M_crosses 7) Q c_M_crosses_20 kc ks loc st h) : eg_R m_M_crosses Q n0 20 kc ks loc st h := eg_go2 y_M_crosses_20 q_M_crosses hw
/-! ===== M_isHere ===== -/
def c_M_isHere_18 : List eg_I := .inl (18, 1, .ireturn, 0, 1) :: []
def c_M_isHere_17 : List eg_I := .inl (17, 1, .iconst (0), 0, 0) :: c_M_isHere_18
def c_M_isHere_14 : List eg_I := .inl (14, 3, .goto (4), 18, 0) :: []
def c_M_isHere_13 : List eg_I := .inl (13, 1, .iconst (1), 0, 0) :: c_M_isHere_14
def c_M_isHere_10 : List eg_I := .inl (10, 3, .ifCond .ne (7), 17, 0) :: c_M_isHere_13
def c_M_isHere_9 : List eg_I := .inl (9, 1, .baload, 0, 0) :: c_M_isHere_10
def c_M_isHere_6 : List eg_I := .inr (6, 0, 103, n_M_at_II, 2, 12, 0, 0) :: c_M_isHere_9
def c_M_isHere_5 : List eg_I := .inl (5, 1, .iload 2, 0, 0) :: c_M_isHere_6
def c_M_isHere_4 : List eg_I := .inl (4, 1, .iload 1, 0, 0) :: c_M_isHere_5
def c_M_isHere_1 : List eg_I := .inl (1, 3, .getfield 22, 12, 4) :: c_M_isHere_4
def c_M_isHere_0 : List eg_I := .inl (0, 1, .aload 0, 0, 0) :: c_M_isHere_1
section
variable {rm : Room} {K : Nat → Nat → Nat → eg_Lo → List Value → List eg_E → Prop} {Q : Option Value → List eg_E → Prop} {kc ks : Nat} {loc : eg_Lo} {st : List Value} {h : List eg_E}
theorem s_M_isHere_0 {x : Nat} {l : eg_Lo} : wps rm K Q c_M_isHere_0 kc ks (some (.ref x) :: l) (st) h = wps rm K Q c_M_isHere_1 kc ks (some (.ref x) :: l) (.ref x :: st) h := gk_aload rfl
theorem s_M_isHere_1 {x : Nat} : wps rm K Q c_M_isHere_1 kc ks loc (.ref (x + 1) :: st) h = eg_gf h x 12 4 (fun v => wps rm K Q c_M_isHere_4 kc ks loc (v :: st) h) := gk_gf
theorem s_M_isHere_4 {x : Int32} {l0 : Option Value} {l : eg_Lo} : wps rm K Q c_M_isHere_4 kc ks (l0 :: some (.int x) :: l) (st) h = wps rm K Q c_M_isHere_5 kc ks (l0 :: some (.int x) :: l) (.int x :: st) h := gk_iload rfl
theorem s_M_isHere_5 {x : Int32} {l0 l1 : Option Value} {l : eg_Lo} : wps rm K Q c_M_isHere_5 kc ks (l0 :: l1 :: some (.int x) :: l) (st) h = wps rm K Q c_M_isHere_6 kc ks (l0 :: l1 :: some (.int x) :: l) (.int x :: st) h := gk_iload rfl
theorem s_M_isHere_6  {a1 : Value} {a2 : Value} : wps rm K Q c_M_isHere_6 kc ks loc (a2 :: a1 :: st) h = (st.length ≤ 4 ∧ eg_Cs n_M_at_II [a1, a2] h (fun v h9 => wps rm K Q c_M_isHere_9 kc ks loc (v.toList ++ st) h9)) := eg_c0_2
theorem s_M_isHere_9 {x : Nat} {i : Int32} : wps rm K Q c_M_isHere_9 kc ks loc (.int i :: .ref (x + 1) :: st) h = eg_ba h x i (fun v => wps rm K Q c_M_isHere_10 kc ks loc (.int v :: st) h) := gk_baload
theorem s_M_isHere_10 {x : Int32} : wps rm K Q c_M_isHere_10 kc ks loc (.int x :: st) h = ((¬ x = 0 → K 17 kc ks loc st h) ∧ (x = 0 → wps rm K Q c_M_isHere_13 kc ks loc (st) h)) := gk_if1_ne
theorem s_M_isHere_13  : wps rm K Q c_M_isHere_13 kc ks loc (st) h = wps rm K Q c_M_isHere_14 kc ks loc (.int (1) :: st) h := gk_ic (by decide)
theorem s_M_isHere_14  : wps rm K Q c_M_isHere_14 kc ks loc (st) h = K 18 kc ks loc st h := gk_goto
theorem s_M_isHere_17  : wps rm K Q c_M_isHere_17 kc ks loc (st) h = wps rm K Q c_M_isHere_18 kc ks loc (.int (0) :: st) h := gk_ic (by decide)
theorem s_M_isHere_18 {x : Int32} : wps rm K Q c_M_isHere_18 kc ks loc ([.int x]) h = (kc = rm.cells ∧ ((1 : Nat) = 1 → x = 0 ∨ x = 1) ∧ Q (some (.int x)) h) := gk_iret
def T_M_isHere : List (Nat × List eg_I) := [(17, c_M_isHere_17), (18, c_M_isHere_18)]
theorem j_M_isHere_17 {R : Nat → Nat → Nat → eg_Lo → List Value → List eg_E → Prop} {f pc0 : Nat} : eg_run rm R Q T_M_isHere (f + 1) 17 kc ks loc st h = wps rm (eg_run rm R Q T_M_isHere f) Q c_M_isHere_17 kc ks loc st h := rfl
theorem j_M_isHere_18 {R : Nat → Nat → Nat → eg_Lo → List Value → List eg_E → Prop} {f pc0 : Nat} : eg_run rm R Q T_M_isHere (f + 1) 18 kc ks loc st h = wps rm (eg_run rm R Q T_M_isHere f) Q c_M_isHere_18 kc ks loc st h := rfl
end
theorem y_M_isHere_0 : eg_seq m_M_isHere 0 c_M_isHere_0 = true := by decide +kernel
theorem y_M_isHere_17 : eg_seq m_M_isHere 17 c_M_isHere_17 = true := by decide +kernel
theorem q_M_isHere : ∀ q ∈ T_M_isHere, eg_seq m_M_isHere q.1 q.2 = true := by
  intro q hq
  simp only [T_M_isHere, List.mem_cons, List.not_mem_nil, or_false] at hq
  rcases hq with rfl | rfl
  · exact y_M_isHere_17
  · exact (eg_seq_drop y_M_isHere_17 1 : eg_seq m_M_isHere 18 c_M_isHere_18 = true)
theorem b_M_isHere {as : List Value} {h : List eg_E} {Q : Option Value → List eg_E → Prop} (hf : (eg_fl as).length ≤ 3) (hw : wps (eg_rm m_M_isHere) (eg_run (eg_rm m_M_isHere) (eg_R m_M_isHere Q (h.length + 0)) Q T_M_isHere 4) Q c_M_isHere_0 0 0 (eg_entry 3 as) [] h) : eg_Runs n_M_isHere as h Q := eg_begin2 (d := m_M_isHere) rfl (by decide) y_M_isHere_0 q_M_isHere hf hw
/-! ===== M_fitLine ===== -/
def z_M_fitLine_17 : List eg_I := [.inl (17, 0, .nop, 0, 0)]
def z_M_fitLine_34 : List eg_I := [.inl (34, 0, .nop, 0, 0)]
def c_M_fitLine_399 : List eg_I := .inl (399, 1, .lreturn, 0, 0) :: []
def c_M_fitLine_396 : List eg_I := .inl (396, 3, .sipush (4), 204, 0) :: c_M_fitLine_399
def c_M_fitLine_393 : List eg_I := .inr (393, 0, 200, n_M_lowest, 6, 12, 0, 0) :: c_M_fitLine_396
def c_M_fitLine_392 : List eg_I := .inl (392, 1, .iconst (1), 0, 0) :: c_M_fitLine_393
def c_M_fitLine_391 : List eg_I := .inl (391, 1, .imul, 0, 0) :: c_M_fitLine_392
def c_M_fitLine_390 : List eg_I := .inl (390, 1, .iload 1, 0, 0) :: c_M_fitLine_391
def c_M_fitLine_389 : List eg_I := .inl (389, 1, .iconst (3), 0, 0) :: c_M_fitLine_390
def c_M_fitLine_386 : List eg_I := .inl (386, 3, .getfield 48, 12, 12) :: c_M_fitLine_389
def c_M_fitLine_385 : List eg_I := .inl (385, 1, .aload 0, 0, 0) :: c_M_fitLine_386
def c_M_fitLine_384 : List eg_I := .inl (384, 1, .sipush (0), 0, 0) :: c_M_fitLine_385
def c_M_fitLine_382 : List eg_I := .inl (382, 2, .lload 12, 0, 0) :: c_M_fitLine_384
def c_M_fitLine_380 : List eg_I := .inl (380, 2, .lload 10, 0, 0) :: c_M_fitLine_382
def c_M_fitLine_377 : List eg_I := .inr (377, 1, 196, n_M_keepMiss, 3, 12, 0, 0) :: c_M_fitLine_380
def c_M_fitLine_375 : List eg_I := .inl (375, 2, .lload 6, 0, 0) :: c_M_fitLine_377
def c_M_fitLine_373 : List eg_I := .inl (373, 2, .lload 4, 0, 0) :: c_M_fitLine_375
def c_M_fitLine_372 : List eg_I := .inl (372, 1, .iload 1, 0, 0) :: c_M_fitLine_373
def c_M_fitLine_371 : List eg_I := .inl (371, 1, .aload 0, 0, 0) :: c_M_fitLine_372
def c_M_fitLine_370 : List eg_I := .inl (370, 1, .iastore, 0, 0) :: c_M_fitLine_371
def c_M_fitLine_367 : List eg_I := .inl (367, 3, .getfield 176, 12, 32) :: c_M_fitLine_370
def c_M_fitLine_366 : List eg_I := .inl (366, 1, .aload 0, 0, 0) :: c_M_fitLine_367
def c_M_fitLine_365 : List eg_I := .inl (365, 1, .iadd, 0, 0) :: c_M_fitLine_366
def c_M_fitLine_364 : List eg_I := .inl (364, 1, .iconst (3), 0, 0) :: c_M_fitLine_365
def c_M_fitLine_363 : List eg_I := .inl (363, 1, .imul, 0, 0) :: c_M_fitLine_364
def c_M_fitLine_362 : List eg_I := .inl (362, 1, .iload 1, 0, 0) :: c_M_fitLine_363
def c_M_fitLine_360 : List eg_I := .inl (360, 2, .iconst (6), 0, 0) :: c_M_fitLine_362
def c_M_fitLine_357 : List eg_I := .inl (357, 3, .getfield 38, 12, 9) :: c_M_fitLine_360
def c_M_fitLine_356 : List eg_I := .inl (356, 1, .aload 0, 0, 0) :: c_M_fitLine_357
def c_M_fitLine_355 : List eg_I := .inl (355, 1, .iastore, 0, 0) :: c_M_fitLine_356
def c_M_fitLine_352 : List eg_I := .inl (352, 3, .getfield 172, 12, 31) :: c_M_fitLine_355
def c_M_fitLine_351 : List eg_I := .inl (351, 1, .aload 0, 0, 0) :: c_M_fitLine_352
def c_M_fitLine_350 : List eg_I := .inl (350, 1, .iadd, 0, 0) :: c_M_fitLine_351
def c_M_fitLine_349 : List eg_I := .inl (349, 1, .iconst (2), 0, 0) :: c_M_fitLine_350
def c_M_fitLine_348 : List eg_I := .inl (348, 1, .imul, 0, 0) :: c_M_fitLine_349
def c_M_fitLine_347 : List eg_I := .inl (347, 1, .iload 1, 0, 0) :: c_M_fitLine_348
def c_M_fitLine_345 : List eg_I := .inl (345, 2, .iconst (6), 0, 0) :: c_M_fitLine_347
def c_M_fitLine_342 : List eg_I := .inl (342, 3, .getfield 38, 12, 9) :: c_M_fitLine_345
def c_M_fitLine_341 : List eg_I := .inl (341, 1, .aload 0, 0, 0) :: c_M_fitLine_342
def c_M_fitLine_340 : List eg_I := .inl (340, 1, .iastore, 0, 0) :: c_M_fitLine_341
def c_M_fitLine_338 : List eg_I := .inl (338, 2, .iload 9, 0, 0) :: c_M_fitLine_340
def c_M_fitLine_337 : List eg_I := .inl (337, 1, .iadd, 0, 0) :: c_M_fitLine_338
def c_M_fitLine_336 : List eg_I := .inl (336, 1, .iconst (1), 0, 0) :: c_M_fitLine_337
def c_M_fitLine_335 : List eg_I := .inl (335, 1, .imul, 0, 0) :: c_M_fitLine_336
def c_M_fitLine_334 : List eg_I := .inl (334, 1, .iload 1, 0, 0) :: c_M_fitLine_335
def c_M_fitLine_332 : List eg_I := .inl (332, 2, .iconst (6), 0, 0) :: c_M_fitLine_334
def c_M_fitLine_329 : List eg_I := .inl (329, 3, .getfield 38, 12, 9) :: c_M_fitLine_332
def c_M_fitLine_328 : List eg_I := .inl (328, 1, .aload 0, 0, 0) :: c_M_fitLine_329
def c_M_fitLine_327 : List eg_I := .inl (327, 1, .iastore, 0, 0) :: c_M_fitLine_328
def c_M_fitLine_325 : List eg_I := .inl (325, 2, .iload 8, 0, 0) :: c_M_fitLine_327
def c_M_fitLine_324 : List eg_I := .inl (324, 1, .imul, 0, 0) :: c_M_fitLine_325
def c_M_fitLine_323 : List eg_I := .inl (323, 1, .iload 1, 0, 0) :: c_M_fitLine_324
def c_M_fitLine_321 : List eg_I := .inl (321, 2, .iconst (6), 0, 0) :: c_M_fitLine_323
def c_M_fitLine_318 : List eg_I := .inl (318, 3, .getfield 38, 12, 9) :: c_M_fitLine_321
def c_M_fitLine_317 : List eg_I := .inl (317, 1, .aload 0, 0, 0) :: c_M_fitLine_318
def c_M_fitLine_316 : List eg_I := .inl (316, 1, .iastore, 0, 0) :: c_M_fitLine_317
def c_M_fitLine_315 : List eg_I := .inl (315, 1, .iconst (4), 0, 0) :: c_M_fitLine_316
def c_M_fitLine_314 : List eg_I := .inl (314, 1, .iload 1, 0, 0) :: c_M_fitLine_315
def c_M_fitLine_311 : List eg_I := .inl (311, 3, .getfield 35, 12, 8) :: c_M_fitLine_314
def c_M_fitLine_310 : List eg_I := .inl (310, 1, .aload 0, 0, 0) :: c_M_fitLine_311
def c_M_fitLine_309 : List eg_I := .inl (309, 1, .iastore, 0, 0) :: c_M_fitLine_310
def c_M_fitLine_308 : List eg_I := .inl (308, 1, .iconst (2), 0, 0) :: c_M_fitLine_309
def c_M_fitLine_307 : List eg_I := .inl (307, 1, .iload 1, 0, 0) :: c_M_fitLine_308
def c_M_fitLine_304 : List eg_I := .inl (304, 3, .getfield 32, 12, 7) :: c_M_fitLine_307
def c_M_fitLine_303 : List eg_I := .inl (303, 1, .aload 0, 0, 0) :: c_M_fitLine_304
def c_M_fitLine_300 : List eg_I := .inr (300, 1, 188, n_M_crosses, 5, 12, 0, 0) :: c_M_fitLine_303
def c_M_fitLine_299 : List eg_I := .inl (299, 1, .sipush (0), 0, 0) :: c_M_fitLine_300
def c_M_fitLine_297 : List eg_I := .inl (297, 2, .lload 10, 0, 0) :: c_M_fitLine_299
def c_M_fitLine_296 : List eg_I := .inl (296, 1, .lneg, 0, 0) :: c_M_fitLine_297
def c_M_fitLine_294 : List eg_I := .inl (294, 2, .lload 12, 0, 0) :: c_M_fitLine_296
def c_M_fitLine_292 : List eg_I := .inl (292, 2, .iload 8, 0, 0) :: c_M_fitLine_294
def c_M_fitLine_291 : List eg_I := .inl (291, 1, .iload 2, 0, 0) :: c_M_fitLine_292
def c_M_fitLine_290 : List eg_I := .inl (290, 1, .aload 0, 0, 0) :: c_M_fitLine_291
def c_M_fitLine_288 : List eg_I := .inl (288, 2, .lstore 12, 0, 0) :: c_M_fitLine_290
def c_M_fitLine_287 : List eg_I := .inl (287, 1, .i2l, 0, 0) :: c_M_fitLine_288
def c_M_fitLine_286 : List eg_I := .inl (286, 1, .isub, 0, 0) :: c_M_fitLine_287
def c_M_fitLine_285 : List eg_I := .inl (285, 1, .iaload, 0, 0) :: c_M_fitLine_286
def c_M_fitLine_282 : List eg_I := .inr (282, 0, 103, n_M_at_II, 2, 12, 0, 0) :: c_M_fitLine_285
def c_M_fitLine_280 : List eg_I := .inl (280, 2, .iload 8, 0, 0) :: c_M_fitLine_282
def c_M_fitLine_279 : List eg_I := .inl (279, 1, .iload 2, 0, 0) :: c_M_fitLine_280
def c_M_fitLine_276 : List eg_I := .inl (276, 3, .getfield 16, 12, 2) :: c_M_fitLine_279
def c_M_fitLine_275 : List eg_I := .inl (275, 1, .aload 0, 0, 0) :: c_M_fitLine_276
def c_M_fitLine_274 : List eg_I := .inl (274, 1, .iaload, 0, 0) :: c_M_fitLine_275
def c_M_fitLine_271 : List eg_I := .inr (271, 0, 103, n_M_at_II, 2, 12, 0, 0) :: c_M_fitLine_274
def c_M_fitLine_269 : List eg_I := .inl (269, 2, .iload 9, 0, 0) :: c_M_fitLine_271
def c_M_fitLine_268 : List eg_I := .inl (268, 1, .iload 2, 0, 0) :: c_M_fitLine_269
def c_M_fitLine_265 : List eg_I := .inl (265, 3, .getfield 16, 12, 2) :: c_M_fitLine_268
def c_M_fitLine_264 : List eg_I := .inl (264, 1, .aload 0, 0, 0) :: c_M_fitLine_265
def c_M_fitLine_262 : List eg_I := .inl (262, 2, .lstore 10, 0, 0) :: c_M_fitLine_264
def c_M_fitLine_261 : List eg_I := .inl (261, 1, .i2l, 0, 0) :: c_M_fitLine_262
def c_M_fitLine_260 : List eg_I := .inl (260, 1, .isub, 0, 0) :: c_M_fitLine_261
def c_M_fitLine_259 : List eg_I := .inl (259, 1, .iaload, 0, 0) :: c_M_fitLine_260
def c_M_fitLine_256 : List eg_I := .inr (256, 0, 103, n_M_at_II, 2, 12, 0, 0) :: c_M_fitLine_259
def c_M_fitLine_254 : List eg_I := .inl (254, 2, .iload 8, 0, 0) :: c_M_fitLine_256
def c_M_fitLine_253 : List eg_I := .inl (253, 1, .iload 2, 0, 0) :: c_M_fitLine_254
def c_M_fitLine_250 : List eg_I := .inl (250, 3, .getfield 13, 12, 1) :: c_M_fitLine_253
def c_M_fitLine_249 : List eg_I := .inl (249, 1, .aload 0, 0, 0) :: c_M_fitLine_250
def c_M_fitLine_248 : List eg_I := .inl (248, 1, .iaload, 0, 0) :: c_M_fitLine_249
def c_M_fitLine_245 : List eg_I := .inr (245, 0, 103, n_M_at_II, 2, 12, 0, 0) :: c_M_fitLine_248
def c_M_fitLine_243 : List eg_I := .inl (243, 2, .iload 9, 0, 0) :: c_M_fitLine_245
def c_M_fitLine_242 : List eg_I := .inl (242, 1, .iload 2, 0, 0) :: c_M_fitLine_243
def c_M_fitLine_239 : List eg_I := .inl (239, 3, .getfield 13, 12, 1) :: c_M_fitLine_242
def c_M_fitLine_238 : List eg_I := .inl (238, 1, .aload 0, 0, 0) :: c_M_fitLine_239
def c_M_fitLine_237 : List eg_I := .inl (237, 1, .lreturn, 0, 0) :: []
def c_M_fitLine_234 : List eg_I := .inr (234, 1, 112, n_M_finding, 1, 12, 0, 0) :: c_M_fitLine_237
def c_M_fitLine_231 : List eg_I := .inl (231, 3, .sipush (-1000000000000000006), 138, 0) :: c_M_fitLine_234
def c_M_fitLine_230 : List eg_I := .inl (230, 1, .aload 0, 0, 0) :: c_M_fitLine_231
def c_M_fitLine_227 : List eg_I := .inl (227, 3, .ifCond .ne (11), 238, 0) :: c_M_fitLine_230
def c_M_fitLine_226 : List eg_I := .inl (226, 1, .iload 3, 0, 0) :: c_M_fitLine_227
def c_M_fitLine_223 : List eg_I := .inl (223, 3, .goto (-206), 17, 0) :: []
def c_M_fitLine_220 : List eg_I := .inl (220, 3, .iinc 10 (1), 0, 0) :: c_M_fitLine_223
def c_M_fitLine_217 : List eg_I := .inl (217, 3, .goto (-183), 34, 0) :: []
def c_M_fitLine_214 : List eg_I := .inl (214, 3, .iinc 11 (1), 0, 0) :: c_M_fitLine_217
def c_M_fitLine_212 : List eg_I := .inl (212, 2, .istore 9, 0, 0) :: c_M_fitLine_214
def c_M_fitLine_210 : List eg_I := .inl (210, 2, .iload 11, 0, 0) :: c_M_fitLine_212
def c_M_fitLine_208 : List eg_I := .inl (208, 2, .istore 8, 0, 0) :: c_M_fitLine_210
def c_M_fitLine_206 : List eg_I := .inl (206, 2, .iload 10, 0, 0) :: c_M_fitLine_208
def c_M_fitLine_204 : List eg_I := .inl (204, 2, .lstore 6, 0, 0) :: c_M_fitLine_206
def c_M_fitLine_202 : List eg_I := .inl (202, 2, .lload 18, 0, 0) :: c_M_fitLine_204
def c_M_fitLine_200 : List eg_I := .inl (200, 2, .lstore 4, 0, 0) :: c_M_fitLine_202
def c_M_fitLine_198 : List eg_I := .inl (198, 2, .lload 16, 0, 0) :: c_M_fitLine_200
def c_M_fitLine_197 : List eg_I := .inl (197, 1, .istore 3, 0, 0) :: c_M_fitLine_198
def c_M_fitLine_196 : List eg_I := .inl (196, 1, .iconst (1), 0, 0) :: c_M_fitLine_197
def c_M_fitLine_193 : List eg_I := .inl (193, 3, .ifCond .eq (21), 214, 0) :: c_M_fitLine_196
def c_M_fitLine_190 : List eg_I := .inr (190, 0, 192, n_M_isLess, 4, 12, 0, 0) :: c_M_fitLine_193
def c_M_fitLine_188 : List eg_I := .inl (188, 2, .lload 6, 0, 0) :: c_M_fitLine_190
def c_M_fitLine_186 : List eg_I := .inl (186, 2, .lload 4, 0, 0) :: c_M_fitLine_188
def c_M_fitLine_184 : List eg_I := .inl (184, 2, .lload 18, 0, 0) :: c_M_fitLine_186
def c_M_fitLine_182 : List eg_I := .inl (182, 2, .lload 16, 0, 0) :: c_M_fitLine_184
def c_M_fitLine_179 : List eg_I := .inl (179, 3, .ifCond .eq (17), 196, 0) :: c_M_fitLine_182
def c_M_fitLine_178 : List eg_I := .inl (178, 1, .iload 3, 0, 0) :: c_M_fitLine_179
def c_M_fitLine_176 : List eg_I := .inl (176, 2, .lstore 18, 0, 0) :: c_M_fitLine_178
def c_M_fitLine_175 : List eg_I := .inl (175, 1, .ladd, 0, 0) :: c_M_fitLine_176
def c_M_fitLine_174 : List eg_I := .inl (174, 1, .lmul, 0, 0) :: c_M_fitLine_175
def c_M_fitLine_172 : List eg_I := .inl (172, 2, .lload 14, 0, 0) :: c_M_fitLine_174
def c_M_fitLine_170 : List eg_I := .inl (170, 2, .lload 14, 0, 0) :: c_M_fitLine_172
def c_M_fitLine_169 : List eg_I := .inl (169, 1, .lmul, 0, 0) :: c_M_fitLine_170
def c_M_fitLine_167 : List eg_I := .inl (167, 2, .lload 12, 0, 0) :: c_M_fitLine_169
def c_M_fitLine_165 : List eg_I := .inl (165, 2, .lload 12, 0, 0) :: c_M_fitLine_167
def c_M_fitLine_163 : List eg_I := .inl (163, 2, .lstore 16, 0, 0) :: c_M_fitLine_165
def c_M_fitLine_162 : List eg_I := .inl (162, 1, .lmul, 0, 0) :: c_M_fitLine_163
def c_M_fitLine_161 : List eg_I := .inl (161, 1, .lsub, 0, 0) :: c_M_fitLine_162
def c_M_fitLine_158 : List eg_I := .inl (158, 3, .getfield 182, 12, 30) :: c_M_fitLine_161
def c_M_fitLine_157 : List eg_I := .inl (157, 1, .aload 0, 0, 0) :: c_M_fitLine_158
def c_M_fitLine_154 : List eg_I := .inl (154, 3, .getfield 179, 12, 29) :: c_M_fitLine_157
def c_M_fitLine_153 : List eg_I := .inl (153, 1, .aload 0, 0, 0) :: c_M_fitLine_154
def c_M_fitLine_152 : List eg_I := .inl (152, 1, .lsub, 0, 0) :: c_M_fitLine_153
def c_M_fitLine_149 : List eg_I := .inl (149, 3, .getfield 182, 12, 30) :: c_M_fitLine_152
def c_M_fitLine_148 : List eg_I := .inl (148, 1, .aload 0, 0, 0) :: c_M_fitLine_149
def c_M_fitLine_145 : List eg_I := .inl (145, 3, .getfield 179, 12, 29) :: c_M_fitLine_148
def c_M_fitLine_144 : List eg_I := .inl (144, 1, .aload 0, 0, 0) :: c_M_fitLine_145
def c_M_fitLine_141 : List eg_I := .inr (141, 1, 188, n_M_crosses, 5, 12, 0, 0) :: c_M_fitLine_144
def c_M_fitLine_140 : List eg_I := .inl (140, 1, .sipush (0), 0, 0) :: c_M_fitLine_141
def c_M_fitLine_138 : List eg_I := .inl (138, 2, .lload 12, 0, 0) :: c_M_fitLine_140
def c_M_fitLine_137 : List eg_I := .inl (137, 1, .lneg, 0, 0) :: c_M_fitLine_138
def c_M_fitLine_135 : List eg_I := .inl (135, 2, .lload 14, 0, 0) :: c_M_fitLine_137
def c_M_fitLine_133 : List eg_I := .inl (133, 2, .iload 10, 0, 0) :: c_M_fitLine_135
def c_M_fitLine_132 : List eg_I := .inl (132, 1, .iload 2, 0, 0) :: c_M_fitLine_133
def c_M_fitLine_131 : List eg_I := .inl (131, 1, .aload 0, 0, 0) :: c_M_fitLine_132
def c_M_fitLine_128 : List eg_I := .inl (128, 3, .ifCond .eq (86), 214, 0) :: c_M_fitLine_131
def c_M_fitLine_127 : List eg_I := .inl (127, 1, .lcmp, 0, 0) :: c_M_fitLine_128
def c_M_fitLine_126 : List eg_I := .inl (126, 1, .sipush (0), 0, 0) :: c_M_fitLine_127
def c_M_fitLine_124 : List eg_I := .inl (124, 2, .lload 14, 0, 0) :: c_M_fitLine_126
def c_M_fitLine_121 : List eg_I := .inl (121, 3, .ifCond .ne (10), 131, 0) :: c_M_fitLine_124
def c_M_fitLine_120 : List eg_I := .inl (120, 1, .lcmp, 0, 0) :: c_M_fitLine_121
def c_M_fitLine_119 : List eg_I := .inl (119, 1, .sipush (0), 0, 0) :: c_M_fitLine_120
def c_M_fitLine_117 : List eg_I := .inl (117, 2, .lload 12, 0, 0) :: c_M_fitLine_119
def c_M_fitLine_114 : List eg_I := .inl (114, 3, .ifCond .eq (100), 214, 0) :: c_M_fitLine_117
def c_M_fitLine_111 : List eg_I := .inr (111, 1, 185, n_M_isHere, 2, 12, 0, 0) :: c_M_fitLine_114
def c_M_fitLine_109 : List eg_I := .inl (109, 2, .iload 11, 0, 0) :: c_M_fitLine_111
def c_M_fitLine_108 : List eg_I := .inl (108, 1, .iload 2, 0, 0) :: c_M_fitLine_109
def c_M_fitLine_107 : List eg_I := .inl (107, 1, .aload 0, 0, 0) :: c_M_fitLine_108
def c_M_fitLine_104 : List eg_I := .inl (104, 3, .ifCond .eq (110), 214, 0) :: c_M_fitLine_107
def c_M_fitLine_101 : List eg_I := .inr (101, 1, 185, n_M_isHere, 2, 12, 0, 0) :: c_M_fitLine_104
def c_M_fitLine_99 : List eg_I := .inl (99, 2, .iload 10, 0, 0) :: c_M_fitLine_101
def c_M_fitLine_98 : List eg_I := .inl (98, 1, .iload 2, 0, 0) :: c_M_fitLine_99
def c_M_fitLine_97 : List eg_I := .inl (97, 1, .aload 0, 0, 0) :: c_M_fitLine_98
def c_M_fitLine_95 : List eg_I := .inl (95, 2, .lstore 14, 0, 0) :: c_M_fitLine_97
def c_M_fitLine_94 : List eg_I := .inl (94, 1, .i2l, 0, 0) :: c_M_fitLine_95
def c_M_fitLine_93 : List eg_I := .inl (93, 1, .isub, 0, 0) :: c_M_fitLine_94
def c_M_fitLine_92 : List eg_I := .inl (92, 1, .iaload, 0, 0) :: c_M_fitLine_93
def c_M_fitLine_89 : List eg_I := .inr (89, 0, 103, n_M_at_II, 2, 12, 0, 0) :: c_M_fitLine_92
def c_M_fitLine_87 : List eg_I := .inl (87, 2, .iload 10, 0, 0) :: c_M_fitLine_89
def c_M_fitLine_86 : List eg_I := .inl (86, 1, .iload 2, 0, 0) :: c_M_fitLine_87
def c_M_fitLine_83 : List eg_I := .inl (83, 3, .getfield 16, 12, 2) :: c_M_fitLine_86
def c_M_fitLine_82 : List eg_I := .inl (82, 1, .aload 0, 0, 0) :: c_M_fitLine_83
def c_M_fitLine_81 : List eg_I := .inl (81, 1, .iaload, 0, 0) :: c_M_fitLine_82
def c_M_fitLine_78 : List eg_I := .inr (78, 0, 103, n_M_at_II, 2, 12, 0, 0) :: c_M_fitLine_81
def c_M_fitLine_76 : List eg_I := .inl (76, 2, .iload 11, 0, 0) :: c_M_fitLine_78
def c_M_fitLine_75 : List eg_I := .inl (75, 1, .iload 2, 0, 0) :: c_M_fitLine_76
def c_M_fitLine_72 : List eg_I := .inl (72, 3, .getfield 16, 12, 2) :: c_M_fitLine_75
def c_M_fitLine_71 : List eg_I := .inl (71, 1, .aload 0, 0, 0) :: c_M_fitLine_72
def c_M_fitLine_69 : List eg_I := .inl (69, 2, .lstore 12, 0, 0) :: c_M_fitLine_71
def c_M_fitLine_68 : List eg_I := .inl (68, 1, .i2l, 0, 0) :: c_M_fitLine_69
def c_M_fitLine_67 : List eg_I := .inl (67, 1, .isub, 0, 0) :: c_M_fitLine_68
def c_M_fitLine_66 : List eg_I := .inl (66, 1, .iaload, 0, 0) :: c_M_fitLine_67
def c_M_fitLine_63 : List eg_I := .inr (63, 0, 103, n_M_at_II, 2, 12, 0, 0) :: c_M_fitLine_66
def c_M_fitLine_61 : List eg_I := .inl (61, 2, .iload 10, 0, 0) :: c_M_fitLine_63
def c_M_fitLine_60 : List eg_I := .inl (60, 1, .iload 2, 0, 0) :: c_M_fitLine_61
def c_M_fitLine_57 : List eg_I := .inl (57, 3, .getfield 13, 12, 1) :: c_M_fitLine_60
def c_M_fitLine_56 : List eg_I := .inl (56, 1, .aload 0, 0, 0) :: c_M_fitLine_57
def c_M_fitLine_55 : List eg_I := .inl (55, 1, .iaload, 0, 0) :: c_M_fitLine_56
def c_M_fitLine_52 : List eg_I := .inr (52, 0, 103, n_M_at_II, 2, 12, 0, 0) :: c_M_fitLine_55
def c_M_fitLine_50 : List eg_I := .inl (50, 2, .iload 11, 0, 0) :: c_M_fitLine_52
def c_M_fitLine_49 : List eg_I := .inl (49, 1, .iload 2, 0, 0) :: c_M_fitLine_50
def c_M_fitLine_46 : List eg_I := .inl (46, 3, .getfield 13, 12, 1) :: c_M_fitLine_49
def c_M_fitLine_45 : List eg_I := .inl (45, 1, .aload 0, 0, 0) :: c_M_fitLine_46
def c_M_fitLine_42 : List eg_I := .inl (42, 3, .if_icmp .ge (178), 220, 0) :: c_M_fitLine_45
def c_M_fitLine_41 : List eg_I := .inl (41, 1, .iaload, 0, 0) :: c_M_fitLine_42
def c_M_fitLine_40 : List eg_I := .inl (40, 1, .iload 2, 0, 0) :: c_M_fitLine_41
def c_M_fitLine_37 : List eg_I := .inl (37, 3, .getfield 9, 12, 0) :: c_M_fitLine_40
def c_M_fitLine_36 : List eg_I := .inl (36, 1, .aload 0, 0, 0) :: c_M_fitLine_37
def c_M_fitLine_34 : List eg_I := .inl (34, 2, .iload 11, 0, 0) :: c_M_fitLine_36
def c_M_fitLine_32 : List eg_I := .inl (32, 2, .istore 11, 0, 0) :: z_M_fitLine_34
def c_M_fitLine_31 : List eg_I := .inl (31, 1, .iadd, 0, 0) :: c_M_fitLine_32
def c_M_fitLine_30 : List eg_I := .inl (30, 1, .iconst (1), 0, 0) :: c_M_fitLine_31
def c_M_fitLine_28 : List eg_I := .inl (28, 2, .iload 10, 0, 0) :: c_M_fitLine_30
def c_M_fitLine_25 : List eg_I := .inl (25, 3, .if_icmp .ge (201), 226, 0) :: c_M_fitLine_28
def c_M_fitLine_24 : List eg_I := .inl (24, 1, .iaload, 0, 0) :: c_M_fitLine_25
def c_M_fitLine_23 : List eg_I := .inl (23, 1, .iload 2, 0, 0) :: c_M_fitLine_24
def c_M_fitLine_20 : List eg_I := .inl (20, 3, .getfield 9, 12, 0) :: c_M_fitLine_23
def c_M_fitLine_19 : List eg_I := .inl (19, 1, .aload 0, 0, 0) :: c_M_fitLine_20
def c_M_fitLine_17 : List eg_I := .inl (17, 2, .iload 10, 0, 0) :: c_M_fitLine_19
def c_M_fitLine_15 : List eg_I := .inl (15, 2, .istore 10, 0, 0) :: z_M_fitLine_17
def c_M_fitLine_14 : List eg_I := .inl (14, 1, .iconst (0), 0, 0) :: c_M_fitLine_15
def c_M_fitLine_12 : List eg_I := .inl (12, 2, .istore 9, 0, 0) :: c_M_fitLine_14
def c_M_fitLine_11 : List eg_I := .inl (11, 1, .iconst (0), 0, 0) :: c_M_fitLine_12
def c_M_fitLine_9 : List eg_I := .inl (9, 2, .istore 8, 0, 0) :: c_M_fitLine_11
def c_M_fitLine_8 : List eg_I := .inl (8, 1, .iconst (0), 0, 0) :: c_M_fitLine_9
def c_M_fitLine_6 : List eg_I := .inl (6, 2, .lstore 6, 0, 0) :: c_M_fitLine_8
def c_M_fitLine_5 : List eg_I := .inl (5, 1, .sipush (1), 0, 0) :: c_M_fitLine_6
def c_M_fitLine_3 : List eg_I := .inl (3, 2, .lstore 4, 0, 0) :: c_M_fitLine_5
def c_M_fitLine_2 : List eg_I := .inl (2, 1, .sipush (0), 0, 0) :: c_M_fitLine_3
def c_M_fitLine_1 : List eg_I := .inl (1, 1, .istore 3, 0, 0) :: c_M_fitLine_2
def c_M_fitLine_0 : List eg_I := .inl (0, 1, .iconst (0), 0, 0) :: c_M_fitLine_1
section
variable {rm : Room} {K : Nat → Nat → Nat → eg_Lo → List Value → List eg_E → Prop} {Q : Option Value → List eg_E → Prop} {kc ks : Nat} {loc : eg_Lo} {st : List Value} {h : List eg_E}
theorem s_M_fitLine_0  : wps rm K Q c_M_fitLine_0 kc ks loc (st) h = wps rm K Q c_M_fitLine_1 kc ks loc (.int (0) :: st) h := gk_ic (by decide)
theorem s_M_fitLine_1 {x : Int32} : wps rm K Q c_M_fitLine_1 kc ks loc (.int x :: st) h = wps rm K Q c_M_fitLine_2 kc ks (eg_set1 loc 3 (.int x)) (st) h := gk_istore
theorem s_M_fitLine_2  : wps rm K Q c_M_fitLine_2 kc ks loc (st) h = wps rm K Q c_M_fitLine_3 kc ks loc (.long (0) :: st) h := gk_lc (by decide)
theorem s_M_fitLine_3 {x : Int64} : wps rm K Q c_M_fitLine_3 kc ks loc (.long x :: st) h = wps rm K Q c_M_fitLine_5 kc ks (eg_set2 loc 4 (.long x)) (st) h := gk_lstore
theorem s_M_fitLine_5  : wps rm K Q c_M_fitLine_5 kc ks loc (st) h = wps rm K Q c_M_fitLine_6 kc ks loc (.long (1) :: st) h := gk_lc (by decide)
theorem s_M_fitLine_6 {x : Int64} : wps rm K Q c_M_fitLine_6 kc ks loc (.long x :: st) h = wps rm K Q c_M_fitLine_8 kc ks (eg_set2 loc 6 (.long x)) (st) h := gk_lstore
theorem s_M_fitLine_8  : wps rm K Q c_M_fitLine_8 kc ks loc (st) h = wps rm K Q c_M_fitLine_9 kc ks loc (.int (0) :: st) h := gk_ic (by decide)
theorem s_M_fitLine_9 {x : Int32} : wps rm K Q c_M_fitLine_9 kc ks loc (.int x :: st) h = wps rm K Q c_M_fitLine_11 kc ks (eg_set1 loc 8 (.int x)) (st) h := gk_istore
theorem s_M_fitLine_11  : wps rm K Q c_M_fitLine_11 kc ks loc (st) h = wps rm K Q c_M_fitLine_12 kc ks loc (.int (0) :: st) h := gk_ic (by decide)
theorem s_M_fitLine_12 {x : Int32} : wps rm K Q c_M_fitLine_12 kc ks loc (.int x :: st) h = wps rm K Q c_M_fitLine_14 kc ks (eg_set1 loc 9 (.int x)) (st) h := gk_istore
theorem s_M_fitLine_14  : wps rm K Q c_M_fitLine_14 kc ks loc (st) h = wps rm K Q c_M_fitLine_15 kc ks loc (.int (0) :: st) h := gk_ic (by decide)
theorem s_M_fitLine_15 {x : Int32} : wps rm K Q c_M_fitLine_15 kc ks loc (.int x :: st) h = wps rm K Q z_M_fitLine_17 kc ks (eg_set1 loc 10 (.int x)) (st) h := gk_istore
theorem s_M_fitLine_17 {x : Int32} {l0 l1 l2 l3 l4 l5 l6 l7 l8 l9 : Option Value} {l : eg_Lo} : wps rm K Q c_M_fitLine_17 kc ks (l0 :: l1 :: l2 :: l3 :: l4 :: l5 :: l6 :: l7 :: l8 :: l9 :: some (.int x) :: l) (st) h = wps rm K Q c_M_fitLine_19 kc ks (l0 :: l1 :: l2 :: l3 :: l4 :: l5 :: l6 :: l7 :: l8 :: l9 :: some (.int x) :: l) (.int x :: st) h := gk_iload rfl
theorem s_M_fitLine_19 {x : Nat} {l : eg_Lo} : wps rm K Q c_M_fitLine_19 kc ks (some (.ref x) :: l) (st) h = wps rm K Q c_M_fitLine_20 kc ks (some (.ref x) :: l) (.ref x :: st) h := gk_aload rfl
theorem s_M_fitLine_20 {x : Nat} : wps rm K Q c_M_fitLine_20 kc ks loc (.ref (x + 1) :: st) h = eg_gf h x 12 0 (fun v => wps rm K Q c_M_fitLine_23 kc ks loc (v :: st) h) := gk_gf
theorem s_M_fitLine_23 {x : Int32} {l0 l1 : Option Value} {l : eg_Lo} : wps rm K Q c_M_fitLine_23 kc ks (l0 :: l1 :: some (.int x) :: l) (st) h = wps rm K Q c_M_fitLine_24 kc ks (l0 :: l1 :: some (.int x) :: l) (.int x :: st) h := gk_iload rfl
theorem s_M_fitLine_24 {x : Nat} {i : Int32} : wps rm K Q c_M_fitLine_24 kc ks loc (.int i :: .ref (x + 1) :: st) h = eg_ia h x i (fun v => wps rm K Q c_M_fitLine_25 kc ks loc (.int v :: st) h) := gk_iaload
theorem s_M_fitLine_25 {x y : Int32} : wps rm K Q c_M_fitLine_25 kc ks loc (.int y :: .int x :: st) h = ((y ≤ x → K 226 kc ks loc st h) ∧ (¬ y ≤ x → wps rm K Q c_M_fitLine_28 kc ks loc (st) h)) := gk_if2_ge
theorem s_M_fitLine_28 {x : Int32} {l0 l1 l2 l3 l4 l5 l6 l7 l8 l9 : Option Value} {l : eg_Lo} : wps rm K Q c_M_fitLine_28 kc ks (l0 :: l1 :: l2 :: l3 :: l4 :: l5 :: l6 :: l7 :: l8 :: l9 :: some (.int x) :: l) (st) h = wps rm K Q c_M_fitLine_30 kc ks (l0 :: l1 :: l2 :: l3 :: l4 :: l5 :: l6 :: l7 :: l8 :: l9 :: some (.int x) :: l) (.int x :: st) h := gk_iload rfl
theorem s_M_fitLine_30  : wps rm K Q c_M_fitLine_30 kc ks loc (st) h = wps rm K Q c_M_fitLine_31 kc ks loc (.int (1) :: st) h := gk_ic (by decide)
theorem s_M_fitLine_31 {x y : Int32} : wps rm K Q c_M_fitLine_31 kc ks loc (.int y :: .int x :: st) h = wps rm K Q c_M_fitLine_32 kc ks loc (.int (x + y) :: st) h := gk_iadd
theorem s_M_fitLine_32 {x : Int32} : wps rm K Q c_M_fitLine_32 kc ks loc (.int x :: st) h = wps rm K Q z_M_fitLine_34 kc ks (eg_set1 loc 11 (.int x)) (st) h := gk_istore
theorem s_M_fitLine_34 {x : Int32} {l0 l1 l2 l3 l4 l5 l6 l7 l8 l9 l10 : Option Value} {l : eg_Lo} : wps rm K Q c_M_fitLine_34 kc ks (l0 :: l1 :: l2 :: l3 :: l4 :: l5 :: l6 :: l7 :: l8 :: l9 :: l10 :: some (.int x) :: l) (st) h = wps rm K Q c_M_fitLine_36 kc ks (l0 :: l1 :: l2 :: l3 :: l4 :: l5 :: l6 :: l7 :: l8 :: l9 :: l10 :: some (.int x) :: l) (.int x :: st) h := gk_iload rfl
theorem s_M_fitLine_36 {x : Nat} {l : eg_Lo} : wps rm K Q c_M_fitLine_36 kc ks (some (.ref x) :: l) (st) h = wps rm K Q c_M_fitLine_37 kc ks (some (.ref x) :: l) (.ref x :: st) h := gk_aload rfl
theorem s_M_fitLine_37 {x : Nat} : wps rm K Q c_M_fitLine_37 kc ks loc (.ref (x + 1) :: st) h = eg_gf h x 12 0 (fun v => wps rm K Q c_M_fitLine_40 kc ks loc (v :: st) h) := gk_gf
theorem s_M_fitLine_40 {x : Int32} {l0 l1 : Option Value} {l : eg_Lo} : wps rm K Q c_M_fitLine_40 kc ks (l0 :: l1 :: some (.int x) :: l) (st) h = wps rm K Q c_M_fitLine_41 kc ks (l0 :: l1 :: some (.int x) :: l) (.int x :: st) h := gk_iload rfl
theorem s_M_fitLine_41 {x : Nat} {i : Int32} : wps rm K Q c_M_fitLine_41 kc ks loc (.int i :: .ref (x + 1) :: st) h = eg_ia h x i (fun v => wps rm K Q c_M_fitLine_42 kc ks loc (.int v :: st) h) := gk_iaload
theorem s_M_fitLine_42 {x y : Int32} : wps rm K Q c_M_fitLine_42 kc ks loc (.int y :: .int x :: st) h = ((y ≤ x → K 220 kc ks loc st h) ∧ (¬ y ≤ x → wps rm K Q c_M_fitLine_45 kc ks loc (st) h)) := gk_if2_ge
theorem s_M_fitLine_45 {x : Nat} {l : eg_Lo} : wps rm K Q c_M_fitLine_45 kc ks (some (.ref x) :: l) (st) h = wps rm K Q c_M_fitLine_46 kc ks (some (.ref x) :: l) (.ref x :: st) h := gk_aload rfl
theorem s_M_fitLine_46 {x : Nat} : wps rm K Q c_M_fitLine_46 kc ks loc (.ref (x + 1) :: st) h = eg_gf h x 12 1 (fun v => wps rm K Q c_M_fitLine_49 kc ks loc (v :: st) h) := gk_gf
theorem s_M_fitLine_49 {x : Int32} {l0 l1 : Option Value} {l : eg_Lo} : wps rm K Q c_M_fitLine_49 kc ks (l0 :: l1 :: some (.int x) :: l) (st) h = wps rm K Q c_M_fitLine_50 kc ks (l0 :: l1 :: some (.int x) :: l) (.int x :: st) h := gk_iload rfl
theorem s_M_fitLine_50 {x : Int32} {l0 l1 l2 l3 l4 l5 l6 l7 l8 l9 l10 : Option Value} {l : eg_Lo} : wps rm K Q c_M_fitLine_50 kc ks (l0 :: l1 :: l2 :: l3 :: l4 :: l5 :: l6 :: l7 :: l8 :: l9 :: l10 :: some (.int x) :: l) (st) h = wps rm K Q c_M_fitLine_52 kc ks (l0 :: l1 :: l2 :: l3 :: l4 :: l5 :: l6 :: l7 :: l8 :: l9 :: l10 :: some (.int x) :: l) (.int x :: st) h := gk_iload rfl
theorem s_M_fitLine_52  {a1 : Value} {a2 : Value} : wps rm K Q c_M_fitLine_52 kc ks loc (a2 :: a1 :: st) h = (st.length ≤ 4 ∧ eg_Cs n_M_at_II [a1, a2] h (fun v h9 => wps rm K Q c_M_fitLine_55 kc ks loc (v.toList ++ st) h9)) := eg_c0_2
theorem s_M_fitLine_55 {x : Nat} {i : Int32} : wps rm K Q c_M_fitLine_55 kc ks loc (.int i :: .ref (x + 1) :: st) h = eg_ia h x i (fun v => wps rm K Q c_M_fitLine_56 kc ks loc (.int v :: st) h) := gk_iaload
theorem s_M_fitLine_56 {x : Nat} {l : eg_Lo} : wps rm K Q c_M_fitLine_56 kc ks (some (.ref x) :: l) (st) h = wps rm K Q c_M_fitLine_57 kc ks (some (.ref x) :: l) (.ref x :: st) h := gk_aload rfl
theorem s_M_fitLine_57 {x : Nat} : wps rm K Q c_M_fitLine_57 kc ks loc (.ref (x + 1) :: st) h = eg_gf h x 12 1 (fun v => wps rm K Q c_M_fitLine_60 kc ks loc (v :: st) h) := gk_gf
theorem s_M_fitLine_60 {x : Int32} {l0 l1 : Option Value} {l : eg_Lo} : wps rm K Q c_M_fitLine_60 kc ks (l0 :: l1 :: some (.int x) :: l) (st) h = wps rm K Q c_M_fitLine_61 kc ks (l0 :: l1 :: some (.int x) :: l) (.int x :: st) h := gk_iload rfl
theorem s_M_fitLine_61 {x : Int32} {l0 l1 l2 l3 l4 l5 l6 l7 l8 l9 : Option Value} {l : eg_Lo} : wps rm K Q c_M_fitLine_61 kc ks (l0 :: l1 :: l2 :: l3 :: l4 :: l5 :: l6 :: l7 :: l8 :: l9 :: some (.int x) :: l) (st) h = wps rm K Q c_M_fitLine_63 kc ks (l0 :: l1 :: l2 :: l3 :: l4 :: l5 :: l6 :: l7 :: l8 :: l9 :: some (.int x) :: l) (.int x :: st) h := gk_iload rfl
theorem s_M_fitLine_63  {a1 : Value} {a2 : Value} : wps rm K Q c_M_fitLine_63 kc ks loc (a2 :: a1 :: st) h = (st.length ≤ 4 ∧ eg_Cs n_M_at_II [a1, a2] h (fun v h9 => wps rm K Q c_M_fitLine_66 kc ks loc (v.toList ++ st) h9)) := eg_c0_2
theorem s_M_fitLine_66 {x : Nat} {i : Int32} : wps rm K Q c_M_fitLine_66 kc ks loc (.int i :: .ref (x + 1) :: st) h = eg_ia h x i (fun v => wps rm K Q c_M_fitLine_67 kc ks loc (.int v :: st) h) := gk_iaload
theorem s_M_fitLine_67 {x y : Int32} : wps rm K Q c_M_fitLine_67 kc ks loc (.int y :: .int x :: st) h = wps rm K Q c_M_fitLine_68 kc ks loc (.int (x - y) :: st) h := gk_isub
theorem s_M_fitLine_68 {x : Int32} : wps rm K Q c_M_fitLine_68 kc ks loc (.int x :: st) h = wps rm K Q c_M_fitLine_69 kc ks loc (.long (x.toInt64) :: st) h := gk_i2l
theorem s_M_fitLine_69 {x : Int64} : wps rm K Q c_M_fitLine_69 kc ks loc (.long x :: st) h = wps rm K Q c_M_fitLine_71 kc ks (eg_set2 loc 12 (.long x)) (st) h := gk_lstore
theorem s_M_fitLine_71 {x : Nat} {l : eg_Lo} : wps rm K Q c_M_fitLine_71 kc ks (some (.ref x) :: l) (st) h = wps rm K Q c_M_fitLine_72 kc ks (some (.ref x) :: l) (.ref x :: st) h := gk_aload rfl
theorem s_M_fitLine_72 {x : Nat} : wps rm K Q c_M_fitLine_72 kc ks loc (.ref (x + 1) :: st) h = eg_gf h x 12 2 (fun v => wps rm K Q c_M_fitLine_75 kc ks loc (v :: st) h) := gk_gf
theorem s_M_fitLine_75 {x : Int32} {l0 l1 : Option Value} {l : eg_Lo} : wps rm K Q c_M_fitLine_75 kc ks (l0 :: l1 :: some (.int x) :: l) (st) h = wps rm K Q c_M_fitLine_76 kc ks (l0 :: l1 :: some (.int x) :: l) (.int x :: st) h := gk_iload rfl
theorem s_M_fitLine_76 {x : Int32} {l0 l1 l2 l3 l4 l5 l6 l7 l8 l9 l10 : Option Value} {l : eg_Lo} : wps rm K Q c_M_fitLine_76 kc ks (l0 :: l1 :: l2 :: l3 :: l4 :: l5 :: l6 :: l7 :: l8 :: l9 :: l10 :: some (.int x) :: l) (st) h = wps rm K Q c_M_fitLine_78 kc ks (l0 :: l1 :: l2 :: l3 :: l4 :: l5 :: l6 :: l7 :: l8 :: l9 :: l10 :: some (.int x) :: l) (.int x :: st) h := gk_iload rfl
theorem s_M_fitLine_78  {a1 : Value} {a2 : Value} : wps rm K Q c_M_fitLine_78 kc ks loc (a2 :: a1 :: st) h = (st.length ≤ 4 ∧ eg_Cs n_M_at_II [a1, a2] h (fun v h9 => wps rm K Q c_M_fitLine_81 kc ks loc (v.toList ++ st) h9)) := eg_c0_2
theorem s_M_fitLine_81 {x : Nat} {i : Int32} : wps rm K Q c_M_fitLine_81 kc ks loc (.int i :: .ref (x + 1) :: st) h = eg_ia h x i (fun v => wps rm K Q c_M_fitLine_82 kc ks loc (.int v :: st) h) := gk_iaload
theorem s_M_fitLine_82 {x : Nat} {l : eg_Lo} : wps rm K Q c_M_fitLine_82 kc ks (some (.ref x) :: l) (st) h = wps rm K Q c_M_fitLine_83 kc ks (some (.ref x) :: l) (.ref x :: st) h := gk_aload rfl
theorem s_M_fitLine_83 {x : Nat} : wps rm K Q c_M_fitLine_83 kc ks loc (.ref (x + 1) :: st) h = eg_gf h x 12 2 (fun v => wps rm K Q c_M_fitLine_86 kc ks loc (v :: st) h) := gk_gf
theorem s_M_fitLine_86 {x : Int32} {l0 l1 : Option Value} {l : eg_Lo} : wps rm K Q c_M_fitLine_86 kc ks (l0 :: l1 :: some (.int x) :: l) (st) h = wps rm K Q c_M_fitLine_87 kc ks (l0 :: l1 :: some (.int x) :: l) (.int x :: st) h := gk_iload rfl
theorem s_M_fitLine_87 {x : Int32} {l0 l1 l2 l3 l4 l5 l6 l7 l8 l9 : Option Value} {l : eg_Lo} : wps rm K Q c_M_fitLine_87 kc ks (l0 :: l1 :: l2 :: l3 :: l4 :: l5 :: l6 :: l7 :: l8 :: l9 :: some (.int x) :: l) (st) h = wps rm K Q c_M_fitLine_89 kc ks (l0 :: l1 :: l2 :: l3 :: l4 :: l5 :: l6 :: l7 :: l8 :: l9 :: some (.int x) :: l) (.int x :: st) h := gk_iload rfl
theorem s_M_fitLine_89  {a1 : Value} {a2 : Value} : wps rm K Q c_M_fitLine_89 kc ks loc (a2 :: a1 :: st) h = (st.length ≤ 4 ∧ eg_Cs n_M_at_II [a1, a2] h (fun v h9 => wps rm K Q c_M_fitLine_92 kc ks loc (v.toList ++ st) h9)) := eg_c0_2
theorem s_M_fitLine_92 {x : Nat} {i : Int32} : wps rm K Q c_M_fitLine_92 kc ks loc (.int i :: .ref (x + 1) :: st) h = eg_ia h x i (fun v => wps rm K Q c_M_fitLine_93 kc ks loc (.int v :: st) h) := gk_iaload
theorem s_M_fitLine_93 {x y : Int32} : wps rm K Q c_M_fitLine_93 kc ks loc (.int y :: .int x :: st) h = wps rm K Q c_M_fitLine_94 kc ks loc (.int (x - y) :: st) h := gk_isub
theorem s_M_fitLine_94 {x : Int32} : wps rm K Q c_M_fitLine_94 kc ks loc (.int x :: st) h = wps rm K Q c_M_fitLine_95 kc ks loc (.long (x.toInt64) :: st) h := gk_i2l
theorem s_M_fitLine_95 {x : Int64} : wps rm K Q c_M_fitLine_95 kc ks loc (.long x :: st) h = wps rm K Q c_M_fitLine_97 kc ks (eg_set2 loc 14 (.long x)) (st) h := gk_lstore
theorem s_M_fitLine_97 {x : Nat} {l : eg_Lo} : wps rm K Q c_M_fitLine_97 kc ks (some (.ref x) :: l) (st) h = wps rm K Q c_M_fitLine_98 kc ks (some (.ref x) :: l) (.ref x :: st) h := gk_aload rfl
theorem s_M_fitLine_98 {x : Int32} {l0 l1 : Option Value} {l : eg_Lo} : wps rm K Q c_M_fitLine_98 kc ks (l0 :: l1 :: some (.int x) :: l) (st) h = wps rm K Q c_M_fitLine_99 kc ks (l0 :: l1 :: some (.int x) :: l) (.int x :: st) h := gk_iload rfl
theorem s_M_fitLine_99 {x : Int32} {l0 l1 l2 l3 l4 l5 l6 l7 l8 l9 : Option Value} {l : eg_Lo} : wps rm K Q c_M_fitLine_99 kc ks (l0 :: l1 :: l2 :: l3 :: l4 :: l5 :: l6 :: l7 :: l8 :: l9 :: some (.int x) :: l) (st) h = wps rm K Q c_M_fitLine_101 kc ks (l0 :: l1 :: l2 :: l3 :: l4 :: l5 :: l6 :: l7 :: l8 :: l9 :: some (.int x) :: l) (.int x :: st) h := gk_iload rfl
theorem s_M_fitLine_101  {a1 : Value} {a2 : Value} {x : Nat} : wps rm K Q c_M_fitLine_101 kc ks loc (a2 :: a1 :: .ref (x + 1) :: st) h = (eg_cls h x 12 ∧ st.length ≤ 4 ∧ eg_Cs n_M_isHere (.ref (x + 1) :: [a1, a2]) h (fun v h9 => wps rm K Q c_M_fitLine_104 kc ks loc (v.toList ++ st) h9)) := eg_c1_2
theorem s_M_fitLine_104 {x : Int32} : wps rm K Q c_M_fitLine_104 kc ks loc (.int x :: st) h = ((x = 0 → K 214 kc ks loc st h) ∧ (¬ x = 0 → wps rm K Q c_M_fitLine_107 kc ks loc (st) h)) := gk_if1_eq
theorem s_M_fitLine_107 {x : Nat} {l : eg_Lo} : wps rm K Q c_M_fitLine_107 kc ks (some (.ref x) :: l) (st) h = wps rm K Q c_M_fitLine_108 kc ks (some (.ref x) :: l) (.ref x :: st) h := gk_aload rfl
theorem s_M_fitLine_108 {x : Int32} {l0 l1 : Option Value} {l : eg_Lo} : wps rm K Q c_M_fitLine_108 kc ks (l0 :: l1 :: some (.int x) :: l) (st) h = wps rm K Q c_M_fitLine_109 kc ks (l0 :: l1 :: some (.int x) :: l) (.int x :: st) h := gk_iload rfl
theorem s_M_fitLine_109 {x : Int32} {l0 l1 l2 l3 l4 l5 l6 l7 l8 l9 l10 : Option Value} {l : eg_Lo} : wps rm K Q c_M_fitLine_109 kc ks (l0 :: l1 :: l2 :: l3 :: l4 :: l5 :: l6 :: l7 :: l8 :: l9 :: l10 :: some (.int x) :: l) (st) h = wps rm K Q c_M_fitLine_111 kc ks (l0 :: l1 :: l2 :: l3 :: l4 :: l5 :: l6 :: l7 :: l8 :: l9 :: l10 :: some (.int x) :: l) (.int x :: st) h := gk_iload rfl
theorem s_M_fitLine_111  {a1 : Value} {a2 : Value} {x : Nat} : wps rm K Q c_M_fitLine_111 kc ks loc (a2 :: a1 :: .ref (x + 1) :: st) h = (eg_cls h x 12 ∧ st.length ≤ 4 ∧ eg_Cs n_M_isHere (.ref (x + 1) :: [a1, a2]) h (fun v h9 => wps rm K Q c_M_fitLine_114 kc ks loc (v.toList ++ st) h9)) := eg_c1_2
theorem s_M_fitLine_114 {x : Int32} : wps rm K Q c_M_fitLine_114 kc ks loc (.int x :: st) h = ((x = 0 → K 214 kc ks loc st h) ∧ (¬ x = 0 → wps rm K Q c_M_fitLine_117 kc ks loc (st) h)) := gk_if1_eq
theorem s_M_fitLine_117 {x : Int64} {l0 l1 l2 l3 l4 l5 l6 l7 l8 l9 l10 l11 : Option Value} {l : eg_Lo} : wps rm K Q c_M_fitLine_117 kc ks (l0 :: l1 :: l2 :: l3 :: l4 :: l5 :: l6 :: l7 :: l8 :: l9 :: l10 :: l11 :: some (.long x) :: l) (st) h = wps rm K Q c_M_fitLine_119 kc ks (l0 :: l1 :: l2 :: l3 :: l4 :: l5 :: l6 :: l7 :: l8 :: l9 :: l10 :: l11 :: some (.long x) :: l) (.long x :: st) h := gk_lload rfl
theorem s_M_fitLine_119  : wps rm K Q c_M_fitLine_119 kc ks loc (st) h = wps rm K Q c_M_fitLine_120 kc ks loc (.long (0) :: st) h := gk_lc (by decide)
theorem s_M_fitLine_120 {x y : Int64} : wps rm K Q c_M_fitLine_120 kc ks loc (.long y :: .long x :: st) h = wps rm K Q c_M_fitLine_121 kc ks loc (.int (lg_cmp x y) :: st) h := gk_lcmp
theorem s_M_fitLine_121 {x : Int32} : wps rm K Q c_M_fitLine_121 kc ks loc (.int x :: st) h = ((¬ x = 0 → K 131 kc ks loc st h) ∧ (x = 0 → wps rm K Q c_M_fitLine_124 kc ks loc (st) h)) := gk_if1_ne
theorem s_M_fitLine_124 {x : Int64} {l0 l1 l2 l3 l4 l5 l6 l7 l8 l9 l10 l11 l12 l13 : Option Value} {l : eg_Lo} : wps rm K Q c_M_fitLine_124 kc ks (l0 :: l1 :: l2 :: l3 :: l4 :: l5 :: l6 :: l7 :: l8 :: l9 :: l10 :: l11 :: l12 :: l13 :: some (.long x) :: l) (st) h = wps rm K Q c_M_fitLine_126 kc ks (l0 :: l1 :: l2 :: l3 :: l4 :: l5 :: l6 :: l7 :: l8 :: l9 :: l10 :: l11 :: l12 :: l13 :: some (.long x) :: l) (.long x :: st) h := gk_lload rfl
theorem s_M_fitLine_126  : wps rm K Q c_M_fitLine_126 kc ks loc (st) h = wps rm K Q c_M_fitLine_127 kc ks loc (.long (0) :: st) h := gk_lc (by decide)
theorem s_M_fitLine_127 {x y : Int64} : wps rm K Q c_M_fitLine_127 kc ks loc (.long y :: .long x :: st) h = wps rm K Q c_M_fitLine_128 kc ks loc (.int (lg_cmp x y) :: st) h := gk_lcmp
theorem s_M_fitLine_128 {x : Int32} : wps rm K Q c_M_fitLine_128 kc ks loc (.int x :: st) h = ((x = 0 → K 214 kc ks loc st h) ∧ (¬ x = 0 → wps rm K Q c_M_fitLine_131 kc ks loc (st) h)) := gk_if1_eq
theorem s_M_fitLine_131 {x : Nat} {l : eg_Lo} : wps rm K Q c_M_fitLine_131 kc ks (some (.ref x) :: l) (st) h = wps rm K Q c_M_fitLine_132 kc ks (some (.ref x) :: l) (.ref x :: st) h := gk_aload rfl
theorem s_M_fitLine_132 {x : Int32} {l0 l1 : Option Value} {l : eg_Lo} : wps rm K Q c_M_fitLine_132 kc ks (l0 :: l1 :: some (.int x) :: l) (st) h = wps rm K Q c_M_fitLine_133 kc ks (l0 :: l1 :: some (.int x) :: l) (.int x :: st) h := gk_iload rfl
theorem s_M_fitLine_133 {x : Int32} {l0 l1 l2 l3 l4 l5 l6 l7 l8 l9 : Option Value} {l : eg_Lo} : wps rm K Q c_M_fitLine_133 kc ks (l0 :: l1 :: l2 :: l3 :: l4 :: l5 :: l6 :: l7 :: l8 :: l9 :: some (.int x) :: l) (st) h = wps rm K Q c_M_fitLine_135 kc ks (l0 :: l1 :: l2 :: l3 :: l4 :: l5 :: l6 :: l7 :: l8 :: l9 :: some (.int x) :: l) (.int x :: st) h := gk_iload rfl
theorem s_M_fitLine_135 {x : Int64} {l0 l1 l2 l3 l4 l5 l6 l7 l8 l9 l10 l11 l12 l13 : Option Value} {l : eg_Lo} : wps rm K Q c_M_fitLine_135 kc ks (l0 :: l1 :: l2 :: l3 :: l4 :: l5 :: l6 :: l7 :: l8 :: l9 :: l10 :: l11 :: l12 :: l13 :: some (.long x) :: l) (st) h = wps rm K Q c_M_fitLine_137 kc ks (l0 :: l1 :: l2 :: l3 :: l4 :: l5 :: l6 :: l7 :: l8 :: l9 :: l10 :: l11 :: l12 :: l13 :: some (.long x) :: l) (.long x :: st) h := gk_lload rfl
theorem s_M_fitLine_137 {x : Int64} : wps rm K Q c_M_fitLine_137 kc ks loc (.long x :: st) h = wps rm K Q c_M_fitLine_138 kc ks loc (.long (-x) :: st) h := gk_lneg
theorem s_M_fitLine_138 {x : Int64} {l0 l1 l2 l3 l4 l5 l6 l7 l8 l9 l10 l11 : Option Value} {l : eg_Lo} : wps rm K Q c_M_fitLine_138 kc ks (l0 :: l1 :: l2 :: l3 :: l4 :: l5 :: l6 :: l7 :: l8 :: l9 :: l10 :: l11 :: some (.long x) :: l) (st) h = wps rm K Q c_M_fitLine_140 kc ks (l0 :: l1 :: l2 :: l3 :: l4 :: l5 :: l6 :: l7 :: l8 :: l9 :: l10 :: l11 :: some (.long x) :: l) (.long x :: st) h := gk_lload rfl
theorem s_M_fitLine_140  : wps rm K Q c_M_fitLine_140 kc ks loc (st) h = wps rm K Q c_M_fitLine_141 kc ks loc (.long (0) :: st) h := gk_lc (by decide)
theorem s_M_fitLine_141  {a1 : Value} {a2 : Value} {a3 : Value} {a4 : Value} {a5 : Value} {x : Nat} : wps rm K Q c_M_fitLine_141 kc ks loc (a5 :: a4 :: a3 :: a2 :: a1 :: .ref (x + 1) :: st) h = (eg_cls h x 12 ∧ st.length ≤ 4 ∧ eg_Cs n_M_crosses (.ref (x + 1) :: [a1, a2, a3, a4, a5]) h (fun v h9 => wps rm K Q c_M_fitLine_144 kc ks loc (v.toList ++ st) h9)) := eg_c1_5
theorem s_M_fitLine_144 {x : Nat} {l : eg_Lo} : wps rm K Q c_M_fitLine_144 kc ks (some (.ref x) :: l) (st) h = wps rm K Q c_M_fitLine_145 kc ks (some (.ref x) :: l) (.ref x :: st) h := gk_aload rfl
theorem s_M_fitLine_145 {x : Nat} : wps rm K Q c_M_fitLine_145 kc ks loc (.ref (x + 1) :: st) h = eg_gf h x 12 29 (fun v => wps rm K Q c_M_fitLine_148 kc ks loc (v :: st) h) := gk_gf
theorem s_M_fitLine_148 {x : Nat} {l : eg_Lo} : wps rm K Q c_M_fitLine_148 kc ks (some (.ref x) :: l) (st) h = wps rm K Q c_M_fitLine_149 kc ks (some (.ref x) :: l) (.ref x :: st) h := gk_aload rfl
theorem s_M_fitLine_149 {x : Nat} : wps rm K Q c_M_fitLine_149 kc ks loc (.ref (x + 1) :: st) h = eg_gf h x 12 30 (fun v => wps rm K Q c_M_fitLine_152 kc ks loc (v :: st) h) := gk_gf
theorem s_M_fitLine_152 {x y : Int64} : wps rm K Q c_M_fitLine_152 kc ks loc (.long y :: .long x :: st) h = wps rm K Q c_M_fitLine_153 kc ks loc (.long (x - y) :: st) h := gk_lsub
theorem s_M_fitLine_153 {x : Nat} {l : eg_Lo} : wps rm K Q c_M_fitLine_153 kc ks (some (.ref x) :: l) (st) h = wps rm K Q c_M_fitLine_154 kc ks (some (.ref x) :: l) (.ref x :: st) h := gk_aload rfl
theorem s_M_fitLine_154 {x : Nat} : wps rm K Q c_M_fitLine_154 kc ks loc (.ref (x + 1) :: st) h = eg_gf h x 12 29 (fun v => wps rm K Q c_M_fitLine_157 kc ks loc (v :: st) h) := gk_gf
theorem s_M_fitLine_157 {x : Nat} {l : eg_Lo} : wps rm K Q c_M_fitLine_157 kc ks (some (.ref x) :: l) (st) h = wps rm K Q c_M_fitLine_158 kc ks (some (.ref x) :: l) (.ref x :: st) h := gk_aload rfl
theorem s_M_fitLine_158 {x : Nat} : wps rm K Q c_M_fitLine_158 kc ks loc (.ref (x + 1) :: st) h = eg_gf h x 12 30 (fun v => wps rm K Q c_M_fitLine_161 kc ks loc (v :: st) h) := gk_gf
theorem s_M_fitLine_161 {x y : Int64} : wps rm K Q c_M_fitLine_161 kc ks loc (.long y :: .long x :: st) h = wps rm K Q c_M_fitLine_162 kc ks loc (.long (x - y) :: st) h := gk_lsub
theorem s_M_fitLine_162 {x y : Int64} : wps rm K Q c_M_fitLine_162 kc ks loc (.long y :: .long x :: st) h = wps rm K Q c_M_fitLine_163 kc ks loc (.long (x * y) :: st) h := gk_lmul
theorem s_M_fitLine_163 {x : Int64} : wps rm K Q c_M_fitLine_163 kc ks loc (.long x :: st) h = wps rm K Q c_M_fitLine_165 kc ks (eg_set2 loc 16 (.long x)) (st) h := gk_lstore
theorem s_M_fitLine_165 {x : Int64} {l0 l1 l2 l3 l4 l5 l6 l7 l8 l9 l10 l11 : Option Value} {l : eg_Lo} : wps rm K Q c_M_fitLine_165 kc ks (l0 :: l1 :: l2 :: l3 :: l4 :: l5 :: l6 :: l7 :: l8 :: l9 :: l10 :: l11 :: some (.long x) :: l) (st) h = wps rm K Q c_M_fitLine_167 kc ks (l0 :: l1 :: l2 :: l3 :: l4 :: l5 :: l6 :: l7 :: l8 :: l9 :: l10 :: l11 :: some (.long x) :: l) (.long x :: st) h := gk_lload rfl
theorem s_M_fitLine_167 {x : Int64} {l0 l1 l2 l3 l4 l5 l6 l7 l8 l9 l10 l11 : Option Value} {l : eg_Lo} : wps rm K Q c_M_fitLine_167 kc ks (l0 :: l1 :: l2 :: l3 :: l4 :: l5 :: l6 :: l7 :: l8 :: l9 :: l10 :: l11 :: some (.long x) :: l) (st) h = wps rm K Q c_M_fitLine_169 kc ks (l0 :: l1 :: l2 :: l3 :: l4 :: l5 :: l6 :: l7 :: l8 :: l9 :: l10 :: l11 :: some (.long x) :: l) (.long x :: st) h := gk_lload rfl
theorem s_M_fitLine_169 {x y : Int64} : wps rm K Q c_M_fitLine_169 kc ks loc (.long y :: .long x :: st) h = wps rm K Q c_M_fitLine_170 kc ks loc (.long (x * y) :: st) h := gk_lmul
theorem s_M_fitLine_170 {x : Int64} {l0 l1 l2 l3 l4 l5 l6 l7 l8 l9 l10 l11 l12 l13 : Option Value} {l : eg_Lo} : wps rm K Q c_M_fitLine_170 kc ks (l0 :: l1 :: l2 :: l3 :: l4 :: l5 :: l6 :: l7 :: l8 :: l9 :: l10 :: l11 :: l12 :: l13 :: some (.long x) :: l) (st) h = wps rm K Q c_M_fitLine_172 kc ks (l0 :: l1 :: l2 :: l3 :: l4 :: l5 :: l6 :: l7 :: l8 :: l9 :: l10 :: l11 :: l12 :: l13 :: some (.long x) :: l) (.long x :: st) h := gk_lload rfl
theorem s_M_fitLine_172 {x : Int64} {l0 l1 l2 l3 l4 l5 l6 l7 l8 l9 l10 l11 l12 l13 : Option Value} {l : eg_Lo} : wps rm K Q c_M_fitLine_172 kc ks (l0 :: l1 :: l2 :: l3 :: l4 :: l5 :: l6 :: l7 :: l8 :: l9 :: l10 :: l11 :: l12 :: l13 :: some (.long x) :: l) (st) h = wps rm K Q c_M_fitLine_174 kc ks (l0 :: l1 :: l2 :: l3 :: l4 :: l5 :: l6 :: l7 :: l8 :: l9 :: l10 :: l11 :: l12 :: l13 :: some (.long x) :: l) (.long x :: st) h := gk_lload rfl
theorem s_M_fitLine_174 {x y : Int64} : wps rm K Q c_M_fitLine_174 kc ks loc (.long y :: .long x :: st) h = wps rm K Q c_M_fitLine_175 kc ks loc (.long (x * y) :: st) h := gk_lmul
theorem s_M_fitLine_175 {x y : Int64} : wps rm K Q c_M_fitLine_175 kc ks loc (.long y :: .long x :: st) h = wps rm K Q c_M_fitLine_176 kc ks loc (.long (x + y) :: st) h := gk_ladd
theorem s_M_fitLine_176 {x : Int64} : wps rm K Q c_M_fitLine_176 kc ks loc (.long x :: st) h = wps rm K Q c_M_fitLine_178 kc ks (eg_set2 loc 18 (.long x)) (st) h := gk_lstore
theorem s_M_fitLine_178 {x : Int32} {l0 l1 l2 : Option Value} {l : eg_Lo} : wps rm K Q c_M_fitLine_178 kc ks (l0 :: l1 :: l2 :: some (.int x) :: l) (st) h = wps rm K Q c_M_fitLine_179 kc ks (l0 :: l1 :: l2 :: some (.int x) :: l) (.int x :: st) h := gk_iload rfl
theorem s_M_fitLine_179 {x : Int32} : wps rm K Q c_M_fitLine_179 kc ks loc (.int x :: st) h = ((x = 0 → K 196 kc ks loc st h) ∧ (¬ x = 0 → wps rm K Q c_M_fitLine_182 kc ks loc (st) h)) := gk_if1_eq
theorem s_M_fitLine_182 {x : Int64} {l0 l1 l2 l3 l4 l5 l6 l7 l8 l9 l10 l11 l12 l13 l14 l15 : Option Value} {l : eg_Lo} : wps rm K Q c_M_fitLine_182 kc ks (l0 :: l1 :: l2 :: l3 :: l4 :: l5 :: l6 :: l7 :: l8 :: l9 :: l10 :: l11 :: l12 :: l13 :: l14 :: l15 :: some (.long x) :: l) (st) h = wps rm K Q c_M_fitLine_184 kc ks (l0 :: l1 :: l2 :: l3 :: l4 :: l5 :: l6 :: l7 :: l8 :: l9 :: l10 :: l11 :: l12 :: l13 :: l14 :: l15 :: some (.long x) :: l) (.long x :: st) h := gk_lload rfl
theorem s_M_fitLine_184 {x : Int64} {l0 l1 l2 l3 l4 l5 l6 l7 l8 l9 l10 l11 l12 l13 l14 l15 l16 l17 : Option Value} {l : eg_Lo} : wps rm K Q c_M_fitLine_184 kc ks (l0 :: l1 :: l2 :: l3 :: l4 :: l5 :: l6 :: l7 :: l8 :: l9 :: l10 :: l11 :: l12 :: l13 :: l14 :: l15 :: l16 :: l17 :: some (.long x) :: l) (st) h = wps rm K Q c_M_fitLine_186 kc ks (l0 :: l1 :: l2 :: l3 :: l4 :: l5 :: l6 :: l7 :: l8 :: l9 :: l10 :: l11 :: l12 :: l13 :: l14 :: l15 :: l16 :: l17 :: some (.long x) :: l) (.long x :: st) h := gk_lload rfl
theorem s_M_fitLine_186 {x : Int64} {l0 l1 l2 l3 : Option Value} {l : eg_Lo} : wps rm K Q c_M_fitLine_186 kc ks (l0 :: l1 :: l2 :: l3 :: some (.long x) :: l) (st) h = wps rm K Q c_M_fitLine_188 kc ks (l0 :: l1 :: l2 :: l3 :: some (.long x) :: l) (.long x :: st) h := gk_lload rfl
theorem s_M_fitLine_188 {x : Int64} {l0 l1 l2 l3 l4 l5 : Option Value} {l : eg_Lo} : wps rm K Q c_M_fitLine_188 kc ks (l0 :: l1 :: l2 :: l3 :: l4 :: l5 :: some (.long x) :: l) (st) h = wps rm K Q c_M_fitLine_190 kc ks (l0 :: l1 :: l2 :: l3 :: l4 :: l5 :: some (.long x) :: l) (.long x :: st) h := gk_lload rfl
theorem s_M_fitLine_190  {a1 : Value} {a2 : Value} {a3 : Value} {a4 : Value} : wps rm K Q c_M_fitLine_190 kc ks loc (a4 :: a3 :: a2 :: a1 :: st) h = (st.length ≤ 4 ∧ eg_Cs n_M_isLess [a1, a2, a3, a4] h (fun v h9 => wps rm K Q c_M_fitLine_193 kc ks loc (v.toList ++ st) h9)) := eg_c0_4
theorem s_M_fitLine_193 {x : Int32} : wps rm K Q c_M_fitLine_193 kc ks loc (.int x :: st) h = ((x = 0 → K 214 kc ks loc st h) ∧ (¬ x = 0 → wps rm K Q c_M_fitLine_196 kc ks loc (st) h)) := gk_if1_eq
theorem s_M_fitLine_196  : wps rm K Q c_M_fitLine_196 kc ks loc (st) h = wps rm K Q c_M_fitLine_197 kc ks loc (.int (1) :: st) h := gk_ic (by decide)
theorem s_M_fitLine_197 {x : Int32} : wps rm K Q c_M_fitLine_197 kc ks loc (.int x :: st) h = wps rm K Q c_M_fitLine_198 kc ks (eg_set1 loc 3 (.int x)) (st) h := gk_istore
theorem s_M_fitLine_198 {x : Int64} {l0 l1 l2 l3 l4 l5 l6 l7 l8 l9 l10 l11 l12 l13 l14 l15 : Option Value} {l : eg_Lo} : wps rm K Q c_M_fitLine_198 kc ks (l0 :: l1 :: l2 :: l3 :: l4 :: l5 :: l6 :: l7 :: l8 :: l9 :: l10 :: l11 :: l12 :: l13 :: l14 :: l15 :: some (.long x) :: l) (st) h = wps rm K Q c_M_fitLine_200 kc ks (l0 :: l1 :: l2 :: l3 :: l4 :: l5 :: l6 :: l7 :: l8 :: l9 :: l10 :: l11 :: l12 :: l13 :: l14 :: l15 :: some (.long x) :: l) (.long x :: st) h := gk_lload rfl
theorem s_M_fitLine_200 {x : Int64} : wps rm K Q c_M_fitLine_200 kc ks loc (.long x :: st) h = wps rm K Q c_M_fitLine_202 kc ks (eg_set2 loc 4 (.long x)) (st) h := gk_lstore
theorem s_M_fitLine_202 {x : Int64} {l0 l1 l2 l3 l4 l5 l6 l7 l8 l9 l10 l11 l12 l13 l14 l15 l16 l17 : Option Value} {l : eg_Lo} : wps rm K Q c_M_fitLine_202 kc ks (l0 :: l1 :: l2 :: l3 :: l4 :: l5 :: l6 :: l7 :: l8 :: l9 :: l10 :: l11 :: l12 :: l13 :: l14 :: l15 :: l16 :: l17 :: some (.long x) :: l) (st) h = wps rm K Q c_M_fitLine_204 kc ks (l0 :: l1 :: l2 :: l3 :: l4 :: l5 :: l6 :: l7 :: l8 :: l9 :: l10 :: l11 :: l12 :: l13 :: l14 :: l15 :: l16 :: l17 :: some (.long x) :: l) (.long x :: st) h := gk_lload rfl
theorem s_M_fitLine_204 {x : Int64} : wps rm K Q c_M_fitLine_204 kc ks loc (.long x :: st) h = wps rm K Q c_M_fitLine_206 kc ks (eg_set2 loc 6 (.long x)) (st) h := gk_lstore
theorem s_M_fitLine_206 {x : Int32} {l0 l1 l2 l3 l4 l5 l6 l7 l8 l9 : Option Value} {l : eg_Lo} : wps rm K Q c_M_fitLine_206 kc ks (l0 :: l1 :: l2 :: l3 :: l4 :: l5 :: l6 :: l7 :: l8 :: l9 :: some (.int x) :: l) (st) h = wps rm K Q c_M_fitLine_208 kc ks (l0 :: l1 :: l2 :: l3 :: l4 :: l5 :: l6 :: l7 :: l8 :: l9 :: some (.int x) :: l) (.int x :: st) h := gk_iload rfl
theorem s_M_fitLine_208 {x : Int32} : wps rm K Q c_M_fitLine_208 kc ks loc (.int x :: st) h = wps rm K Q c_M_fitLine_210 kc ks (eg_set1 loc 8 (.int x)) (st) h := gk_istore
theorem s_M_fitLine_210 {x : Int32} {l0 l1 l2 l3 l4 l5 l6 l7 l8 l9 l10 : Option Value} {l : eg_Lo} : wps rm K Q c_M_fitLine_210 kc ks (l0 :: l1 :: l2 :: l3 :: l4 :: l5 :: l6 :: l7 :: l8 :: l9 :: l10 :: some (.int x) :: l) (st) h = wps rm K Q c_M_fitLine_212 kc ks (l0 :: l1 :: l2 :: l3 :: l4 :: l5 :: l6 :: l7 :: l8 :: l9 :: l10 :: some (.int x) :: l) (.int x :: st) h := gk_iload rfl
theorem s_M_fitLine_212 {x : Int32} : wps rm K Q c_M_fitLine_212 kc ks loc (.int x :: st) h = wps rm K Q c_M_fitLine_214 kc ks (eg_set1 loc 9 (.int x)) (st) h := gk_istore
theorem s_M_fitLine_214 {x : Int32} {l0 l1 l2 l3 l4 l5 l6 l7 l8 l9 l10 : Option Value} {lz : eg_Lo} : wps rm K Q c_M_fitLine_214 kc ks (l0 :: l1 :: l2 :: l3 :: l4 :: l5 :: l6 :: l7 :: l8 :: l9 :: l10 :: some (.int x) :: lz) (st) h = wps rm K Q c_M_fitLine_217 kc ks (eg_set1 (l0 :: l1 :: l2 :: l3 :: l4 :: l5 :: l6 :: l7 :: l8 :: l9 :: l10 :: some (.int x) :: lz) 11 (.int (x + (1)))) (st) h := gk_iinc rfl (by decide)
theorem s_M_fitLine_217  : wps rm K Q c_M_fitLine_217 kc ks loc (st) h = K 34 kc ks loc st h := gk_goto
theorem s_M_fitLine_220 {x : Int32} {l0 l1 l2 l3 l4 l5 l6 l7 l8 l9 : Option Value} {lz : eg_Lo} : wps rm K Q c_M_fitLine_220 kc ks (l0 :: l1 :: l2 :: l3 :: l4 :: l5 :: l6 :: l7 :: l8 :: l9 :: some (.int x) :: lz) (st) h = wps rm K Q c_M_fitLine_223 kc ks (eg_set1 (l0 :: l1 :: l2 :: l3 :: l4 :: l5 :: l6 :: l7 :: l8 :: l9 :: some (.int x) :: lz) 10 (.int (x + (1)))) (st) h := gk_iinc rfl (by decide)
theorem s_M_fitLine_223  : wps rm K Q c_M_fitLine_223 kc ks loc (st) h = K 17 kc ks loc st h := gk_goto
theorem s_M_fitLine_226 {x : Int32} {l0 l1 l2 : Option Value} {l : eg_Lo} : wps rm K Q c_M_fitLine_226 kc ks (l0 :: l1 :: l2 :: some (.int x) :: l) (st) h = wps rm K Q c_M_fitLine_227 kc ks (l0 :: l1 :: l2 :: some (.int x) :: l) (.int x :: st) h := gk_iload rfl
theorem s_M_fitLine_227 {x : Int32} : wps rm K Q c_M_fitLine_227 kc ks loc (.int x :: st) h = ((¬ x = 0 → K 238 kc ks loc st h) ∧ (x = 0 → wps rm K Q c_M_fitLine_230 kc ks loc (st) h)) := gk_if1_ne
theorem s_M_fitLine_230 {x : Nat} {l : eg_Lo} : wps rm K Q c_M_fitLine_230 kc ks (some (.ref x) :: l) (st) h = wps rm K Q c_M_fitLine_231 kc ks (some (.ref x) :: l) (.ref x :: st) h := gk_aload rfl
theorem s_M_fitLine_231  : wps rm K Q c_M_fitLine_231 kc ks loc (st) h = wps rm K Q c_M_fitLine_234 kc ks loc (.long (-1000000000000000006) :: st) h := gk_lc (by decide)
theorem s_M_fitLine_234  {a1 : Value} {x : Nat} : wps rm K Q c_M_fitLine_234 kc ks loc (a1 :: .ref (x + 1) :: st) h = (eg_cls h x 12 ∧ st.length ≤ 4 ∧ eg_Cs n_M_finding (.ref (x + 1) :: [a1]) h (fun v h9 => wps rm K Q c_M_fitLine_237 kc ks loc (v.toList ++ st) h9)) := eg_c1_1
theorem s_M_fitLine_237 {x : Int64} : wps rm K Q c_M_fitLine_237 kc ks loc ([.long x]) h = (kc = rm.cells ∧ Q (some (.long x)) h) := gk_lret
theorem s_M_fitLine_238 {x : Nat} {l : eg_Lo} : wps rm K Q c_M_fitLine_238 kc ks (some (.ref x) :: l) (st) h = wps rm K Q c_M_fitLine_239 kc ks (some (.ref x) :: l) (.ref x :: st) h := gk_aload rfl
theorem s_M_fitLine_239 {x : Nat} : wps rm K Q c_M_fitLine_239 kc ks loc (.ref (x + 1) :: st) h = eg_gf h x 12 1 (fun v => wps rm K Q c_M_fitLine_242 kc ks loc (v :: st) h) := gk_gf
theorem s_M_fitLine_242 {x : Int32} {l0 l1 : Option Value} {l : eg_Lo} : wps rm K Q c_M_fitLine_242 kc ks (l0 :: l1 :: some (.int x) :: l) (st) h = wps rm K Q c_M_fitLine_243 kc ks (l0 :: l1 :: some (.int x) :: l) (.int x :: st) h := gk_iload rfl
theorem s_M_fitLine_243 {x : Int32} {l0 l1 l2 l3 l4 l5 l6 l7 l8 : Option Value} {l : eg_Lo} : wps rm K Q c_M_fitLine_243 kc ks (l0 :: l1 :: l2 :: l3 :: l4 :: l5 :: l6 :: l7 :: l8 :: some (.int x) :: l) (st) h = wps rm K Q c_M_fitLine_245 kc ks (l0 :: l1 :: l2 :: l3 :: l4 :: l5 :: l6 :: l7 :: l8 :: some (.int x) :: l) (.int x :: st) h := gk_iload rfl
theorem s_M_fitLine_245  {a1 : Value} {a2 : Value} : wps rm K Q c_M_fitLine_245 kc ks loc (a2 :: a1 :: st) h = (st.length ≤ 4 ∧ eg_Cs n_M_at_II [a1, a2] h (fun v h9 => wps rm K Q c_M_fitLine_248 kc ks loc (v.toList ++ st) h9)) := eg_c0_2
theorem s_M_fitLine_248 {x : Nat} {i : Int32} : wps rm K Q c_M_fitLine_248 kc ks loc (.int i :: .ref (x + 1) :: st) h = eg_ia h x i (fun v => wps rm K Q c_M_fitLine_249 kc ks loc (.int v :: st) h) := gk_iaload
theorem s_M_fitLine_249 {x : Nat} {l : eg_Lo} : wps rm K Q c_M_fitLine_249 kc ks (some (.ref x) :: l) (st) h = wps rm K Q c_M_fitLine_250 kc ks (some (.ref x) :: l) (.ref x :: st) h := gk_aload rfl
theorem s_M_fitLine_250 {x : Nat} : wps rm K Q c_M_fitLine_250 kc ks loc (.ref (x + 1) :: st) h = eg_gf h x 12 1 (fun v => wps rm K Q c_M_fitLine_253 kc ks loc (v :: st) h) := gk_gf
theorem s_M_fitLine_253 {x : Int32} {l0 l1 : Option Value} {l : eg_Lo} : wps rm K Q c_M_fitLine_253 kc ks (l0 :: l1 :: some (.int x) :: l) (st) h = wps rm K Q c_M_fitLine_254 kc ks (l0 :: l1 :: some (.int x) :: l) (.int x :: st) h := gk_iload rfl
theorem s_M_fitLine_254 {x : Int32} {l0 l1 l2 l3 l4 l5 l6 l7 : Option Value} {l : eg_Lo} : wps rm K Q c_M_fitLine_254 kc ks (l0 :: l1 :: l2 :: l3 :: l4 :: l5 :: l6 :: l7 :: some (.int x) :: l) (st) h = wps rm K Q c_M_fitLine_256 kc ks (l0 :: l1 :: l2 :: l3 :: l4 :: l5 :: l6 :: l7 :: some (.int x) :: l) (.int x :: st) h := gk_iload rfl
theorem s_M_fitLine_256  {a1 : Value} {a2 : Value} : wps rm K Q c_M_fitLine_256 kc ks loc (a2 :: a1 :: st) h = (st.length ≤ 4 ∧ eg_Cs n_M_at_II [a1, a2] h (fun v h9 => wps rm K Q c_M_fitLine_259 kc ks loc (v.toList ++ st) h9)) := eg_c0_2
theorem s_M_fitLine_259 {x : Nat} {i : Int32} : wps rm K Q c_M_fitLine_259 kc ks loc (.int i :: .ref (x + 1) :: st) h = eg_ia h x i (fun v => wps rm K Q c_M_fitLine_260 kc ks loc (.int v :: st) h) := gk_iaload
theorem s_M_fitLine_260 {x y : Int32} : wps rm K Q c_M_fitLine_260 kc ks loc (.int y :: .int x :: st) h = wps rm K Q c_M_fitLine_261 kc ks loc (.int (x - y) :: st) h := gk_isub
theorem s_M_fitLine_261 {x : Int32} : wps rm K Q c_M_fitLine_261 kc ks loc (.int x :: st) h = wps rm K Q c_M_fitLine_262 kc ks loc (.long (x.toInt64) :: st) h := gk_i2l
theorem s_M_fitLine_262 {x : Int64} : wps rm K Q c_M_fitLine_262 kc ks loc (.long x :: st) h = wps rm K Q c_M_fitLine_264 kc ks (eg_set2 loc 10 (.long x)) (st) h := gk_lstore
theorem s_M_fitLine_264 {x : Nat} {l : eg_Lo} : wps rm K Q c_M_fitLine_264 kc ks (some (.ref x) :: l) (st) h = wps rm K Q c_M_fitLine_265 kc ks (some (.ref x) :: l) (.ref x :: st) h := gk_aload rfl
theorem s_M_fitLine_265 {x : Nat} : wps rm K Q c_M_fitLine_265 kc ks loc (.ref (x + 1) :: st) h = eg_gf h x 12 2 (fun v => wps rm K Q c_M_fitLine_268 kc ks loc (v :: st) h) := gk_gf
theorem s_M_fitLine_268 {x : Int32} {l0 l1 : Option Value} {l : eg_Lo} : wps rm K Q c_M_fitLine_268 kc ks (l0 :: l1 :: some (.int x) :: l) (st) h = wps rm K Q c_M_fitLine_269 kc ks (l0 :: l1 :: some (.int x) :: l) (.int x :: st) h := gk_iload rfl
theorem s_M_fitLine_269 {x : Int32} {l0 l1 l2 l3 l4 l5 l6 l7 l8 : Option Value} {l : eg_Lo} : wps rm K Q c_M_fitLine_269 kc ks (l0 :: l1 :: l2 :: l3 :: l4 :: l5 :: l6 :: l7 :: l8 :: some (.int x) :: l) (st) h = wps rm K Q c_M_fitLine_271 kc ks (l0 :: l1 :: l2 :: l3 :: l4 :: l5 :: l6 :: l7 :: l8 :: some (.int x) :: l) (.int x :: st) h := gk_iload rfl
theorem s_M_fitLine_271  {a1 : Value} {a2 : Value} : wps rm K Q c_M_fitLine_271 kc ks loc (a2 :: a1 :: st) h = (st.length ≤ 4 ∧ eg_Cs n_M_at_II [a1, a2] h (fun v h9 => wps rm K Q c_M_fitLine_274 kc ks loc (v.toList ++ st) h9)) := eg_c0_2
theorem s_M_fitLine_274 {x : Nat} {i : Int32} : wps rm K Q c_M_fitLine_274 kc ks loc (.int i :: .ref (x + 1) :: st) h = eg_ia h x i (fun v => wps rm K Q c_M_fitLine_275 kc ks loc (.int v :: st) h) := gk_iaload
theorem s_M_fitLine_275 {x : Nat} {l : eg_Lo} : wps rm K Q c_M_fitLine_275 kc ks (some (.ref x) :: l) (st) h = wps rm K Q c_M_fitLine_276 kc ks (some (.ref x) :: l) (.ref x :: st) h := gk_aload rfl
theorem s_M_fitLine_276 {x : Nat} : wps rm K Q c_M_fitLine_276 kc ks loc (.ref (x + 1) :: st) h = eg_gf h x 12 2 (fun v => wps rm K Q c_M_fitLine_279 kc ks loc (v :: st) h) := gk_gf
theorem s_M_fitLine_279 {x : Int32} {l0 l1 : Option Value} {l : eg_Lo} : wps rm K Q c_M_fitLine_279 kc ks (l0 :: l1 :: some (.int x) :: l) (st) h = wps rm K Q c_M_fitLine_280 kc ks (l0 :: l1 :: some (.int x) :: l) (.int x :: st) h := gk_iload rfl
theorem s_M_fitLine_280 {x : Int32} {l0 l1 l2 l3 l4 l5 l6 l7 : Option Value} {l : eg_Lo} : wps rm K Q c_M_fitLine_280 kc ks (l0 :: l1 :: l2 :: l3 :: l4 :: l5 :: l6 :: l7 :: some (.int x) :: l) (st) h = wps rm K Q c_M_fitLine_282 kc ks (l0 :: l1 :: l2 :: l3 :: l4 :: l5 :: l6 :: l7 :: some (.int x) :: l) (.int x :: st) h := gk_iload rfl
theorem s_M_fitLine_282  {a1 : Value} {a2 : Value} : wps rm K Q c_M_fitLine_282 kc ks loc (a2 :: a1 :: st) h = (st.length ≤ 4 ∧ eg_Cs n_M_at_II [a1, a2] h (fun v h9 => wps rm K Q c_M_fitLine_285 kc ks loc (v.toList ++ st) h9)) := eg_c0_2
theorem s_M_fitLine_285 {x : Nat} {i : Int32} : wps rm K Q c_M_fitLine_285 kc ks loc (.int i :: .ref (x + 1) :: st) h = eg_ia h x i (fun v => wps rm K Q c_M_fitLine_286 kc ks loc (.int v :: st) h) := gk_iaload
theorem s_M_fitLine_286 {x y : Int32} : wps rm K Q c_M_fitLine_286 kc ks loc (.int y :: .int x :: st) h = wps rm K Q c_M_fitLine_287 kc ks loc (.int (x - y) :: st) h := gk_isub
theorem s_M_fitLine_287 {x : Int32} : wps rm K Q c_M_fitLine_287 kc ks loc (.int x :: st) h = wps rm K Q c_M_fitLine_288 kc ks loc (.long (x.toInt64) :: st) h := gk_i2l
theorem s_M_fitLine_288 {x : Int64} : wps rm K Q c_M_fitLine_288 kc ks loc (.long x :: st) h = wps rm K Q c_M_fitLine_290 kc ks (eg_set2 loc 12 (.long x)) (st) h := gk_lstore
theorem s_M_fitLine_290 {x : Nat} {l : eg_Lo} : wps rm K Q c_M_fitLine_290 kc ks (some (.ref x) :: l) (st) h = wps rm K Q c_M_fitLine_291 kc ks (some (.ref x) :: l) (.ref x :: st) h := gk_aload rfl
theorem s_M_fitLine_291 {x : Int32} {l0 l1 : Option Value} {l : eg_Lo} : wps rm K Q c_M_fitLine_291 kc ks (l0 :: l1 :: some (.int x) :: l) (st) h = wps rm K Q c_M_fitLine_292 kc ks (l0 :: l1 :: some (.int x) :: l) (.int x :: st) h := gk_iload rfl
theorem s_M_fitLine_292 {x : Int32} {l0 l1 l2 l3 l4 l5 l6 l7 : Option Value} {l : eg_Lo} : wps rm K Q c_M_fitLine_292 kc ks (l0 :: l1 :: l2 :: l3 :: l4 :: l5 :: l6 :: l7 :: some (.int x) :: l) (st) h = wps rm K Q c_M_fitLine_294 kc ks (l0 :: l1 :: l2 :: l3 :: l4 :: l5 :: l6 :: l7 :: some (.int x) :: l) (.int x :: st) h := gk_iload rfl
theorem s_M_fitLine_294 {x : Int64} {l0 l1 l2 l3 l4 l5 l6 l7 l8 l9 l10 l11 : Option Value} {l : eg_Lo} : wps rm K Q c_M_fitLine_294 kc ks (l0 :: l1 :: l2 :: l3 :: l4 :: l5 :: l6 :: l7 :: l8 :: l9 :: l10 :: l11 :: some (.long x) :: l) (st) h = wps rm K Q c_M_fitLine_296 kc ks (l0 :: l1 :: l2 :: l3 :: l4 :: l5 :: l6 :: l7 :: l8 :: l9 :: l10 :: l11 :: some (.long x) :: l) (.long x :: st) h := gk_lload rfl
theorem s_M_fitLine_296 {x : Int64} : wps rm K Q c_M_fitLine_296 kc ks loc (.long x :: st) h = wps rm K Q c_M_fitLine_297 kc ks loc (.long (-x) :: st) h := gk_lneg
theorem s_M_fitLine_297 {x : Int64} {l0 l1 l2 l3 l4 l5 l6 l7 l8 l9 : Option Value} {l : eg_Lo} : wps rm K Q c_M_fitLine_297 kc ks (l0 :: l1 :: l2 :: l3 :: l4 :: l5 :: l6 :: l7 :: l8 :: l9 :: some (.long x) :: l) (st) h = wps rm K Q c_M_fitLine_299 kc ks (l0 :: l1 :: l2 :: l3 :: l4 :: l5 :: l6 :: l7 :: l8 :: l9 :: some (.long x) :: l) (.long x :: st) h := gk_lload rfl
theorem s_M_fitLine_299  : wps rm K Q c_M_fitLine_299 kc ks loc (st) h = wps rm K Q c_M_fitLine_300 kc ks loc (.long (0) :: st) h := gk_lc (by decide)
theorem s_M_fitLine_300  {a1 : Value} {a2 : Value} {a3 : Value} {a4 : Value} {a5 : Value} {x : Nat} : wps rm K Q c_M_fitLine_300 kc ks loc (a5 :: a4 :: a3 :: a2 :: a1 :: .ref (x + 1) :: st) h = (eg_cls h x 12 ∧ st.length ≤ 4 ∧ eg_Cs n_M_crosses (.ref (x + 1) :: [a1, a2, a3, a4, a5]) h (fun v h9 => wps rm K Q c_M_fitLine_303 kc ks loc (v.toList ++ st) h9)) := eg_c1_5
theorem s_M_fitLine_303 {x : Nat} {l : eg_Lo} : wps rm K Q c_M_fitLine_303 kc ks (some (.ref x) :: l) (st) h = wps rm K Q c_M_fitLine_304 kc ks (some (.ref x) :: l) (.ref x :: st) h := gk_aload rfl
theorem s_M_fitLine_304 {x : Nat} : wps rm K Q c_M_fitLine_304 kc ks loc (.ref (x + 1) :: st) h = eg_gf h x 12 7 (fun v => wps rm K Q c_M_fitLine_307 kc ks loc (v :: st) h) := gk_gf
theorem s_M_fitLine_307 {x : Int32} {l0 : Option Value} {l : eg_Lo} : wps rm K Q c_M_fitLine_307 kc ks (l0 :: some (.int x) :: l) (st) h = wps rm K Q c_M_fitLine_308 kc ks (l0 :: some (.int x) :: l) (.int x :: st) h := gk_iload rfl
theorem s_M_fitLine_308  : wps rm K Q c_M_fitLine_308 kc ks loc (st) h = wps rm K Q c_M_fitLine_309 kc ks loc (.int (2) :: st) h := gk_ic (by decide)
theorem s_M_fitLine_309 {x : Nat} {i : Int32} {v : Int32} : wps rm K Q c_M_fitLine_309 kc ks loc (.int v :: .int i :: .ref (x + 1) :: st) h = eg_is h x i v (fun h9 => wps rm K Q c_M_fitLine_310 kc ks loc (st) h9) := gk_iastore
theorem s_M_fitLine_310 {x : Nat} {l : eg_Lo} : wps rm K Q c_M_fitLine_310 kc ks (some (.ref x) :: l) (st) h = wps rm K Q c_M_fitLine_311 kc ks (some (.ref x) :: l) (.ref x :: st) h := gk_aload rfl
theorem s_M_fitLine_311 {x : Nat} : wps rm K Q c_M_fitLine_311 kc ks loc (.ref (x + 1) :: st) h = eg_gf h x 12 8 (fun v => wps rm K Q c_M_fitLine_314 kc ks loc (v :: st) h) := gk_gf
theorem s_M_fitLine_314 {x : Int32} {l0 : Option Value} {l : eg_Lo} : wps rm K Q c_M_fitLine_314 kc ks (l0 :: some (.int x) :: l) (st) h = wps rm K Q c_M_fitLine_315 kc ks (l0 :: some (.int x) :: l) (.int x :: st) h := gk_iload rfl
theorem s_M_fitLine_315  : wps rm K Q c_M_fitLine_315 kc ks loc (st) h = wps rm K Q c_M_fitLine_316 kc ks loc (.int (4) :: st) h := gk_ic (by decide)
theorem s_M_fitLine_316 {x : Nat} {i : Int32} {v : Int32} : wps rm K Q c_M_fitLine_316 kc ks loc (.int v :: .int i :: .ref (x + 1) :: st) h = eg_is h x i v (fun h9 => wps rm K Q c_M_fitLine_317 kc ks loc (st) h9) := gk_iastore
theorem s_M_fitLine_317 {x : Nat} {l : eg_Lo} : wps rm K Q c_M_fitLine_317 kc ks (some (.ref x) :: l) (st) h = wps rm K Q c_M_fitLine_318 kc ks (some (.ref x) :: l) (.ref x :: st) h := gk_aload rfl
theorem s_M_fitLine_318 {x : Nat} : wps rm K Q c_M_fitLine_318 kc ks loc (.ref (x + 1) :: st) h = eg_gf h x 12 9 (fun v => wps rm K Q c_M_fitLine_321 kc ks loc (v :: st) h) := gk_gf
theorem s_M_fitLine_321  : wps rm K Q c_M_fitLine_321 kc ks loc (st) h = wps rm K Q c_M_fitLine_323 kc ks loc (.int (6) :: st) h := gk_ic (by decide)
theorem s_M_fitLine_323 {x : Int32} {l0 : Option Value} {l : eg_Lo} : wps rm K Q c_M_fitLine_323 kc ks (l0 :: some (.int x) :: l) (st) h = wps rm K Q c_M_fitLine_324 kc ks (l0 :: some (.int x) :: l) (.int x :: st) h := gk_iload rfl
theorem s_M_fitLine_324 {x y : Int32} : wps rm K Q c_M_fitLine_324 kc ks loc (.int y :: .int x :: st) h = wps rm K Q c_M_fitLine_325 kc ks loc (.int (x * y) :: st) h := gk_imul
theorem s_M_fitLine_325 {x : Int32} {l0 l1 l2 l3 l4 l5 l6 l7 : Option Value} {l : eg_Lo} : wps rm K Q c_M_fitLine_325 kc ks (l0 :: l1 :: l2 :: l3 :: l4 :: l5 :: l6 :: l7 :: some (.int x) :: l) (st) h = wps rm K Q c_M_fitLine_327 kc ks (l0 :: l1 :: l2 :: l3 :: l4 :: l5 :: l6 :: l7 :: some (.int x) :: l) (.int x :: st) h := gk_iload rfl
theorem s_M_fitLine_327 {x : Nat} {i : Int32} {v : Int32} : wps rm K Q c_M_fitLine_327 kc ks loc (.int v :: .int i :: .ref (x + 1) :: st) h = eg_is h x i v (fun h9 => wps rm K Q c_M_fitLine_328 kc ks loc (st) h9) := gk_iastore
theorem s_M_fitLine_328 {x : Nat} {l : eg_Lo} : wps rm K Q c_M_fitLine_328 kc ks (some (.ref x) :: l) (st) h = wps rm K Q c_M_fitLine_329 kc ks (some (.ref x) :: l) (.ref x :: st) h := gk_aload rfl
theorem s_M_fitLine_329 {x : Nat} : wps rm K Q c_M_fitLine_329 kc ks loc (.ref (x + 1) :: st) h = eg_gf h x 12 9 (fun v => wps rm K Q c_M_fitLine_332 kc ks loc (v :: st) h) := gk_gf
theorem s_M_fitLine_332  : wps rm K Q c_M_fitLine_332 kc ks loc (st) h = wps rm K Q c_M_fitLine_334 kc ks loc (.int (6) :: st) h := gk_ic (by decide)
theorem s_M_fitLine_334 {x : Int32} {l0 : Option Value} {l : eg_Lo} : wps rm K Q c_M_fitLine_334 kc ks (l0 :: some (.int x) :: l) (st) h = wps rm K Q c_M_fitLine_335 kc ks (l0 :: some (.int x) :: l) (.int x :: st) h := gk_iload rfl
theorem s_M_fitLine_335 {x y : Int32} : wps rm K Q c_M_fitLine_335 kc ks loc (.int y :: .int x :: st) h = wps rm K Q c_M_fitLine_336 kc ks loc (.int (x * y) :: st) h := gk_imul
theorem s_M_fitLine_336  : wps rm K Q c_M_fitLine_336 kc ks loc (st) h = wps rm K Q c_M_fitLine_337 kc ks loc (.int (1) :: st) h := gk_ic (by decide)
theorem s_M_fitLine_337 {x y : Int32} : wps rm K Q c_M_fitLine_337 kc ks loc (.int y :: .int x :: st) h = wps rm K Q c_M_fitLine_338 kc ks loc (.int (x + y) :: st) h := gk_iadd
theorem s_M_fitLine_338 {x : Int32} {l0 l1 l2 l3 l4 l5 l6 l7 l8 : Option Value} {l : eg_Lo} : wps rm K Q c_M_fitLine_338 kc ks (l0 :: l1 :: l2 :: l3 :: l4 :: l5 :: l6 :: l7 :: l8 :: some (.int x) :: l) (st) h = wps rm K Q c_M_fitLine_340 kc ks (l0 :: l1 :: l2 :: l3 :: l4 :: l5 :: l6 :: l7 :: l8 :: some (.int x) :: l) (.int x :: st) h := gk_iload rfl
theorem s_M_fitLine_340 {x : Nat} {i : Int32} {v : Int32} : wps rm K Q c_M_fitLine_340 kc ks loc (.int v :: .int i :: .ref (x + 1) :: st) h = eg_is h x i v (fun h9 => wps rm K Q c_M_fitLine_341 kc ks loc (st) h9) := gk_iastore
theorem s_M_fitLine_341 {x : Nat} {l : eg_Lo} : wps rm K Q c_M_fitLine_341 kc ks (some (.ref x) :: l) (st) h = wps rm K Q c_M_fitLine_342 kc ks (some (.ref x) :: l) (.ref x :: st) h := gk_aload rfl
theorem s_M_fitLine_342 {x : Nat} : wps rm K Q c_M_fitLine_342 kc ks loc (.ref (x + 1) :: st) h = eg_gf h x 12 9 (fun v => wps rm K Q c_M_fitLine_345 kc ks loc (v :: st) h) := gk_gf
theorem s_M_fitLine_345  : wps rm K Q c_M_fitLine_345 kc ks loc (st) h = wps rm K Q c_M_fitLine_347 kc ks loc (.int (6) :: st) h := gk_ic (by decide)
theorem s_M_fitLine_347 {x : Int32} {l0 : Option Value} {l : eg_Lo} : wps rm K Q c_M_fitLine_347 kc ks (l0 :: some (.int x) :: l) (st) h = wps rm K Q c_M_fitLine_348 kc ks (l0 :: some (.int x) :: l) (.int x :: st) h := gk_iload rfl
theorem s_M_fitLine_348 {x y : Int32} : wps rm K Q c_M_fitLine_348 kc ks loc (.int y :: .int x :: st) h = wps rm K Q c_M_fitLine_349 kc ks loc (.int (x * y) :: st) h := gk_imul
theorem s_M_fitLine_349  : wps rm K Q c_M_fitLine_349 kc ks loc (st) h = wps rm K Q c_M_fitLine_350 kc ks loc (.int (2) :: st) h := gk_ic (by decide)
theorem s_M_fitLine_350 {x y : Int32} : wps rm K Q c_M_fitLine_350 kc ks loc (.int y :: .int x :: st) h = wps rm K Q c_M_fitLine_351 kc ks loc (.int (x + y) :: st) h := gk_iadd
theorem s_M_fitLine_351 {x : Nat} {l : eg_Lo} : wps rm K Q c_M_fitLine_351 kc ks (some (.ref x) :: l) (st) h = wps rm K Q c_M_fitLine_352 kc ks (some (.ref x) :: l) (.ref x :: st) h := gk_aload rfl
theorem s_M_fitLine_352 {x : Nat} : wps rm K Q c_M_fitLine_352 kc ks loc (.ref (x + 1) :: st) h = eg_gf h x 12 31 (fun v => wps rm K Q c_M_fitLine_355 kc ks loc (v :: st) h) := gk_gf
theorem s_M_fitLine_355 {x : Nat} {i : Int32} {v : Int32} : wps rm K Q c_M_fitLine_355 kc ks loc (.int v :: .int i :: .ref (x + 1) :: st) h = eg_is h x i v (fun h9 => wps rm K Q c_M_fitLine_356 kc ks loc (st) h9) := gk_iastore
theorem s_M_fitLine_356 {x : Nat} {l : eg_Lo} : wps rm K Q c_M_fitLine_356 kc ks (some (.ref x) :: l) (st) h = wps rm K Q c_M_fitLine_357 kc ks (some (.ref x) :: l) (.ref x :: st) h := gk_aload rfl
theorem s_M_fitLine_357 {x : Nat} : wps rm K Q c_M_fitLine_357 kc ks loc (.ref (x + 1) :: st) h = eg_gf h x 12 9 (fun v => wps rm K Q c_M_fitLine_360 kc ks loc (v :: st) h) := gk_gf
theorem s_M_fitLine_360  : wps rm K Q c_M_fitLine_360 kc ks loc (st) h = wps rm K Q c_M_fitLine_362 kc ks loc (.int (6) :: st) h := gk_ic (by decide)
theorem s_M_fitLine_362 {x : Int32} {l0 : Option Value} {l : eg_Lo} : wps rm K Q c_M_fitLine_362 kc ks (l0 :: some (.int x) :: l) (st) h = wps rm K Q c_M_fitLine_363 kc ks (l0 :: some (.int x) :: l) (.int x :: st) h := gk_iload rfl
theorem s_M_fitLine_363 {x y : Int32} : wps rm K Q c_M_fitLine_363 kc ks loc (.int y :: .int x :: st) h = wps rm K Q c_M_fitLine_364 kc ks loc (.int (x * y) :: st) h := gk_imul
theorem s_M_fitLine_364  : wps rm K Q c_M_fitLine_364 kc ks loc (st) h = wps rm K Q c_M_fitLine_365 kc ks loc (.int (3) :: st) h := gk_ic (by decide)
theorem s_M_fitLine_365 {x y : Int32} : wps rm K Q c_M_fitLine_365 kc ks loc (.int y :: .int x :: st) h = wps rm K Q c_M_fitLine_366 kc ks loc (.int (x + y) :: st) h := gk_iadd
theorem s_M_fitLine_366 {x : Nat} {l : eg_Lo} : wps rm K Q c_M_fitLine_366 kc ks (some (.ref x) :: l) (st) h = wps rm K Q c_M_fitLine_367 kc ks (some (.ref x) :: l) (.ref x :: st) h := gk_aload rfl
theorem s_M_fitLine_367 {x : Nat} : wps rm K Q c_M_fitLine_367 kc ks loc (.ref (x + 1) :: st) h = eg_gf h x 12 32 (fun v => wps rm K Q c_M_fitLine_370 kc ks loc (v :: st) h) := gk_gf
theorem s_M_fitLine_370 {x : Nat} {i : Int32} {v : Int32} : wps rm K Q c_M_fitLine_370 kc ks loc (.int v :: .int i :: .ref (x + 1) :: st) h = eg_is h x i v (fun h9 => wps rm K Q c_M_fitLine_371 kc ks loc (st) h9) := gk_iastore
theorem s_M_fitLine_371 {x : Nat} {l : eg_Lo} : wps rm K Q c_M_fitLine_371 kc ks (some (.ref x) :: l) (st) h = wps rm K Q c_M_fitLine_372 kc ks (some (.ref x) :: l) (.ref x :: st) h := gk_aload rfl
theorem s_M_fitLine_372 {x : Int32} {l0 : Option Value} {l : eg_Lo} : wps rm K Q c_M_fitLine_372 kc ks (l0 :: some (.int x) :: l) (st) h = wps rm K Q c_M_fitLine_373 kc ks (l0 :: some (.int x) :: l) (.int x :: st) h := gk_iload rfl
theorem s_M_fitLine_373 {x : Int64} {l0 l1 l2 l3 : Option Value} {l : eg_Lo} : wps rm K Q c_M_fitLine_373 kc ks (l0 :: l1 :: l2 :: l3 :: some (.long x) :: l) (st) h = wps rm K Q c_M_fitLine_375 kc ks (l0 :: l1 :: l2 :: l3 :: some (.long x) :: l) (.long x :: st) h := gk_lload rfl
theorem s_M_fitLine_375 {x : Int64} {l0 l1 l2 l3 l4 l5 : Option Value} {l : eg_Lo} : wps rm K Q c_M_fitLine_375 kc ks (l0 :: l1 :: l2 :: l3 :: l4 :: l5 :: some (.long x) :: l) (st) h = wps rm K Q c_M_fitLine_377 kc ks (l0 :: l1 :: l2 :: l3 :: l4 :: l5 :: some (.long x) :: l) (.long x :: st) h := gk_lload rfl
theorem s_M_fitLine_377  {a1 : Value} {a2 : Value} {a3 : Value} {x : Nat} : wps rm K Q c_M_fitLine_377 kc ks loc (a3 :: a2 :: a1 :: .ref (x + 1) :: st) h = (eg_cls h x 12 ∧ st.length ≤ 4 ∧ eg_Cs n_M_keepMiss (.ref (x + 1) :: [a1, a2, a3]) h (fun v h9 => wps rm K Q c_M_fitLine_380 kc ks loc (v.toList ++ st) h9)) := eg_c1_3
theorem s_M_fitLine_380 {x : Int64} {l0 l1 l2 l3 l4 l5 l6 l7 l8 l9 : Option Value} {l : eg_Lo} : wps rm K Q c_M_fitLine_380 kc ks (l0 :: l1 :: l2 :: l3 :: l4 :: l5 :: l6 :: l7 :: l8 :: l9 :: some (.long x) :: l) (st) h = wps rm K Q c_M_fitLine_382 kc ks (l0 :: l1 :: l2 :: l3 :: l4 :: l5 :: l6 :: l7 :: l8 :: l9 :: some (.long x) :: l) (.long x :: st) h := gk_lload rfl
theorem s_M_fitLine_382 {x : Int64} {l0 l1 l2 l3 l4 l5 l6 l7 l8 l9 l10 l11 : Option Value} {l : eg_Lo} : wps rm K Q c_M_fitLine_382 kc ks (l0 :: l1 :: l2 :: l3 :: l4 :: l5 :: l6 :: l7 :: l8 :: l9 :: l10 :: l11 :: some (.long x) :: l) (st) h = wps rm K Q c_M_fitLine_384 kc ks (l0 :: l1 :: l2 :: l3 :: l4 :: l5 :: l6 :: l7 :: l8 :: l9 :: l10 :: l11 :: some (.long x) :: l) (.long x :: st) h := gk_lload rfl
theorem s_M_fitLine_384  : wps rm K Q c_M_fitLine_384 kc ks loc (st) h = wps rm K Q c_M_fitLine_385 kc ks loc (.long (0) :: st) h := gk_lc (by decide)
theorem s_M_fitLine_385 {x : Nat} {l : eg_Lo} : wps rm K Q c_M_fitLine_385 kc ks (some (.ref x) :: l) (st) h = wps rm K Q c_M_fitLine_386 kc ks (some (.ref x) :: l) (.ref x :: st) h := gk_aload rfl
theorem s_M_fitLine_386 {x : Nat} : wps rm K Q c_M_fitLine_386 kc ks loc (.ref (x + 1) :: st) h = eg_gf h x 12 12 (fun v => wps rm K Q c_M_fitLine_389 kc ks loc (v :: st) h) := gk_gf
theorem s_M_fitLine_389  : wps rm K Q c_M_fitLine_389 kc ks loc (st) h = wps rm K Q c_M_fitLine_390 kc ks loc (.int (3) :: st) h := gk_ic (by decide)
theorem s_M_fitLine_390 {x : Int32} {l0 : Option Value} {l : eg_Lo} : wps rm K Q c_M_fitLine_390 kc ks (l0 :: some (.int x) :: l) (st) h = wps rm K Q c_M_fitLine_391 kc ks (l0 :: some (.int x) :: l) (.int x :: st) h := gk_iload rfl
theorem s_M_fitLine_391 {x y : Int32} : wps rm K Q c_M_fitLine_391 kc ks loc (.int y :: .int x :: st) h = wps rm K Q c_M_fitLine_392 kc ks loc (.int (x * y) :: st) h := gk_imul
theorem s_M_fitLine_392  : wps rm K Q c_M_fitLine_392 kc ks loc (st) h = wps rm K Q c_M_fitLine_393 kc ks loc (.int (1) :: st) h := gk_ic (by decide)
theorem s_M_fitLine_393  {a1 : Value} {a2 : Value} {a3 : Value} {a4 : Value} {a5 : Value} {a6 : Value} : wps rm K Q c_M_fitLine_393 kc ks loc (a6 :: a5 :: a4 :: a3 :: a2 :: a1 :: st) h = (st.length ≤ 4 ∧ eg_Cs n_M_lowest [a1, a2, a3, a4, a5, a6] h (fun v h9 => wps rm K Q c_M_fitLine_396 kc ks loc (v.toList ++ st) h9)) := eg_c0_6
theorem s_M_fitLine_396  : wps rm K Q c_M_fitLine_396 kc ks loc (st) h = wps rm K Q c_M_fitLine_399 kc ks loc (.long (4) :: st) h := gk_lc (by decide)
theorem s_M_fitLine_399 {x : Int64} : wps rm K Q c_M_fitLine_399 kc ks loc ([.long x]) h = (kc = rm.cells ∧ Q (some (.long x)) h) := gk_lret
theorem sz_M_fitLine_17 : wps rm K Q z_M_fitLine_17 kc ks loc st h = K 17 kc ks loc st h := gk_nop
theorem sz_M_fitLine_34 : wps rm K Q z_M_fitLine_34 kc ks loc st h = K 34 kc ks loc st h := gk_nop
def T_M_fitLine : List (Nat × List eg_I) := [(131, c_M_fitLine_131), (196, c_M_fitLine_196), (214, c_M_fitLine_214), (220, c_M_fitLine_220), (226, c_M_fitLine_226), (238, c_M_fitLine_238)]
theorem j_M_fitLine_131 {R : Nat → Nat → Nat → eg_Lo → List Value → List eg_E → Prop} {f pc0 : Nat} : eg_run rm R Q T_M_fitLine (f + 1) 131 kc ks loc st h = wps rm (eg_run rm R Q T_M_fitLine f) Q c_M_fitLine_131 kc ks loc st h := rfl
theorem j_M_fitLine_196 {R : Nat → Nat → Nat → eg_Lo → List Value → List eg_E → Prop} {f pc0 : Nat} : eg_run rm R Q T_M_fitLine (f + 1) 196 kc ks loc st h = wps rm (eg_run rm R Q T_M_fitLine f) Q c_M_fitLine_196 kc ks loc st h := rfl
theorem j_M_fitLine_214 {R : Nat → Nat → Nat → eg_Lo → List Value → List eg_E → Prop} {f pc0 : Nat} : eg_run rm R Q T_M_fitLine (f + 1) 214 kc ks loc st h = wps rm (eg_run rm R Q T_M_fitLine f) Q c_M_fitLine_214 kc ks loc st h := rfl
theorem j_M_fitLine_220 {R : Nat → Nat → Nat → eg_Lo → List Value → List eg_E → Prop} {f pc0 : Nat} : eg_run rm R Q T_M_fitLine (f + 1) 220 kc ks loc st h = wps rm (eg_run rm R Q T_M_fitLine f) Q c_M_fitLine_220 kc ks loc st h := rfl
theorem j_M_fitLine_226 {R : Nat → Nat → Nat → eg_Lo → List Value → List eg_E → Prop} {f pc0 : Nat} : eg_run rm R Q T_M_fitLine (f + 1) 226 kc ks loc st h = wps rm (eg_run rm R Q T_M_fitLine f) Q c_M_fitLine_226 kc ks loc st h := rfl
theorem j_M_fitLine_238 {R : Nat → Nat → Nat → eg_Lo → List Value → List eg_E → Prop} {f pc0 : Nat} : eg_run rm R Q T_M_fitLine (f + 1) 238 kc ks loc st h = wps rm (eg_run rm R Q T_M_fitLine f) Q c_M_fitLine_238 kc ks loc st h := rfl
theorem j_M_fitLine_17 {R : Nat → Nat → Nat → eg_Lo → List Value → List eg_E → Prop} {f pc0 : Nat} : eg_run rm R Q T_M_fitLine (f + 1) 17 kc ks loc st h = R 17 kc ks loc st h := rfl
theorem j_M_fitLine_34 {R : Nat → Nat → Nat → eg_Lo → List Value → List eg_E → Prop} {f pc0 : Nat} : eg_run rm R Q T_M_fitLine (f + 1) 34 kc ks loc st h = R 34 kc ks loc st h := rfl
end
theorem y_M_fitLine_0 : eg_seq m_M_fitLine 0 c_M_fitLine_0 = true := by decide +kernel
theorem y_M_fitLine_17 : eg_seq m_M_fitLine 17 c_M_fitLine_17 = true := by decide +kernel
theorem y_M_fitLine_34 : eg_seq m_M_fitLine 34 c_M_fitLine_34 = true := by decide +kernel
theorem y_M_fitLine_220 : eg_seq m_M_fitLine 220 c_M_fitLine_220 = true := by decide +kernel
theorem y_M_fitLine_226 : eg_seq m_M_fitLine 226 c_M_fitLine_226 = true := by decide +kernel
theorem y_M_fitLine_238 : eg_seq m_M_fitLine 238 c_M_fitLine_238 = true := by decide +kernel
theorem q_M_fitLine : ∀ q ∈ T_M_fitLine, eg_seq m_M_fitLine q.1 q.2 = true := by
  intro q hq
  simp only [T_M_fitLine, List.mem_cons, List.not_mem_nil, or_false] at hq
  rcases hq with rfl | rfl | rfl | rfl | rfl | rfl
  · exact (eg_seq_drop y_M_fitLine_34 54 : eg_seq m_M_fitLine 131 c_M_fitLine_131 = true)
  · exact (eg_seq_drop y_M_fitLine_34 90 : eg_seq m_M_fitLine 196 c_M_fitLine_196 = true)
  · exact (eg_seq_drop y_M_fitLine_34 100 : eg_seq m_M_fitLine 214 c_M_fitLine_214 = true)
  · exact y_M_fitLine_220
  · exact y_M_fitLine_226
  · exact y_M_fitLine_238
theorem b_M_fitLine {as : List Value} {h : List eg_E} {Q : Option Value → List eg_E → Prop} (hf : (eg_fl as).length ≤ 20) (hw : wps (eg_rm m_M_fitLine) (eg_run (eg_rm m_M_fitLine) (eg_R m_M_fitLine Q (h.length + 0)) Q T_M_fitLine 8) Q c_M_fitLine_0 0 0 (eg_entry 20 as) [] h) : eg_Runs n_M_fitLine as h Q := eg_begin2 (d := m_M_fitLine) rfl (by decide) y_M_fitLine_0 q_M_fitLine hf hw
theorem p_M_fitLine_17 {Q : Option Value → List eg_E → Prop} {n0 kc ks : Nat} {loc : eg_Lo} {st : List Value} {h : List eg_E} (hw : wps (eg_rm m_M_fitLine) (eg_run (eg_rm m_M_fitLine) (eg_R m_M_fitLine Q n0) Q T_M_fitLine 8) Q c_M_fitLine_17 kc ks loc st h) : eg_R m_M_fitLine Q n0 17 kc ks loc st h := eg_go2 y_M_fitLine_17 q_M_fitLine hw
theorem p_M_fitLine_34 {Q : Option Value → List eg_E → Prop} {n0 kc ks : Nat} {loc : eg_Lo} {st : List Value} {h : List eg_E} (hw : wps (eg_rm m_M_fitLine) (eg_run (eg_rm m_M_fitLine) (eg_R m_M_fitLine Q n0) Q T_M_fitLine 8) Q c_M_fitLine_34 kc ks loc st h) : eg_R m_M_fitLine Q n0 34 kc ks loc st h := eg_go2 y_M_fitLine_34 q_M_fitLine hw
/-! ===== M_tellNormal ===== -/
def c_M_tellNormal_189 : List eg_I := .inl (189, 1, .return_, 0, 0) :: []
def c_M_tellNormal_188 : List eg_I := .inl (188, 1, .lastore, 0, 0) :: c_M_tellNormal_189
def c_M_tellNormal_187 : List eg_I := .inl (187, 1, .lsub, 0, 0) :: c_M_tellNormal_188
def c_M_tellNormal_186 : List eg_I := .inl (186, 1, .lmul, 0, 0) :: c_M_tellNormal_187
def c_M_tellNormal_184 : List eg_I := .inl (184, 2, .lload 16, 0, 0) :: c_M_tellNormal_186
def c_M_tellNormal_182 : List eg_I := .inl (182, 2, .lload 12, 0, 0) :: c_M_tellNormal_184
def c_M_tellNormal_181 : List eg_I := .inl (181, 1, .lmul, 0, 0) :: c_M_tellNormal_182
def c_M_tellNormal_179 : List eg_I := .inl (179, 2, .lload 18, 0, 0) :: c_M_tellNormal_181
def c_M_tellNormal_177 : List eg_I := .inl (177, 2, .lload 10, 0, 0) :: c_M_tellNormal_179
def c_M_tellNormal_176 : List eg_I := .inl (176, 1, .iconst (2), 0, 0) :: c_M_tellNormal_177
def c_M_tellNormal_173 : List eg_I := .inl (173, 3, .getfield 88, 12, 33) :: c_M_tellNormal_176
def c_M_tellNormal_172 : List eg_I := .inl (172, 1, .aload 0, 0, 0) :: c_M_tellNormal_173
def c_M_tellNormal_171 : List eg_I := .inl (171, 1, .lastore, 0, 0) :: c_M_tellNormal_172
def c_M_tellNormal_170 : List eg_I := .inl (170, 1, .lsub, 0, 0) :: c_M_tellNormal_171
def c_M_tellNormal_169 : List eg_I := .inl (169, 1, .lmul, 0, 0) :: c_M_tellNormal_170
def c_M_tellNormal_167 : List eg_I := .inl (167, 2, .lload 20, 0, 0) :: c_M_tellNormal_169
def c_M_tellNormal_165 : List eg_I := .inl (165, 2, .lload 10, 0, 0) :: c_M_tellNormal_167
def c_M_tellNormal_164 : List eg_I := .inl (164, 1, .lmul, 0, 0) :: c_M_tellNormal_165
def c_M_tellNormal_162 : List eg_I := .inl (162, 2, .lload 16, 0, 0) :: c_M_tellNormal_164
def c_M_tellNormal_160 : List eg_I := .inl (160, 2, .lload 14, 0, 0) :: c_M_tellNormal_162
def c_M_tellNormal_159 : List eg_I := .inl (159, 1, .iconst (1), 0, 0) :: c_M_tellNormal_160
def c_M_tellNormal_156 : List eg_I := .inl (156, 3, .getfield 88, 12, 33) :: c_M_tellNormal_159
def c_M_tellNormal_155 : List eg_I := .inl (155, 1, .aload 0, 0, 0) :: c_M_tellNormal_156
def c_M_tellNormal_154 : List eg_I := .inl (154, 1, .lastore, 0, 0) :: c_M_tellNormal_155
def c_M_tellNormal_153 : List eg_I := .inl (153, 1, .lsub, 0, 0) :: c_M_tellNormal_154
def c_M_tellNormal_152 : List eg_I := .inl (152, 1, .lmul, 0, 0) :: c_M_tellNormal_153
def c_M_tellNormal_150 : List eg_I := .inl (150, 2, .lload 18, 0, 0) :: c_M_tellNormal_152
def c_M_tellNormal_148 : List eg_I := .inl (148, 2, .lload 14, 0, 0) :: c_M_tellNormal_150
def c_M_tellNormal_147 : List eg_I := .inl (147, 1, .lmul, 0, 0) :: c_M_tellNormal_148
def c_M_tellNormal_145 : List eg_I := .inl (145, 2, .lload 20, 0, 0) :: c_M_tellNormal_147
def c_M_tellNormal_143 : List eg_I := .inl (143, 2, .lload 12, 0, 0) :: c_M_tellNormal_145
def c_M_tellNormal_142 : List eg_I := .inl (142, 1, .iconst (0), 0, 0) :: c_M_tellNormal_143
def c_M_tellNormal_139 : List eg_I := .inl (139, 3, .getfield 88, 12, 33) :: c_M_tellNormal_142
def c_M_tellNormal_138 : List eg_I := .inl (138, 1, .aload 0, 0, 0) :: c_M_tellNormal_139
def c_M_tellNormal_136 : List eg_I := .inl (136, 2, .lstore 20, 0, 0) :: c_M_tellNormal_138
def c_M_tellNormal_135 : List eg_I := .inl (135, 1, .i2l, 0, 0) :: c_M_tellNormal_136
def c_M_tellNormal_134 : List eg_I := .inl (134, 1, .isub, 0, 0) :: c_M_tellNormal_135
def c_M_tellNormal_133 : List eg_I := .inl (133, 1, .iaload, 0, 0) :: c_M_tellNormal_134
def c_M_tellNormal_131 : List eg_I := .inl (131, 2, .iload 8, 0, 0) :: c_M_tellNormal_133
def c_M_tellNormal_128 : List eg_I := .inl (128, 3, .getfield 19, 12, 3) :: c_M_tellNormal_131
def c_M_tellNormal_127 : List eg_I := .inl (127, 1, .aload 0, 0, 0) :: c_M_tellNormal_128
def c_M_tellNormal_126 : List eg_I := .inl (126, 1, .iaload, 0, 0) :: c_M_tellNormal_127
def c_M_tellNormal_124 : List eg_I := .inl (124, 2, .iload 9, 0, 0) :: c_M_tellNormal_126
def c_M_tellNormal_121 : List eg_I := .inl (121, 3, .getfield 19, 12, 3) :: c_M_tellNormal_124
def c_M_tellNormal_120 : List eg_I := .inl (120, 1, .aload 0, 0, 0) :: c_M_tellNormal_121
def c_M_tellNormal_118 : List eg_I := .inl (118, 2, .lstore 18, 0, 0) :: c_M_tellNormal_120
def c_M_tellNormal_117 : List eg_I := .inl (117, 1, .i2l, 0, 0) :: c_M_tellNormal_118
def c_M_tellNormal_116 : List eg_I := .inl (116, 1, .isub, 0, 0) :: c_M_tellNormal_117
def c_M_tellNormal_115 : List eg_I := .inl (115, 1, .iaload, 0, 0) :: c_M_tellNormal_116
def c_M_tellNormal_113 : List eg_I := .inl (113, 2, .iload 8, 0, 0) :: c_M_tellNormal_115
def c_M_tellNormal_110 : List eg_I := .inl (110, 3, .getfield 16, 12, 2) :: c_M_tellNormal_113
def c_M_tellNormal_109 : List eg_I := .inl (109, 1, .aload 0, 0, 0) :: c_M_tellNormal_110
def c_M_tellNormal_108 : List eg_I := .inl (108, 1, .iaload, 0, 0) :: c_M_tellNormal_109
def c_M_tellNormal_106 : List eg_I := .inl (106, 2, .iload 9, 0, 0) :: c_M_tellNormal_108
def c_M_tellNormal_103 : List eg_I := .inl (103, 3, .getfield 16, 12, 2) :: c_M_tellNormal_106
def c_M_tellNormal_102 : List eg_I := .inl (102, 1, .aload 0, 0, 0) :: c_M_tellNormal_103
def c_M_tellNormal_100 : List eg_I := .inl (100, 2, .lstore 16, 0, 0) :: c_M_tellNormal_102
def c_M_tellNormal_99 : List eg_I := .inl (99, 1, .i2l, 0, 0) :: c_M_tellNormal_100
def c_M_tellNormal_98 : List eg_I := .inl (98, 1, .isub, 0, 0) :: c_M_tellNormal_99
def c_M_tellNormal_97 : List eg_I := .inl (97, 1, .iaload, 0, 0) :: c_M_tellNormal_98
def c_M_tellNormal_95 : List eg_I := .inl (95, 2, .iload 8, 0, 0) :: c_M_tellNormal_97
def c_M_tellNormal_92 : List eg_I := .inl (92, 3, .getfield 13, 12, 1) :: c_M_tellNormal_95
def c_M_tellNormal_91 : List eg_I := .inl (91, 1, .aload 0, 0, 0) :: c_M_tellNormal_92
def c_M_tellNormal_90 : List eg_I := .inl (90, 1, .iaload, 0, 0) :: c_M_tellNormal_91
def c_M_tellNormal_88 : List eg_I := .inl (88, 2, .iload 9, 0, 0) :: c_M_tellNormal_90
def c_M_tellNormal_85 : List eg_I := .inl (85, 3, .getfield 13, 12, 1) :: c_M_tellNormal_88
def c_M_tellNormal_84 : List eg_I := .inl (84, 1, .aload 0, 0, 0) :: c_M_tellNormal_85
def c_M_tellNormal_82 : List eg_I := .inl (82, 2, .lstore 14, 0, 0) :: c_M_tellNormal_84
def c_M_tellNormal_81 : List eg_I := .inl (81, 1, .i2l, 0, 0) :: c_M_tellNormal_82
def c_M_tellNormal_80 : List eg_I := .inl (80, 1, .isub, 0, 0) :: c_M_tellNormal_81
def c_M_tellNormal_79 : List eg_I := .inl (79, 1, .iaload, 0, 0) :: c_M_tellNormal_80
def c_M_tellNormal_77 : List eg_I := .inl (77, 2, .iload 6, 0, 0) :: c_M_tellNormal_79
def c_M_tellNormal_74 : List eg_I := .inl (74, 3, .getfield 19, 12, 3) :: c_M_tellNormal_77
def c_M_tellNormal_73 : List eg_I := .inl (73, 1, .aload 0, 0, 0) :: c_M_tellNormal_74
def c_M_tellNormal_72 : List eg_I := .inl (72, 1, .iaload, 0, 0) :: c_M_tellNormal_73
def c_M_tellNormal_70 : List eg_I := .inl (70, 2, .iload 7, 0, 0) :: c_M_tellNormal_72
def c_M_tellNormal_67 : List eg_I := .inl (67, 3, .getfield 19, 12, 3) :: c_M_tellNormal_70
def c_M_tellNormal_66 : List eg_I := .inl (66, 1, .aload 0, 0, 0) :: c_M_tellNormal_67
def c_M_tellNormal_64 : List eg_I := .inl (64, 2, .lstore 12, 0, 0) :: c_M_tellNormal_66
def c_M_tellNormal_63 : List eg_I := .inl (63, 1, .i2l, 0, 0) :: c_M_tellNormal_64
def c_M_tellNormal_62 : List eg_I := .inl (62, 1, .isub, 0, 0) :: c_M_tellNormal_63
def c_M_tellNormal_61 : List eg_I := .inl (61, 1, .iaload, 0, 0) :: c_M_tellNormal_62
def c_M_tellNormal_59 : List eg_I := .inl (59, 2, .iload 6, 0, 0) :: c_M_tellNormal_61
def c_M_tellNormal_56 : List eg_I := .inl (56, 3, .getfield 16, 12, 2) :: c_M_tellNormal_59
def c_M_tellNormal_55 : List eg_I := .inl (55, 1, .aload 0, 0, 0) :: c_M_tellNormal_56
def c_M_tellNormal_54 : List eg_I := .inl (54, 1, .iaload, 0, 0) :: c_M_tellNormal_55
def c_M_tellNormal_52 : List eg_I := .inl (52, 2, .iload 7, 0, 0) :: c_M_tellNormal_54
def c_M_tellNormal_49 : List eg_I := .inl (49, 3, .getfield 16, 12, 2) :: c_M_tellNormal_52
def c_M_tellNormal_48 : List eg_I := .inl (48, 1, .aload 0, 0, 0) :: c_M_tellNormal_49
def c_M_tellNormal_46 : List eg_I := .inl (46, 2, .lstore 10, 0, 0) :: c_M_tellNormal_48
def c_M_tellNormal_45 : List eg_I := .inl (45, 1, .i2l, 0, 0) :: c_M_tellNormal_46
def c_M_tellNormal_44 : List eg_I := .inl (44, 1, .isub, 0, 0) :: c_M_tellNormal_45
def c_M_tellNormal_43 : List eg_I := .inl (43, 1, .iaload, 0, 0) :: c_M_tellNormal_44
def c_M_tellNormal_41 : List eg_I := .inl (41, 2, .iload 6, 0, 0) :: c_M_tellNormal_43
def c_M_tellNormal_38 : List eg_I := .inl (38, 3, .getfield 13, 12, 1) :: c_M_tellNormal_41
def c_M_tellNormal_37 : List eg_I := .inl (37, 1, .aload 0, 0, 0) :: c_M_tellNormal_38
def c_M_tellNormal_36 : List eg_I := .inl (36, 1, .iaload, 0, 0) :: c_M_tellNormal_37
def c_M_tellNormal_34 : List eg_I := .inl (34, 2, .iload 7, 0, 0) :: c_M_tellNormal_36
def c_M_tellNormal_31 : List eg_I := .inl (31, 3, .getfield 13, 12, 1) :: c_M_tellNormal_34
def c_M_tellNormal_30 : List eg_I := .inl (30, 1, .aload 0, 0, 0) :: c_M_tellNormal_31
def c_M_tellNormal_28 : List eg_I := .inl (28, 2, .istore 9, 0, 0) :: c_M_tellNormal_30
def c_M_tellNormal_25 : List eg_I := .inr (25, 0, 103, n_M_at_II, 2, 12, 0, 0) :: c_M_tellNormal_28
def c_M_tellNormal_23 : List eg_I := .inl (23, 2, .iload 5, 0, 0) :: c_M_tellNormal_25
def c_M_tellNormal_22 : List eg_I := .inl (22, 1, .iload 1, 0, 0) :: c_M_tellNormal_23
def c_M_tellNormal_20 : List eg_I := .inl (20, 2, .istore 8, 0, 0) :: c_M_tellNormal_22
def c_M_tellNormal_17 : List eg_I := .inr (17, 0, 103, n_M_at_II, 2, 12, 0, 0) :: c_M_tellNormal_20
def c_M_tellNormal_15 : List eg_I := .inl (15, 2, .iload 4, 0, 0) :: c_M_tellNormal_17
def c_M_tellNormal_14 : List eg_I := .inl (14, 1, .iload 1, 0, 0) :: c_M_tellNormal_15
def c_M_tellNormal_12 : List eg_I := .inl (12, 2, .istore 7, 0, 0) :: c_M_tellNormal_14
def c_M_tellNormal_9 : List eg_I := .inr (9, 0, 103, n_M_at_II, 2, 12, 0, 0) :: c_M_tellNormal_12
def c_M_tellNormal_8 : List eg_I := .inl (8, 1, .iload 3, 0, 0) :: c_M_tellNormal_9
def c_M_tellNormal_7 : List eg_I := .inl (7, 1, .iload 1, 0, 0) :: c_M_tellNormal_8
def c_M_tellNormal_5 : List eg_I := .inl (5, 2, .istore 6, 0, 0) :: c_M_tellNormal_7
def c_M_tellNormal_2 : List eg_I := .inr (2, 0, 103, n_M_at_II, 2, 12, 0, 0) :: c_M_tellNormal_5
def c_M_tellNormal_1 : List eg_I := .inl (1, 1, .iload 2, 0, 0) :: c_M_tellNormal_2
def c_M_tellNormal_0 : List eg_I := .inl (0, 1, .iload 1, 0, 0) :: c_M_tellNormal_1
section
variable {rm : Room} {K : Nat → Nat → Nat → eg_Lo → List Value → List eg_E → Prop} {Q : Option Value → List eg_E → Prop} {kc ks : Nat} {loc : eg_Lo} {st : List Value} {h : List eg_E}
theorem s_M_tellNormal_0 {x : Int32} {l0 : Option Value} {l : eg_Lo} : wps rm K Q c_M_tellNormal_0 kc ks (l0 :: some (.int x) :: l) (st) h = wps rm K Q c_M_tellNormal_1 kc ks (l0 :: some (.int x) :: l) (.int x :: st) h := gk_iload rfl
theorem s_M_tellNormal_1 {x : Int32} {l0 l1 : Option Value} {l : eg_Lo} : wps rm K Q c_M_tellNormal_1 kc ks (l0 :: l1 :: some (.int x) :: l) (st) h = wps rm K Q c_M_tellNormal_2 kc ks (l0 :: l1 :: some (.int x) :: l) (.int x :: st) h := gk_iload rfl
theorem s_M_tellNormal_2  {a1 : Value} {a2 : Value} : wps rm K Q c_M_tellNormal_2 kc ks loc (a2 :: a1 :: st) h = (st.length ≤ 4 ∧ eg_Cs n_M_at_II [a1, a2] h (fun v h9 => wps rm K Q c_M_tellNormal_5 kc ks loc (v.toList ++ st) h9)) := eg_c0_2
theorem s_M_tellNormal_5 {x : Int32} : wps rm K Q c_M_tellNormal_5 kc ks loc (.int x :: st) h = wps rm K Q c_M_tellNormal_7 kc ks (eg_set1 loc 6 (.int x)) (st) h := gk_istore
theorem s_M_tellNormal_7 {x : Int32} {l0 : Option Value} {l : eg_Lo} : wps rm K Q c_M_tellNormal_7 kc ks (l0 :: some (.int x) :: l) (st) h = wps rm K Q c_M_tellNormal_8 kc ks (l0 :: some (.int x) :: l) (.int x :: st) h := gk_iload rfl
theorem s_M_tellNormal_8 {x : Int32} {l0 l1 l2 : Option Value} {l : eg_Lo} : wps rm K Q c_M_tellNormal_8 kc ks (l0 :: l1 :: l2 :: some (.int x) :: l) (st) h = wps rm K Q c_M_tellNormal_9 kc ks (l0 :: l1 :: l2 :: some (.int x) :: l) (.int x :: st) h := gk_iload rfl
theorem s_M_tellNormal_9  {a1 : Value} {a2 : Value} : wps rm K Q c_M_tellNormal_9 kc ks loc (a2 :: a1 :: st) h = (st.length ≤ 4 ∧ eg_Cs n_M_at_II [a1, a2] h (fun v h9 => wps rm K Q c_M_tellNormal_12 kc ks loc (v.toList ++ st) h9)) := eg_c0_2
theorem s_M_tellNormal_12 {x : Int32} : wps rm K Q c_M_tellNormal_12 kc ks loc (.int x :: st) h = wps rm K Q c_M_tellNormal_14 kc ks (eg_set1 loc 7 (.int x)) (st) h := gk_istore
theorem s_M_tellNormal_14 {x : Int32} {l0 : Option Value} {l : eg_Lo} : wps rm K Q c_M_tellNormal_14 kc ks (l0 :: some (.int x) :: l) (st) h = wps rm K Q c_M_tellNormal_15 kc ks (l0 :: some (.int x) :: l) (.int x :: st) h := gk_iload rfl
theorem s_M_tellNormal_15 {x : Int32} {l0 l1 l2 l3 : Option Value} {l : eg_Lo} : wps rm K Q c_M_tellNormal_15 kc ks (l0 :: l1 :: l2 :: l3 :: some (.int x) :: l) (st) h = wps rm K Q c_M_tellNormal_17 kc ks (l0 :: l1 :: l2 :: l3 :: some (.int x) :: l) (.int x :: st) h := gk_iload rfl
theorem s_M_tellNormal_17  {a1 : Value} {a2 : Value} : wps rm K Q c_M_tellNormal_17 kc ks loc (a2 :: a1 :: st) h = (st.length ≤ 4 ∧ eg_Cs n_M_at_II [a1, a2] h (fun v h9 => wps rm K Q c_M_tellNormal_20 kc ks loc (v.toList ++ st) h9)) := eg_c0_2
theorem s_M_tellNormal_20 {x : Int32} : wps rm K Q c_M_tellNormal_20 kc ks loc (.int x :: st) h = wps rm K Q c_M_tellNormal_22 kc ks (eg_set1 loc 8 (.int x)) (st) h := gk_istore
theorem s_M_tellNormal_22 {x : Int32} {l0 : Option Value} {l : eg_Lo} : wps rm K Q c_M_tellNormal_22 kc ks (l0 :: some (.int x) :: l) (st) h = wps rm K Q c_M_tellNormal_23 kc ks (l0 :: some (.int x) :: l) (.int x :: st) h := gk_iload rfl
theorem s_M_tellNormal_23 {x : Int32} {l0 l1 l2 l3 l4 : Option Value} {l : eg_Lo} : wps rm K Q c_M_tellNormal_23 kc ks (l0 :: l1 :: l2 :: l3 :: l4 :: some (.int x) :: l) (st) h = wps rm K Q c_M_tellNormal_25 kc ks (l0 :: l1 :: l2 :: l3 :: l4 :: some (.int x) :: l) (.int x :: st) h := gk_iload rfl
theorem s_M_tellNormal_25  {a1 : Value} {a2 : Value} : wps rm K Q c_M_tellNormal_25 kc ks loc (a2 :: a1 :: st) h = (st.length ≤ 4 ∧ eg_Cs n_M_at_II [a1, a2] h (fun v h9 => wps rm K Q c_M_tellNormal_28 kc ks loc (v.toList ++ st) h9)) := eg_c0_2
theorem s_M_tellNormal_28 {x : Int32} : wps rm K Q c_M_tellNormal_28 kc ks loc (.int x :: st) h = wps rm K Q c_M_tellNormal_30 kc ks (eg_set1 loc 9 (.int x)) (st) h := gk_istore
theorem s_M_tellNormal_30 {x : Nat} {l : eg_Lo} : wps rm K Q c_M_tellNormal_30 kc ks (some (.ref x) :: l) (st) h = wps rm K Q c_M_tellNormal_31 kc ks (some (.ref x) :: l) (.ref x :: st) h := gk_aload rfl
theorem s_M_tellNormal_31 {x : Nat} : wps rm K Q c_M_tellNormal_31 kc ks loc (.ref (x + 1) :: st) h = eg_gf h x 12 1 (fun v => wps rm K Q c_M_tellNormal_34 kc ks loc (v :: st) h) := gk_gf
theorem s_M_tellNormal_34 {x : Int32} {l0 l1 l2 l3 l4 l5 l6 : Option Value} {l : eg_Lo} : wps rm K Q c_M_tellNormal_34 kc ks (l0 :: l1 :: l2 :: l3 :: l4 :: l5 :: l6 :: some (.int x) :: l) (st) h = wps rm K Q c_M_tellNormal_36 kc ks (l0 :: l1 :: l2 :: l3 :: l4 :: l5 :: l6 :: some (.int x) :: l) (.int x :: st) h := gk_iload rfl
theorem s_M_tellNormal_36 {x : Nat} {i : Int32} : wps rm K Q c_M_tellNormal_36 kc ks loc (.int i :: .ref (x + 1) :: st) h = eg_ia h x i (fun v => wps rm K Q c_M_tellNormal_37 kc ks loc (.int v :: st) h) := gk_iaload
theorem s_M_tellNormal_37 {x : Nat} {l : eg_Lo} : wps rm K Q c_M_tellNormal_37 kc ks (some (.ref x) :: l) (st) h = wps rm K Q c_M_tellNormal_38 kc ks (some (.ref x) :: l) (.ref x :: st) h := gk_aload rfl
theorem s_M_tellNormal_38 {x : Nat} : wps rm K Q c_M_tellNormal_38 kc ks loc (.ref (x + 1) :: st) h = eg_gf h x 12 1 (fun v => wps rm K Q c_M_tellNormal_41 kc ks loc (v :: st) h) := gk_gf
theorem s_M_tellNormal_41 {x : Int32} {l0 l1 l2 l3 l4 l5 : Option Value} {l : eg_Lo} : wps rm K Q c_M_tellNormal_41 kc ks (l0 :: l1 :: l2 :: l3 :: l4 :: l5 :: some (.int x) :: l) (st) h = wps rm K Q c_M_tellNormal_43 kc ks (l0 :: l1 :: l2 :: l3 :: l4 :: l5 :: some (.int x) :: l) (.int x :: st) h := gk_iload rfl
theorem s_M_tellNormal_43 {x : Nat} {i : Int32} : wps rm K Q c_M_tellNormal_43 kc ks loc (.int i :: .ref (x + 1) :: st) h = eg_ia h x i (fun v => wps rm K Q c_M_tellNormal_44 kc ks loc (.int v :: st) h) := gk_iaload
theorem s_M_tellNormal_44 {x y : Int32} : wps rm K Q c_M_tellNormal_44 kc ks loc (.int y :: .int x :: st) h = wps rm K Q c_M_tellNormal_45 kc ks loc (.int (x - y) :: st) h := gk_isub
theorem s_M_tellNormal_45 {x : Int32} : wps rm K Q c_M_tellNormal_45 kc ks loc (.int x :: st) h = wps rm K Q c_M_tellNormal_46 kc ks loc (.long (x.toInt64) :: st) h := gk_i2l
theorem s_M_tellNormal_46 {x : Int64} : wps rm K Q c_M_tellNormal_46 kc ks loc (.long x :: st) h = wps rm K Q c_M_tellNormal_48 kc ks (eg_set2 loc 10 (.long x)) (st) h := gk_lstore
theorem s_M_tellNormal_48 {x : Nat} {l : eg_Lo} : wps rm K Q c_M_tellNormal_48 kc ks (some (.ref x) :: l) (st) h = wps rm K Q c_M_tellNormal_49 kc ks (some (.ref x) :: l) (.ref x :: st) h := gk_aload rfl
theorem s_M_tellNormal_49 {x : Nat} : wps rm K Q c_M_tellNormal_49 kc ks loc (.ref (x + 1) :: st) h = eg_gf h x 12 2 (fun v => wps rm K Q c_M_tellNormal_52 kc ks loc (v :: st) h) := gk_gf
theorem s_M_tellNormal_52 {x : Int32} {l0 l1 l2 l3 l4 l5 l6 : Option Value} {l : eg_Lo} : wps rm K Q c_M_tellNormal_52 kc ks (l0 :: l1 :: l2 :: l3 :: l4 :: l5 :: l6 :: some (.int x) :: l) (st) h = wps rm K Q c_M_tellNormal_54 kc ks (l0 :: l1 :: l2 :: l3 :: l4 :: l5 :: l6 :: some (.int x) :: l) (.int x :: st) h := gk_iload rfl
theorem s_M_tellNormal_54 {x : Nat} {i : Int32} : wps rm K Q c_M_tellNormal_54 kc ks loc (.int i :: .ref (x + 1) :: st) h = eg_ia h x i (fun v => wps rm K Q c_M_tellNormal_55 kc ks loc (.int v :: st) h) := gk_iaload
theorem s_M_tellNormal_55 {x : Nat} {l : eg_Lo} : wps rm K Q c_M_tellNormal_55 kc ks (some (.ref x) :: l) (st) h = wps rm K Q c_M_tellNormal_56 kc ks (some (.ref x) :: l) (.ref x :: st) h := gk_aload rfl
theorem s_M_tellNormal_56 {x : Nat} : wps rm K Q c_M_tellNormal_56 kc ks loc (.ref (x + 1) :: st) h = eg_gf h x 12 2 (fun v => wps rm K Q c_M_tellNormal_59 kc ks loc (v :: st) h) := gk_gf
theorem s_M_tellNormal_59 {x : Int32} {l0 l1 l2 l3 l4 l5 : Option Value} {l : eg_Lo} : wps rm K Q c_M_tellNormal_59 kc ks (l0 :: l1 :: l2 :: l3 :: l4 :: l5 :: some (.int x) :: l) (st) h = wps rm K Q c_M_tellNormal_61 kc ks (l0 :: l1 :: l2 :: l3 :: l4 :: l5 :: some (.int x) :: l) (.int x :: st) h := gk_iload rfl
theorem s_M_tellNormal_61 {x : Nat} {i : Int32} : wps rm K Q c_M_tellNormal_61 kc ks loc (.int i :: .ref (x + 1) :: st) h = eg_ia h x i (fun v => wps rm K Q c_M_tellNormal_62 kc ks loc (.int v :: st) h) := gk_iaload
theorem s_M_tellNormal_62 {x y : Int32} : wps rm K Q c_M_tellNormal_62 kc ks loc (.int y :: .int x :: st) h = wps rm K Q c_M_tellNormal_63 kc ks loc (.int (x - y) :: st) h := gk_isub
theorem s_M_tellNormal_63 {x : Int32} : wps rm K Q c_M_tellNormal_63 kc ks loc (.int x :: st) h = wps rm K Q c_M_tellNormal_64 kc ks loc (.long (x.toInt64) :: st) h := gk_i2l
theorem s_M_tellNormal_64 {x : Int64} : wps rm K Q c_M_tellNormal_64 kc ks loc (.long x :: st) h = wps rm K Q c_M_tellNormal_66 kc ks (eg_set2 loc 12 (.long x)) (st) h := gk_lstore
theorem s_M_tellNormal_66 {x : Nat} {l : eg_Lo} : wps rm K Q c_M_tellNormal_66 kc ks (some (.ref x) :: l) (st) h = wps rm K Q c_M_tellNormal_67 kc ks (some (.ref x) :: l) (.ref x :: st) h := gk_aload rfl
theorem s_M_tellNormal_67 {x : Nat} : wps rm K Q c_M_tellNormal_67 kc ks loc (.ref (x + 1) :: st) h = eg_gf h x 12 3 (fun v => wps rm K Q c_M_tellNormal_70 kc ks loc (v :: st) h) := gk_gf
theorem s_M_tellNormal_70 {x : Int32} {l0 l1 l2 l3 l4 l5 l6 : Option Value} {l : eg_Lo} : wps rm K Q c_M_tellNormal_70 kc ks (l0 :: l1 :: l2 :: l3 :: l4 :: l5 :: l6 :: some (.int x) :: l) (st) h = wps rm K Q c_M_tellNormal_72 kc ks (l0 :: l1 :: l2 :: l3 :: l4 :: l5 :: l6 :: some (.int x) :: l) (.int x :: st) h := gk_iload rfl
theorem s_M_tellNormal_72 {x : Nat} {i : Int32} : wps rm K Q c_M_tellNormal_72 kc ks loc (.int i :: .ref (x + 1) :: st) h = eg_ia h x i (fun v => wps rm K Q c_M_tellNormal_73 kc ks loc (.int v :: st) h) := gk_iaload
theorem s_M_tellNormal_73 {x : Nat} {l : eg_Lo} : wps rm K Q c_M_tellNormal_73 kc ks (some (.ref x) :: l) (st) h = wps rm K Q c_M_tellNormal_74 kc ks (some (.ref x) :: l) (.ref x :: st) h := gk_aload rfl
theorem s_M_tellNormal_74 {x : Nat} : wps rm K Q c_M_tellNormal_74 kc ks loc (.ref (x + 1) :: st) h = eg_gf h x 12 3 (fun v => wps rm K Q c_M_tellNormal_77 kc ks loc (v :: st) h) := gk_gf
theorem s_M_tellNormal_77 {x : Int32} {l0 l1 l2 l3 l4 l5 : Option Value} {l : eg_Lo} : wps rm K Q c_M_tellNormal_77 kc ks (l0 :: l1 :: l2 :: l3 :: l4 :: l5 :: some (.int x) :: l) (st) h = wps rm K Q c_M_tellNormal_79 kc ks (l0 :: l1 :: l2 :: l3 :: l4 :: l5 :: some (.int x) :: l) (.int x :: st) h := gk_iload rfl
theorem s_M_tellNormal_79 {x : Nat} {i : Int32} : wps rm K Q c_M_tellNormal_79 kc ks loc (.int i :: .ref (x + 1) :: st) h = eg_ia h x i (fun v => wps rm K Q c_M_tellNormal_80 kc ks loc (.int v :: st) h) := gk_iaload
theorem s_M_tellNormal_80 {x y : Int32} : wps rm K Q c_M_tellNormal_80 kc ks loc (.int y :: .int x :: st) h = wps rm K Q c_M_tellNormal_81 kc ks loc (.int (x - y) :: st) h := gk_isub
theorem s_M_tellNormal_81 {x : Int32} : wps rm K Q c_M_tellNormal_81 kc ks loc (.int x :: st) h = wps rm K Q c_M_tellNormal_82 kc ks loc (.long (x.toInt64) :: st) h := gk_i2l
theorem s_M_tellNormal_82 {x : Int64} : wps rm K Q c_M_tellNormal_82 kc ks loc (.long x :: st) h = wps rm K Q c_M_tellNormal_84 kc ks (eg_set2 loc 14 (.long x)) (st) h := gk_lstore
theorem s_M_tellNormal_84 {x : Nat} {l : eg_Lo} : wps rm K Q c_M_tellNormal_84 kc ks (some (.ref x) :: l) (st) h = wps rm K Q c_M_tellNormal_85 kc ks (some (.ref x) :: l) (.ref x :: st) h := gk_aload rfl
theorem s_M_tellNormal_85 {x : Nat} : wps rm K Q c_M_tellNormal_85 kc ks loc (.ref (x + 1) :: st) h = eg_gf h x 12 1 (fun v => wps rm K Q c_M_tellNormal_88 kc ks loc (v :: st) h) := gk_gf
theorem s_M_tellNormal_88 {x : Int32} {l0 l1 l2 l3 l4 l5 l6 l7 l8 : Option Value} {l : eg_Lo} : wps rm K Q c_M_tellNormal_88 kc ks (l0 :: l1 :: l2 :: l3 :: l4 :: l5 :: l6 :: l7 :: l8 :: some (.int x) :: l) (st) h = wps rm K Q c_M_tellNormal_90 kc ks (l0 :: l1 :: l2 :: l3 :: l4 :: l5 :: l6 :: l7 :: l8 :: some (.int x) :: l) (.int x :: st) h := gk_iload rfl
theorem s_M_tellNormal_90 {x : Nat} {i : Int32} : wps rm K Q c_M_tellNormal_90 kc ks loc (.int i :: .ref (x + 1) :: st) h = eg_ia h x i (fun v => wps rm K Q c_M_tellNormal_91 kc ks loc (.int v :: st) h) := gk_iaload
theorem s_M_tellNormal_91 {x : Nat} {l : eg_Lo} : wps rm K Q c_M_tellNormal_91 kc ks (some (.ref x) :: l) (st) h = wps rm K Q c_M_tellNormal_92 kc ks (some (.ref x) :: l) (.ref x :: st) h := gk_aload rfl
theorem s_M_tellNormal_92 {x : Nat} : wps rm K Q c_M_tellNormal_92 kc ks loc (.ref (x + 1) :: st) h = eg_gf h x 12 1 (fun v => wps rm K Q c_M_tellNormal_95 kc ks loc (v :: st) h) := gk_gf
theorem s_M_tellNormal_95 {x : Int32} {l0 l1 l2 l3 l4 l5 l6 l7 : Option Value} {l : eg_Lo} : wps rm K Q c_M_tellNormal_95 kc ks (l0 :: l1 :: l2 :: l3 :: l4 :: l5 :: l6 :: l7 :: some (.int x) :: l) (st) h = wps rm K Q c_M_tellNormal_97 kc ks (l0 :: l1 :: l2 :: l3 :: l4 :: l5 :: l6 :: l7 :: some (.int x) :: l) (.int x :: st) h := gk_iload rfl
theorem s_M_tellNormal_97 {x : Nat} {i : Int32} : wps rm K Q c_M_tellNormal_97 kc ks loc (.int i :: .ref (x + 1) :: st) h = eg_ia h x i (fun v => wps rm K Q c_M_tellNormal_98 kc ks loc (.int v :: st) h) := gk_iaload
theorem s_M_tellNormal_98 {x y : Int32} : wps rm K Q c_M_tellNormal_98 kc ks loc (.int y :: .int x :: st) h = wps rm K Q c_M_tellNormal_99 kc ks loc (.int (x - y) :: st) h := gk_isub
theorem s_M_tellNormal_99 {x : Int32} : wps rm K Q c_M_tellNormal_99 kc ks loc (.int x :: st) h = wps rm K Q c_M_tellNormal_100 kc ks loc (.long (x.toInt64) :: st) h := gk_i2l
theorem s_M_tellNormal_100 {x : Int64} : wps rm K Q c_M_tellNormal_100 kc ks loc (.long x :: st) h = wps rm K Q c_M_tellNormal_102 kc ks (eg_set2 loc 16 (.long x)) (st) h := gk_lstore
theorem s_M_tellNormal_102 {x : Nat} {l : eg_Lo} : wps rm K Q c_M_tellNormal_102 kc ks (some (.ref x) :: l) (st) h = wps rm K Q c_M_tellNormal_103 kc ks (some (.ref x) :: l) (.ref x :: st) h := gk_aload rfl
theorem s_M_tellNormal_103 {x : Nat} : wps rm K Q c_M_tellNormal_103 kc ks loc (.ref (x + 1) :: st) h = eg_gf h x 12 2 (fun v => wps rm K Q c_M_tellNormal_106 kc ks loc (v :: st) h) := gk_gf
theorem s_M_tellNormal_106 {x : Int32} {l0 l1 l2 l3 l4 l5 l6 l7 l8 : Option Value} {l : eg_Lo} : wps rm K Q c_M_tellNormal_106 kc ks (l0 :: l1 :: l2 :: l3 :: l4 :: l5 :: l6 :: l7 :: l8 :: some (.int x) :: l) (st) h = wps rm K Q c_M_tellNormal_108 kc ks (l0 :: l1 :: l2 :: l3 :: l4 :: l5 :: l6 :: l7 :: l8 :: some (.int x) :: l) (.int x :: st) h := gk_iload rfl
theorem s_M_tellNormal_108 {x : Nat} {i : Int32} : wps rm K Q c_M_tellNormal_108 kc ks loc (.int i :: .ref (x + 1) :: st) h = eg_ia h x i (fun v => wps rm K Q c_M_tellNormal_109 kc ks loc (.int v :: st) h) := gk_iaload
theorem s_M_tellNormal_109 {x : Nat} {l : eg_Lo} : wps rm K Q c_M_tellNormal_109 kc ks (some (.ref x) :: l) (st) h = wps rm K Q c_M_tellNormal_110 kc ks (some (.ref x) :: l) (.ref x :: st) h := gk_aload rfl
theorem s_M_tellNormal_110 {x : Nat} : wps rm K Q c_M_tellNormal_110 kc ks loc (.ref (x + 1) :: st) h = eg_gf h x 12 2 (fun v => wps rm K Q c_M_tellNormal_113 kc ks loc (v :: st) h) := gk_gf
theorem s_M_tellNormal_113 {x : Int32} {l0 l1 l2 l3 l4 l5 l6 l7 : Option Value} {l : eg_Lo} : wps rm K Q c_M_tellNormal_113 kc ks (l0 :: l1 :: l2 :: l3 :: l4 :: l5 :: l6 :: l7 :: some (.int x) :: l) (st) h = wps rm K Q c_M_tellNormal_115 kc ks (l0 :: l1 :: l2 :: l3 :: l4 :: l5 :: l6 :: l7 :: some (.int x) :: l) (.int x :: st) h := gk_iload rfl
theorem s_M_tellNormal_115 {x : Nat} {i : Int32} : wps rm K Q c_M_tellNormal_115 kc ks loc (.int i :: .ref (x + 1) :: st) h = eg_ia h x i (fun v => wps rm K Q c_M_tellNormal_116 kc ks loc (.int v :: st) h) := gk_iaload
theorem s_M_tellNormal_116 {x y : Int32} : wps rm K Q c_M_tellNormal_116 kc ks loc (.int y :: .int x :: st) h = wps rm K Q c_M_tellNormal_117 kc ks loc (.int (x - y) :: st) h := gk_isub
theorem s_M_tellNormal_117 {x : Int32} : wps rm K Q c_M_tellNormal_117 kc ks loc (.int x :: st) h = wps rm K Q c_M_tellNormal_118 kc ks loc (.long (x.toInt64) :: st) h := gk_i2l
theorem s_M_tellNormal_118 {x : Int64} : wps rm K Q c_M_tellNormal_118 kc ks loc (.long x :: st) h = wps rm K Q c_M_tellNormal_120 kc ks (eg_set2 loc 18 (.long x)) (st) h := gk_lstore
theorem s_M_tellNormal_120 {x : Nat} {l : eg_Lo} : wps rm K Q c_M_tellNormal_120 kc ks (some (.ref x) :: l) (st) h = wps rm K Q c_M_tellNormal_121 kc ks (some (.ref x) :: l) (.ref x :: st) h := gk_aload rfl
theorem s_M_tellNormal_121 {x : Nat} : wps rm K Q c_M_tellNormal_121 kc ks loc (.ref (x + 1) :: st) h = eg_gf h x 12 3 (fun v => wps rm K Q c_M_tellNormal_124 kc ks loc (v :: st) h) := gk_gf
theorem s_M_tellNormal_124 {x : Int32} {l0 l1 l2 l3 l4 l5 l6 l7 l8 : Option Value} {l : eg_Lo} : wps rm K Q c_M_tellNormal_124 kc ks (l0 :: l1 :: l2 :: l3 :: l4 :: l5 :: l6 :: l7 :: l8 :: some (.int x) :: l) (st) h = wps rm K Q c_M_tellNormal_126 kc ks (l0 :: l1 :: l2 :: l3 :: l4 :: l5 :: l6 :: l7 :: l8 :: some (.int x) :: l) (.int x :: st) h := gk_iload rfl
theorem s_M_tellNormal_126 {x : Nat} {i : Int32} : wps rm K Q c_M_tellNormal_126 kc ks loc (.int i :: .ref (x + 1) :: st) h = eg_ia h x i (fun v => wps rm K Q c_M_tellNormal_127 kc ks loc (.int v :: st) h) := gk_iaload
theorem s_M_tellNormal_127 {x : Nat} {l : eg_Lo} : wps rm K Q c_M_tellNormal_127 kc ks (some (.ref x) :: l) (st) h = wps rm K Q c_M_tellNormal_128 kc ks (some (.ref x) :: l) (.ref x :: st) h := gk_aload rfl
theorem s_M_tellNormal_128 {x : Nat} : wps rm K Q c_M_tellNormal_128 kc ks loc (.ref (x + 1) :: st) h = eg_gf h x 12 3 (fun v => wps rm K Q c_M_tellNormal_131 kc ks loc (v :: st) h) := gk_gf
theorem s_M_tellNormal_131 {x : Int32} {l0 l1 l2 l3 l4 l5 l6 l7 : Option Value} {l : eg_Lo} : wps rm K Q c_M_tellNormal_131 kc ks (l0 :: l1 :: l2 :: l3 :: l4 :: l5 :: l6 :: l7 :: some (.int x) :: l) (st) h = wps rm K Q c_M_tellNormal_133 kc ks (l0 :: l1 :: l2 :: l3 :: l4 :: l5 :: l6 :: l7 :: some (.int x) :: l) (.int x :: st) h := gk_iload rfl
theorem s_M_tellNormal_133 {x : Nat} {i : Int32} : wps rm K Q c_M_tellNormal_133 kc ks loc (.int i :: .ref (x + 1) :: st) h = eg_ia h x i (fun v => wps rm K Q c_M_tellNormal_134 kc ks loc (.int v :: st) h) := gk_iaload
theorem s_M_tellNormal_134 {x y : Int32} : wps rm K Q c_M_tellNormal_134 kc ks loc (.int y :: .int x :: st) h = wps rm K Q c_M_tellNormal_135 kc ks loc (.int (x - y) :: st) h := gk_isub
theorem s_M_tellNormal_135 {x : Int32} : wps rm K Q c_M_tellNormal_135 kc ks loc (.int x :: st) h = wps rm K Q c_M_tellNormal_136 kc ks loc (.long (x.toInt64) :: st) h := gk_i2l
theorem s_M_tellNormal_136 {x : Int64} : wps rm K Q c_M_tellNormal_136 kc ks loc (.long x :: st) h = wps rm K Q c_M_tellNormal_138 kc ks (eg_set2 loc 20 (.long x)) (st) h := gk_lstore
theorem s_M_tellNormal_138 {x : Nat} {l : eg_Lo} : wps rm K Q c_M_tellNormal_138 kc ks (some (.ref x) :: l) (st) h = wps rm K Q c_M_tellNormal_139 kc ks (some (.ref x) :: l) (.ref x :: st) h := gk_aload rfl
theorem s_M_tellNormal_139 {x : Nat} : wps rm K Q c_M_tellNormal_139 kc ks loc (.ref (x + 1) :: st) h = eg_gf h x 12 33 (fun v => wps rm K Q c_M_tellNormal_142 kc ks loc (v :: st) h) := gk_gf
theorem s_M_tellNormal_142  : wps rm K Q c_M_tellNormal_142 kc ks loc (st) h = wps rm K Q c_M_tellNormal_143 kc ks loc (.int (0) :: st) h := gk_ic (by decide)
theorem s_M_tellNormal_143 {x : Int64} {l0 l1 l2 l3 l4 l5 l6 l7 l8 l9 l10 l11 : Option Value} {l : eg_Lo} : wps rm K Q c_M_tellNormal_143 kc ks (l0 :: l1 :: l2 :: l3 :: l4 :: l5 :: l6 :: l7 :: l8 :: l9 :: l10 :: l11 :: some (.long x) :: l) (st) h = wps rm K Q c_M_tellNormal_145 kc ks (l0 :: l1 :: l2 :: l3 :: l4 :: l5 :: l6 :: l7 :: l8 :: l9 :: l10 :: l11 :: some (.long x) :: l) (.long x :: st) h := gk_lload rfl
theorem s_M_tellNormal_145 {x : Int64} {l0 l1 l2 l3 l4 l5 l6 l7 l8 l9 l10 l11 l12 l13 l14 l15 l16 l17 l18 l19 : Option Value} {l : eg_Lo} : wps rm K Q c_M_tellNormal_145 kc ks (l0 :: l1 :: l2 :: l3 :: l4 :: l5 :: l6 :: l7 :: l8 :: l9 :: l10 :: l11 :: l12 :: l13 :: l14 :: l15 :: l16 :: l17 :: l18 :: l19 :: some (.long x) :: l) (st) h = wps rm K Q c_M_tellNormal_147 kc ks (l0 :: l1 :: l2 :: l3 :: l4 :: l5 :: l6 :: l7 :: l8 :: l9 :: l10 :: l11 :: l12 :: l13 :: l14 :: l15 :: l16 :: l17 :: l18 :: l19 :: some (.long x) :: l) (.long x :: st) h := gk_lload rfl
theorem s_M_tellNormal_147 {x y : Int64} : wps rm K Q c_M_tellNormal_147 kc ks loc (.long y :: .long x :: st) h = wps rm K Q c_M_tellNormal_148 kc ks loc (.long (x * y) :: st) h := gk_lmul
theorem s_M_tellNormal_148 {x : Int64} {l0 l1 l2 l3 l4 l5 l6 l7 l8 l9 l10 l11 l12 l13 : Option Value} {l : eg_Lo} : wps rm K Q c_M_tellNormal_148 kc ks (l0 :: l1 :: l2 :: l3 :: l4 :: l5 :: l6 :: l7 :: l8 :: l9 :: l10 :: l11 :: l12 :: l13 :: some (.long x) :: l) (st) h = wps rm K Q c_M_tellNormal_150 kc ks (l0 :: l1 :: l2 :: l3 :: l4 :: l5 :: l6 :: l7 :: l8 :: l9 :: l10 :: l11 :: l12 :: l13 :: some (.long x) :: l) (.long x :: st) h := gk_lload rfl
theorem s_M_tellNormal_150 {x : Int64} {l0 l1 l2 l3 l4 l5 l6 l7 l8 l9 l10 l11 l12 l13 l14 l15 l16 l17 : Option Value} {l : eg_Lo} : wps rm K Q c_M_tellNormal_150 kc ks (l0 :: l1 :: l2 :: l3 :: l4 :: l5 :: l6 :: l7 :: l8 :: l9 :: l10 :: l11 :: l12 :: l13 :: l14 :: l15 :: l16 :: l17 :: some (.long x) :: l) (st) h = wps rm K Q c_M_tellNormal_152 kc ks (l0 :: l1 :: l2 :: l3 :: l4 :: l5 :: l6 :: l7 :: l8 :: l9 :: l10 :: l11 :: l12 :: l13 :: l14 :: l15 :: l16 :: l17 :: some (.long x) :: l) (.long x :: st) h := gk_lload rfl
theorem s_M_tellNormal_152 {x y : Int64} : wps rm K Q c_M_tellNormal_152 kc ks loc (.long y :: .long x :: st) h = wps rm K Q c_M_tellNormal_153 kc ks loc (.long (x * y) :: st) h := gk_lmul
theorem s_M_tellNormal_153 {x y : Int64} : wps rm K Q c_M_tellNormal_153 kc ks loc (.long y :: .long x :: st) h = wps rm K Q c_M_tellNormal_154 kc ks loc (.long (x - y) :: st) h := gk_lsub
theorem s_M_tellNormal_154 {x : Nat} {i : Int32} {v : Int64} : wps rm K Q c_M_tellNormal_154 kc ks loc (.long v :: .int i :: .ref (x + 1) :: st) h = eg_lst h x i v (fun h9 => wps rm K Q c_M_tellNormal_155 kc ks loc (st) h9) := gk_lastore
theorem s_M_tellNormal_155 {x : Nat} {l : eg_Lo} : wps rm K Q c_M_tellNormal_155 kc ks (some (.ref x) :: l) (st) h = wps rm K Q c_M_tellNormal_156 kc ks (some (.ref x) :: l) (.ref x :: st) h := gk_aload rfl
theorem s_M_tellNormal_156 {x : Nat} : wps rm K Q c_M_tellNormal_156 kc ks loc (.ref (x + 1) :: st) h = eg_gf h x 12 33 (fun v => wps rm K Q c_M_tellNormal_159 kc ks loc (v :: st) h) := gk_gf
theorem s_M_tellNormal_159  : wps rm K Q c_M_tellNormal_159 kc ks loc (st) h = wps rm K Q c_M_tellNormal_160 kc ks loc (.int (1) :: st) h := gk_ic (by decide)
theorem s_M_tellNormal_160 {x : Int64} {l0 l1 l2 l3 l4 l5 l6 l7 l8 l9 l10 l11 l12 l13 : Option Value} {l : eg_Lo} : wps rm K Q c_M_tellNormal_160 kc ks (l0 :: l1 :: l2 :: l3 :: l4 :: l5 :: l6 :: l7 :: l8 :: l9 :: l10 :: l11 :: l12 :: l13 :: some (.long x) :: l) (st) h = wps rm K Q c_M_tellNormal_162 kc ks (l0 :: l1 :: l2 :: l3 :: l4 :: l5 :: l6 :: l7 :: l8 :: l9 :: l10 :: l11 :: l12 :: l13 :: some (.long x) :: l) (.long x :: st) h := gk_lload rfl
theorem s_M_tellNormal_162 {x : Int64} {l0 l1 l2 l3 l4 l5 l6 l7 l8 l9 l10 l11 l12 l13 l14 l15 : Option Value} {l : eg_Lo} : wps rm K Q c_M_tellNormal_162 kc ks (l0 :: l1 :: l2 :: l3 :: l4 :: l5 :: l6 :: l7 :: l8 :: l9 :: l10 :: l11 :: l12 :: l13 :: l14 :: l15 :: some (.long x) :: l) (st) h = wps rm K Q c_M_tellNormal_164 kc ks (l0 :: l1 :: l2 :: l3 :: l4 :: l5 :: l6 :: l7 :: l8 :: l9 :: l10 :: l11 :: l12 :: l13 :: l14 :: l15 :: some (.long x) :: l) (.long x :: st) h := gk_lload rfl
theorem s_M_tellNormal_164 {x y : Int64} : wps rm K Q c_M_tellNormal_164 kc ks loc (.long y :: .long x :: st) h = wps rm K Q c_M_tellNormal_165 kc ks loc (.long (x * y) :: st) h := gk_lmul
theorem s_M_tellNormal_165 {x : Int64} {l0 l1 l2 l3 l4 l5 l6 l7 l8 l9 : Option Value} {l : eg_Lo} : wps rm K Q c_M_tellNormal_165 kc ks (l0 :: l1 :: l2 :: l3 :: l4 :: l5 :: l6 :: l7 :: l8 :: l9 :: some (.long x) :: l) (st) h = wps rm K Q c_M_tellNormal_167 kc ks (l0 :: l1 :: l2 :: l3 :: l4 :: l5 :: l6 :: l7 :: l8 :: l9 :: some (.long x) :: l) (.long x :: st) h := gk_lload rfl
theorem s_M_tellNormal_167 {x : Int64} {l0 l1 l2 l3 l4 l5 l6 l7 l8 l9 l10 l11 l12 l13 l14 l15 l16 l17 l18 l19 : Option Value} {l : eg_Lo} : wps rm K Q c_M_tellNormal_167 kc ks (l0 :: l1 :: l2 :: l3 :: l4 :: l5 :: l6 :: l7 :: l8 :: l9 :: l10 :: l11 :: l12 :: l13 :: l14 :: l15 :: l16 :: l17 :: l18 :: l19 :: some (.long x) :: l) (st) h = wps rm K Q c_M_tellNormal_169 kc ks (l0 :: l1 :: l2 :: l3 :: l4 :: l5 :: l6 :: l7 :: l8 :: l9 :: l10 :: l11 :: l12 :: l13 :: l14 :: l15 :: l16 :: l17 :: l18 :: l19 :: some (.long x) :: l) (.long x :: st) h := gk_lload rfl
theorem s_M_tellNormal_169 {x y : Int64} : wps rm K Q c_M_tellNormal_169 kc ks loc (.long y :: .long x :: st) h = wps rm K Q c_M_tellNormal_170 kc ks loc (.long (x * y) :: st) h := gk_lmul
theorem s_M_tellNormal_170 {x y : Int64} : wps rm K Q c_M_tellNormal_170 kc ks loc (.long y :: .long x :: st) h = wps rm K Q c_M_tellNormal_171 kc ks loc (.long (x - y) :: st) h := gk_lsub
theorem s_M_tellNormal_171 {x : Nat} {i : Int32} {v : Int64} : wps rm K Q c_M_tellNormal_171 kc ks loc (.long v :: .int i :: .ref (x + 1) :: st) h = eg_lst h x i v (fun h9 => wps rm K Q c_M_tellNormal_172 kc ks loc (st) h9) := gk_lastore
theorem s_M_tellNormal_172 {x : Nat} {l : eg_Lo} : wps rm K Q c_M_tellNormal_172 kc ks (some (.ref x) :: l) (st) h = wps rm K Q c_M_tellNormal_173 kc ks (some (.ref x) :: l) (.ref x :: st) h := gk_aload rfl
theorem s_M_tellNormal_173 {x : Nat} : wps rm K Q c_M_tellNormal_173 kc ks loc (.ref (x + 1) :: st) h = eg_gf h x 12 33 (fun v => wps rm K Q c_M_tellNormal_176 kc ks loc (v :: st) h) := gk_gf
theorem s_M_tellNormal_176  : wps rm K Q c_M_tellNormal_176 kc ks loc (st) h = wps rm K Q c_M_tellNormal_177 kc ks loc (.int (2) :: st) h := gk_ic (by decide)
theorem s_M_tellNormal_177 {x : Int64} {l0 l1 l2 l3 l4 l5 l6 l7 l8 l9 : Option Value} {l : eg_Lo} : wps rm K Q c_M_tellNormal_177 kc ks (l0 :: l1 :: l2 :: l3 :: l4 :: l5 :: l6 :: l7 :: l8 :: l9 :: some (.long x) :: l) (st) h = wps rm K Q c_M_tellNormal_179 kc ks (l0 :: l1 :: l2 :: l3 :: l4 :: l5 :: l6 :: l7 :: l8 :: l9 :: some (.long x) :: l) (.long x :: st) h := gk_lload rfl
theorem s_M_tellNormal_179 {x : Int64} {l0 l1 l2 l3 l4 l5 l6 l7 l8 l9 l10 l11 l12 l13 l14 l15 l16 l17 : Option Value} {l : eg_Lo} : wps rm K Q c_M_tellNormal_179 kc ks (l0 :: l1 :: l2 :: l3 :: l4 :: l5 :: l6 :: l7 :: l8 :: l9 :: l10 :: l11 :: l12 :: l13 :: l14 :: l15 :: l16 :: l17 :: some (.long x) :: l) (st) h = wps rm K Q c_M_tellNormal_181 kc ks (l0 :: l1 :: l2 :: l3 :: l4 :: l5 :: l6 :: l7 :: l8 :: l9 :: l10 :: l11 :: l12 :: l13 :: l14 :: l15 :: l16 :: l17 :: some (.long x) :: l) (.long x :: st) h := gk_lload rfl
theorem s_M_tellNormal_181 {x y : Int64} : wps rm K Q c_M_tellNormal_181 kc ks loc (.long y :: .long x :: st) h = wps rm K Q c_M_tellNormal_182 kc ks loc (.long (x * y) :: st) h := gk_lmul
theorem s_M_tellNormal_182 {x : Int64} {l0 l1 l2 l3 l4 l5 l6 l7 l8 l9 l10 l11 : Option Value} {l : eg_Lo} : wps rm K Q c_M_tellNormal_182 kc ks (l0 :: l1 :: l2 :: l3 :: l4 :: l5 :: l6 :: l7 :: l8 :: l9 :: l10 :: l11 :: some (.long x) :: l) (st) h = wps rm K Q c_M_tellNormal_184 kc ks (l0 :: l1 :: l2 :: l3 :: l4 :: l5 :: l6 :: l7 :: l8 :: l9 :: l10 :: l11 :: some (.long x) :: l) (.long x :: st) h := gk_lload rfl
theorem s_M_tellNormal_184 {x : Int64} {l0 l1 l2 l3 l4 l5 l6 l7 l8 l9 l10 l11 l12 l13 l14 l15 : Option Value} {l : eg_Lo} : wps rm K Q c_M_tellNormal_184 kc ks (l0 :: l1 :: l2 :: l3 :: l4 :: l5 :: l6 :: l7 :: l8 :: l9 :: l10 :: l11 :: l12 :: l13 :: l14 :: l15 :: some (.long x) :: l) (st) h = wps rm K Q c_M_tellNormal_186 kc ks (l0 :: l1 :: l2 :: l3 :: l4 :: l5 :: l6 :: l7 :: l8 :: l9 :: l10 :: l11 :: l12 :: l13 :: l14 :: l15 :: some (.long x) :: l) (.long x :: st) h := gk_lload rfl
theorem s_M_tellNormal_186 {x y : Int64} : wps rm K Q c_M_tellNormal_186 kc ks loc (.long y :: .long x :: st) h = wps rm K Q c_M_tellNormal_187 kc ks loc (.long (x * y) :: st) h := gk_lmul
theorem s_M_tellNormal_187 {x y : Int64} : wps rm K Q c_M_tellNormal_187 kc ks loc (.long y :: .long x :: st) h = wps rm K Q c_M_tellNormal_188 kc ks loc (.long (x - y) :: st) h := gk_lsub
theorem s_M_tellNormal_188 {x : Nat} {i : Int32} {v : Int64} : wps rm K Q c_M_tellNormal_188 kc ks loc (.long v :: .int i :: .ref (x + 1) :: st) h = eg_lst h x i v (fun h9 => wps rm K Q c_M_tellNormal_189 kc ks loc (st) h9) := gk_lastore
theorem s_M_tellNormal_189  : wps rm K Q c_M_tellNormal_189 kc ks loc ([]) h = (kc = rm.cells ∧ Q none h) := gk_vret
def T_M_tellNormal : List (Nat × List eg_I) := []
end
theorem y_M_tellNormal_0 : eg_seq m_M_tellNormal 0 c_M_tellNormal_0 = true := by decide +kernel
theorem q_M_tellNormal : ∀ q ∈ T_M_tellNormal, eg_seq m_M_tellNormal q.1 q.2 = true := by
  intro q hq
  cases hq
theorem b_M_tellNormal {as : List Value} {h : List eg_E} {Q : Option Value → List eg_E → Prop} (hf : (eg_fl as).length ≤ 22) (hw : wps (eg_rm m_M_tellNormal) (eg_run (eg_rm m_M_tellNormal) (eg_R m_M_tellNormal Q (h.length + 0)) Q T_M_tellNormal 2) Q c_M_tellNormal_0 0 0 (eg_entry 22 as) [] h) : eg_Runs n_M_tellNormal as h Q := eg_begin2 (d := m_M_tellNormal) rfl (by decide) y_M_tellNormal_0 q_M_tellNormal hf hw
/-! ===== M_squareOf ===== -/
def c_M_squareOf_41 : List eg_I := .inl (41, 1, .lreturn, 0, 0) :: []
def c_M_squareOf_40 : List eg_I := .inl (40, 1, .ladd, 0, 0) :: c_M_squareOf_41
def c_M_squareOf_39 : List eg_I := .inl (39, 1, .lmul, 0, 0) :: c_M_squareOf_40
def c_M_squareOf_38 : List eg_I := .inl (38, 1, .laload, 0, 0) :: c_M_squareOf_39
def c_M_squareOf_37 : List eg_I := .inl (37, 1, .iconst (2), 0, 0) :: c_M_squareOf_38
def c_M_squareOf_34 : List eg_I := .inl (34, 3, .getfield 88, 12, 33) :: c_M_squareOf_37
def c_M_squareOf_33 : List eg_I := .inl (33, 1, .aload 0, 0, 0) :: c_M_squareOf_34
def c_M_squareOf_32 : List eg_I := .inl (32, 1, .laload, 0, 0) :: c_M_squareOf_33
def c_M_squareOf_31 : List eg_I := .inl (31, 1, .iconst (2), 0, 0) :: c_M_squareOf_32
def c_M_squareOf_28 : List eg_I := .inl (28, 3, .getfield 88, 12, 33) :: c_M_squareOf_31
def c_M_squareOf_27 : List eg_I := .inl (27, 1, .aload 0, 0, 0) :: c_M_squareOf_28
def c_M_squareOf_26 : List eg_I := .inl (26, 1, .ladd, 0, 0) :: c_M_squareOf_27
def c_M_squareOf_25 : List eg_I := .inl (25, 1, .lmul, 0, 0) :: c_M_squareOf_26
def c_M_squareOf_24 : List eg_I := .inl (24, 1, .laload, 0, 0) :: c_M_squareOf_25
def c_M_squareOf_23 : List eg_I := .inl (23, 1, .iconst (1), 0, 0) :: c_M_squareOf_24
def c_M_squareOf_20 : List eg_I := .inl (20, 3, .getfield 88, 12, 33) :: c_M_squareOf_23
def c_M_squareOf_19 : List eg_I := .inl (19, 1, .aload 0, 0, 0) :: c_M_squareOf_20
def c_M_squareOf_18 : List eg_I := .inl (18, 1, .laload, 0, 0) :: c_M_squareOf_19
def c_M_squareOf_17 : List eg_I := .inl (17, 1, .iconst (1), 0, 0) :: c_M_squareOf_18
def c_M_squareOf_14 : List eg_I := .inl (14, 3, .getfield 88, 12, 33) :: c_M_squareOf_17
def c_M_squareOf_13 : List eg_I := .inl (13, 1, .aload 0, 0, 0) :: c_M_squareOf_14
def c_M_squareOf_12 : List eg_I := .inl (12, 1, .lmul, 0, 0) :: c_M_squareOf_13
def c_M_squareOf_11 : List eg_I := .inl (11, 1, .laload, 0, 0) :: c_M_squareOf_12
def c_M_squareOf_10 : List eg_I := .inl (10, 1, .iconst (0), 0, 0) :: c_M_squareOf_11
def c_M_squareOf_7 : List eg_I := .inl (7, 3, .getfield 88, 12, 33) :: c_M_squareOf_10
def c_M_squareOf_6 : List eg_I := .inl (6, 1, .aload 0, 0, 0) :: c_M_squareOf_7
def c_M_squareOf_5 : List eg_I := .inl (5, 1, .laload, 0, 0) :: c_M_squareOf_6
def c_M_squareOf_4 : List eg_I := .inl (4, 1, .iconst (0), 0, 0) :: c_M_squareOf_5
def c_M_squareOf_1 : List eg_I := .inl (1, 3, .getfield 88, 12, 33) :: c_M_squareOf_4
def c_M_squareOf_0 : List eg_I := .inl (0, 1, .aload 0, 0, 0) :: c_M_squareOf_1
section
variable {rm : Room} {K : Nat → Nat → Nat → eg_Lo → List Value → List eg_E → Prop} {Q : Option Value → List eg_E → Prop} {kc ks : Nat} {loc : eg_Lo} {st : List Value} {h : List eg_E}
theorem s_M_squareOf_0 {x : Nat} {l : eg_Lo} : wps rm K Q c_M_squareOf_0 kc ks (some (.ref x) :: l) (st) h = wps rm K Q c_M_squareOf_1 kc ks (some (.ref x) :: l) (.ref x :: st) h := gk_aload rfl
theorem s_M_squareOf_1 {x : Nat} : wps rm K Q c_M_squareOf_1 kc ks loc (.ref (x + 1) :: st) h = eg_gf h x 12 33 (fun v => wps rm K Q c_M_squareOf_4 kc ks loc (v :: st) h) := gk_gf
theorem s_M_squareOf_4  : wps rm K Q c_M_squareOf_4 kc ks loc (st) h = wps rm K Q c_M_squareOf_5 kc ks loc (.int (0) :: st) h := gk_ic (by decide)
theorem s_M_squareOf_5 {x : Nat} {i : Int32} : wps rm K Q c_M_squareOf_5 kc ks loc (.int i :: .ref (x + 1) :: st) h = eg_la h x i (fun v => wps rm K Q c_M_squareOf_6 kc ks loc (.long v :: st) h) := gk_laload
theorem s_M_squareOf_6 {x : Nat} {l : eg_Lo} : wps rm K Q c_M_squareOf_6 kc ks (some (.ref x) :: l) (st) h = wps rm K Q c_M_squareOf_7 kc ks (some (.ref x) :: l) (.ref x :: st) h := gk_aload rfl
theorem s_M_squareOf_7 {x : Nat} : wps rm K Q c_M_squareOf_7 kc ks loc (.ref (x + 1) :: st) h = eg_gf h x 12 33 (fun v => wps rm K Q c_M_squareOf_10 kc ks loc (v :: st) h) := gk_gf
theorem s_M_squareOf_10  : wps rm K Q c_M_squareOf_10 kc ks loc (st) h = wps rm K Q c_M_squareOf_11 kc ks loc (.int (0) :: st) h := gk_ic (by decide)
theorem s_M_squareOf_11 {x : Nat} {i : Int32} : wps rm K Q c_M_squareOf_11 kc ks loc (.int i :: .ref (x + 1) :: st) h = eg_la h x i (fun v => wps rm K Q c_M_squareOf_12 kc ks loc (.long v :: st) h) := gk_laload
theorem s_M_squareOf_12 {x y : Int64} : wps rm K Q c_M_squareOf_12 kc ks loc (.long y :: .long x :: st) h = wps rm K Q c_M_squareOf_13 kc ks loc (.long (x * y) :: st) h := gk_lmul
theorem s_M_squareOf_13 {x : Nat} {l : eg_Lo} : wps rm K Q c_M_squareOf_13 kc ks (some (.ref x) :: l) (st) h = wps rm K Q c_M_squareOf_14 kc ks (some (.ref x) :: l) (.ref x :: st) h := gk_aload rfl
theorem s_M_squareOf_14 {x : Nat} : wps rm K Q c_M_squareOf_14 kc ks loc (.ref (x + 1) :: st) h = eg_gf h x 12 33 (fun v => wps rm K Q c_M_squareOf_17 kc ks loc (v :: st) h) := gk_gf
theorem s_M_squareOf_17  : wps rm K Q c_M_squareOf_17 kc ks loc (st) h = wps rm K Q c_M_squareOf_18 kc ks loc (.int (1) :: st) h := gk_ic (by decide)
theorem s_M_squareOf_18 {x : Nat} {i : Int32} : wps rm K Q c_M_squareOf_18 kc ks loc (.int i :: .ref (x + 1) :: st) h = eg_la h x i (fun v => wps rm K Q c_M_squareOf_19 kc ks loc (.long v :: st) h) := gk_laload
theorem s_M_squareOf_19 {x : Nat} {l : eg_Lo} : wps rm K Q c_M_squareOf_19 kc ks (some (.ref x) :: l) (st) h = wps rm K Q c_M_squareOf_20 kc ks (some (.ref x) :: l) (.ref x :: st) h := gk_aload rfl
theorem s_M_squareOf_20 {x : Nat} : wps rm K Q c_M_squareOf_20 kc ks loc (.ref (x + 1) :: st) h = eg_gf h x 12 33 (fun v => wps rm K Q c_M_squareOf_23 kc ks loc (v :: st) h) := gk_gf
theorem s_M_squareOf_23  : wps rm K Q c_M_squareOf_23 kc ks loc (st) h = wps rm K Q c_M_squareOf_24 kc ks loc (.int (1) :: st) h := gk_ic (by decide)
theorem s_M_squareOf_24 {x : Nat} {i : Int32} : wps rm K Q c_M_squareOf_24 kc ks loc (.int i :: .ref (x + 1) :: st) h = eg_la h x i (fun v => wps rm K Q c_M_squareOf_25 kc ks loc (.long v :: st) h) := gk_laload
theorem s_M_squareOf_25 {x y : Int64} : wps rm K Q c_M_squareOf_25 kc ks loc (.long y :: .long x :: st) h = wps rm K Q c_M_squareOf_26 kc ks loc (.long (x * y) :: st) h := gk_lmul
theorem s_M_squareOf_26 {x y : Int64} : wps rm K Q c_M_squareOf_26 kc ks loc (.long y :: .long x :: st) h = wps rm K Q c_M_squareOf_27 kc ks loc (.long (x + y) :: st) h := gk_ladd
theorem s_M_squareOf_27 {x : Nat} {l : eg_Lo} : wps rm K Q c_M_squareOf_27 kc ks (some (.ref x) :: l) (st) h = wps rm K Q c_M_squareOf_28 kc ks (some (.ref x) :: l) (.ref x :: st) h := gk_aload rfl
theorem s_M_squareOf_28 {x : Nat} : wps rm K Q c_M_squareOf_28 kc ks loc (.ref (x + 1) :: st) h = eg_gf h x 12 33 (fun v => wps rm K Q c_M_squareOf_31 kc ks loc (v :: st) h) := gk_gf
theorem s_M_squareOf_31  : wps rm K Q c_M_squareOf_31 kc ks loc (st) h = wps rm K Q c_M_squareOf_32 kc ks loc (.int (2) :: st) h := gk_ic (by decide)
theorem s_M_squareOf_32 {x : Nat} {i : Int32} : wps rm K Q c_M_squareOf_32 kc ks loc (.int i :: .ref (x + 1) :: st) h = eg_la h x i (fun v => wps rm K Q c_M_squareOf_33 kc ks loc (.long v :: st) h) := gk_laload
theorem s_M_squareOf_33 {x : Nat} {l : eg_Lo} : wps rm K Q c_M_squareOf_33 kc ks (some (.ref x) :: l) (st) h = wps rm K Q c_M_squareOf_34 kc ks (some (.ref x) :: l) (.ref x :: st) h := gk_aload rfl
theorem s_M_squareOf_34 {x : Nat} : wps rm K Q c_M_squareOf_34 kc ks loc (.ref (x + 1) :: st) h = eg_gf h x 12 33 (fun v => wps rm K Q c_M_squareOf_37 kc ks loc (v :: st) h) := gk_gf
theorem s_M_squareOf_37  : wps rm K Q c_M_squareOf_37 kc ks loc (st) h = wps rm K Q c_M_squareOf_38 kc ks loc (.int (2) :: st) h := gk_ic (by decide)
theorem s_M_squareOf_38 {x : Nat} {i : Int32} : wps rm K Q c_M_squareOf_38 kc ks loc (.int i :: .ref (x + 1) :: st) h = eg_la h x i (fun v => wps rm K Q c_M_squareOf_39 kc ks loc (.long v :: st) h) := gk_laload
theorem s_M_squareOf_39 {x y : Int64} : wps rm K Q c_M_squareOf_39 kc ks loc (.long y :: .long x :: st) h = wps rm K Q c_M_squareOf_40 kc ks loc (.long (x * y) :: st) h := gk_lmul
theorem s_M_squareOf_40 {x y : Int64} : wps rm K Q c_M_squareOf_40 kc ks loc (.long y :: .long x :: st) h = wps rm K Q c_M_squareOf_41 kc ks loc (.long (x + y) :: st) h := gk_ladd
theorem s_M_squareOf_41 {x : Int64} : wps rm K Q c_M_squareOf_41 kc ks loc ([.long x]) h = (kc = rm.cells ∧ Q (some (.long x)) h) := gk_lret
def T_M_squareOf : List (Nat × List eg_I) := []
end
theorem y_M_squareOf_0 : eg_seq m_M_squareOf 0 c_M_squareOf_0 = true := by decide +kernel
theorem q_M_squareOf : ∀ q ∈ T_M_squareOf, eg_seq m_M_squareOf q.1 q.2 = true := by
  intro q hq
  cases hq
theorem b_M_squareOf {as : List Value} {h : List eg_E} {Q : Option Value → List eg_E → Prop} (hf : (eg_fl as).length ≤ 1) (hw : wps (eg_rm m_M_squareOf) (eg_run (eg_rm m_M_squareOf) (eg_R m_M_squareOf Q (h.length + 0)) Q T_M_squareOf 2) Q c_M_squareOf_0 0 0 (eg_entry 1 as) [] h) : eg_Runs n_M_squareOf as h Q := eg_begin2 (d := m_M_squareOf) rfl (by decide) y_M_squareOf_0 q_M_squareOf hf hw
