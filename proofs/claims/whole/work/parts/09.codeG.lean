/-! ===== X_squareApart ===== -/
def c_X_squareApart_84 : List eg_I := .inl (84, 1, .lreturn, 0, 0) :: []
def c_X_squareApart_83 : List eg_I := .inl (83, 1, .ladd, 0, 0) :: c_X_squareApart_84
def c_X_squareApart_82 : List eg_I := .inl (82, 1, .lmul, 0, 0) :: c_X_squareApart_83
def c_X_squareApart_80 : List eg_I := .inl (80, 2, .lload 7, 0, 0) :: c_X_squareApart_82
def c_X_squareApart_78 : List eg_I := .inl (78, 2, .lload 7, 0, 0) :: c_X_squareApart_80
def c_X_squareApart_77 : List eg_I := .inl (77, 1, .ladd, 0, 0) :: c_X_squareApart_78
def c_X_squareApart_76 : List eg_I := .inl (76, 1, .lmul, 0, 0) :: c_X_squareApart_77
def c_X_squareApart_74 : List eg_I := .inl (74, 2, .lload 5, 0, 0) :: c_X_squareApart_76
def c_X_squareApart_72 : List eg_I := .inl (72, 2, .lload 5, 0, 0) :: c_X_squareApart_74
def c_X_squareApart_71 : List eg_I := .inl (71, 1, .lmul, 0, 0) :: c_X_squareApart_72
def c_X_squareApart_70 : List eg_I := .inl (70, 1, .lload 3, 0, 0) :: c_X_squareApart_71
def c_X_squareApart_69 : List eg_I := .inl (69, 1, .lload 3, 0, 0) :: c_X_squareApart_70
def c_X_squareApart_67 : List eg_I := .inl (67, 2, .lstore 7, 0, 0) :: c_X_squareApart_69
def c_X_squareApart_66 : List eg_I := .inl (66, 1, .i2l, 0, 0) :: c_X_squareApart_67
def c_X_squareApart_65 : List eg_I := .inl (65, 1, .isub, 0, 0) :: c_X_squareApart_66
def c_X_squareApart_64 : List eg_I := .inl (64, 1, .iaload, 0, 0) :: c_X_squareApart_65
def c_X_squareApart_63 : List eg_I := .inl (63, 1, .iload 2, 0, 0) :: c_X_squareApart_64
def c_X_squareApart_60 : List eg_I := .inl (60, 3, .getfield 122, 8, 2) :: c_X_squareApart_63
def c_X_squareApart_59 : List eg_I := .inl (59, 1, .aload 1, 0, 0) :: c_X_squareApart_60
def c_X_squareApart_58 : List eg_I := .inl (58, 1, .iaload, 0, 0) :: c_X_squareApart_59
def c_X_squareApart_57 : List eg_I := .inl (57, 1, .iload 2, 0, 0) :: c_X_squareApart_58
def c_X_squareApart_54 : List eg_I := .inl (54, 3, .getfield 122, 8, 2) :: c_X_squareApart_57
def c_X_squareApart_53 : List eg_I := .inl (53, 1, .aload 0, 0, 0) :: c_X_squareApart_54
def c_X_squareApart_51 : List eg_I := .inl (51, 2, .lstore 5, 0, 0) :: c_X_squareApart_53
def c_X_squareApart_50 : List eg_I := .inl (50, 1, .i2l, 0, 0) :: c_X_squareApart_51
def c_X_squareApart_49 : List eg_I := .inl (49, 1, .isub, 0, 0) :: c_X_squareApart_50
def c_X_squareApart_48 : List eg_I := .inl (48, 1, .iaload, 0, 0) :: c_X_squareApart_49
def c_X_squareApart_47 : List eg_I := .inl (47, 1, .iload 2, 0, 0) :: c_X_squareApart_48
def c_X_squareApart_44 : List eg_I := .inl (44, 3, .getfield 119, 8, 1) :: c_X_squareApart_47
def c_X_squareApart_43 : List eg_I := .inl (43, 1, .aload 1, 0, 0) :: c_X_squareApart_44
def c_X_squareApart_42 : List eg_I := .inl (42, 1, .iaload, 0, 0) :: c_X_squareApart_43
def c_X_squareApart_41 : List eg_I := .inl (41, 1, .iload 2, 0, 0) :: c_X_squareApart_42
def c_X_squareApart_38 : List eg_I := .inl (38, 3, .getfield 119, 8, 1) :: c_X_squareApart_41
def c_X_squareApart_37 : List eg_I := .inl (37, 1, .aload 0, 0, 0) :: c_X_squareApart_38
def c_X_squareApart_36 : List eg_I := .inl (36, 1, .lstore 3, 0, 0) :: c_X_squareApart_37
def c_X_squareApart_35 : List eg_I := .inl (35, 1, .i2l, 0, 0) :: c_X_squareApart_36
def c_X_squareApart_34 : List eg_I := .inl (34, 1, .isub, 0, 0) :: c_X_squareApart_35
def c_X_squareApart_33 : List eg_I := .inl (33, 1, .iaload, 0, 0) :: c_X_squareApart_34
def c_X_squareApart_32 : List eg_I := .inl (32, 1, .iload 2, 0, 0) :: c_X_squareApart_33
def c_X_squareApart_29 : List eg_I := .inl (29, 3, .getfield 115, 8, 0) :: c_X_squareApart_32
def c_X_squareApart_28 : List eg_I := .inl (28, 1, .aload 1, 0, 0) :: c_X_squareApart_29
def c_X_squareApart_27 : List eg_I := .inl (27, 1, .iaload, 0, 0) :: c_X_squareApart_28
def c_X_squareApart_26 : List eg_I := .inl (26, 1, .iload 2, 0, 0) :: c_X_squareApart_27
def c_X_squareApart_23 : List eg_I := .inl (23, 3, .getfield 115, 8, 0) :: c_X_squareApart_26
def c_X_squareApart_22 : List eg_I := .inl (22, 1, .aload 0, 0, 0) :: c_X_squareApart_23
def c_X_squareApart_21 : List eg_I := .inl (21, 1, .lreturn, 0, 0) :: []
def c_X_squareApart_18 : List eg_I := .inl (18, 3, .sipush (-1), 152, 0) :: c_X_squareApart_21
def c_X_squareApart_15 : List eg_I := .inl (15, 3, .ifCond .eq (7), 22, 0) :: c_X_squareApart_18
def c_X_squareApart_14 : List eg_I := .inl (14, 1, .baload, 0, 0) :: c_X_squareApart_15
def c_X_squareApart_13 : List eg_I := .inl (13, 1, .iload 2, 0, 0) :: c_X_squareApart_14
def c_X_squareApart_10 : List eg_I := .inl (10, 3, .getfield 109, 8, 3) :: c_X_squareApart_13
def c_X_squareApart_9 : List eg_I := .inl (9, 1, .aload 1, 0, 0) :: c_X_squareApart_10
def c_X_squareApart_6 : List eg_I := .inl (6, 3, .ifCond .ne (12), 18, 0) :: c_X_squareApart_9
def c_X_squareApart_5 : List eg_I := .inl (5, 1, .baload, 0, 0) :: c_X_squareApart_6
def c_X_squareApart_4 : List eg_I := .inl (4, 1, .iload 2, 0, 0) :: c_X_squareApart_5
def c_X_squareApart_1 : List eg_I := .inl (1, 3, .getfield 109, 8, 3) :: c_X_squareApart_4
def c_X_squareApart_0 : List eg_I := .inl (0, 1, .aload 0, 0, 0) :: c_X_squareApart_1
section
variable {rm : Room} {K : Nat → Nat → Nat → eg_Lo → List Value → List eg_E → Prop} {Q : Option Value → List eg_E → Prop} {kc ks : Nat} {loc : eg_Lo} {st : List Value} {h : List eg_E}
theorem s_X_squareApart_0 {x : Nat} {l : eg_Lo} : wps rm K Q c_X_squareApart_0 kc ks (some (.ref x) :: l) (st) h = wps rm K Q c_X_squareApart_1 kc ks (some (.ref x) :: l) (.ref x :: st) h := gk_aload rfl
theorem s_X_squareApart_1 {x : Nat} : wps rm K Q c_X_squareApart_1 kc ks loc (.ref (x + 1) :: st) h = eg_gf h x 8 3 (fun v => wps rm K Q c_X_squareApart_4 kc ks loc (v :: st) h) := gk_gf
theorem s_X_squareApart_4 {x : Int32} {l0 l1 : Option Value} {l : eg_Lo} : wps rm K Q c_X_squareApart_4 kc ks (l0 :: l1 :: some (.int x) :: l) (st) h = wps rm K Q c_X_squareApart_5 kc ks (l0 :: l1 :: some (.int x) :: l) (.int x :: st) h := gk_iload rfl
theorem s_X_squareApart_5 {x : Nat} {i : Int32} : wps rm K Q c_X_squareApart_5 kc ks loc (.int i :: .ref (x + 1) :: st) h = eg_ba h x i (fun v => wps rm K Q c_X_squareApart_6 kc ks loc (.int v :: st) h) := gk_baload
theorem s_X_squareApart_6 {x : Int32} : wps rm K Q c_X_squareApart_6 kc ks loc (.int x :: st) h = ((¬ x = 0 → K 18 kc ks loc st h) ∧ (x = 0 → wps rm K Q c_X_squareApart_9 kc ks loc (st) h)) := gk_if1_ne
theorem s_X_squareApart_9 {x : Nat} {l0 : Option Value} {l : eg_Lo} : wps rm K Q c_X_squareApart_9 kc ks (l0 :: some (.ref x) :: l) (st) h = wps rm K Q c_X_squareApart_10 kc ks (l0 :: some (.ref x) :: l) (.ref x :: st) h := gk_aload rfl
theorem s_X_squareApart_10 {x : Nat} : wps rm K Q c_X_squareApart_10 kc ks loc (.ref (x + 1) :: st) h = eg_gf h x 8 3 (fun v => wps rm K Q c_X_squareApart_13 kc ks loc (v :: st) h) := gk_gf
theorem s_X_squareApart_13 {x : Int32} {l0 l1 : Option Value} {l : eg_Lo} : wps rm K Q c_X_squareApart_13 kc ks (l0 :: l1 :: some (.int x) :: l) (st) h = wps rm K Q c_X_squareApart_14 kc ks (l0 :: l1 :: some (.int x) :: l) (.int x :: st) h := gk_iload rfl
theorem s_X_squareApart_14 {x : Nat} {i : Int32} : wps rm K Q c_X_squareApart_14 kc ks loc (.int i :: .ref (x + 1) :: st) h = eg_ba h x i (fun v => wps rm K Q c_X_squareApart_15 kc ks loc (.int v :: st) h) := gk_baload
theorem s_X_squareApart_15 {x : Int32} : wps rm K Q c_X_squareApart_15 kc ks loc (.int x :: st) h = ((x = 0 → K 22 kc ks loc st h) ∧ (¬ x = 0 → wps rm K Q c_X_squareApart_18 kc ks loc (st) h)) := gk_if1_eq
theorem s_X_squareApart_18  : wps rm K Q c_X_squareApart_18 kc ks loc (st) h = wps rm K Q c_X_squareApart_21 kc ks loc (.long (-1) :: st) h := gk_lc (by decide)
theorem s_X_squareApart_21 {x : Int64} : wps rm K Q c_X_squareApart_21 kc ks loc ([.long x]) h = (kc = rm.cells ∧ Q (some (.long x)) h) := gk_lret
theorem s_X_squareApart_22 {x : Nat} {l : eg_Lo} : wps rm K Q c_X_squareApart_22 kc ks (some (.ref x) :: l) (st) h = wps rm K Q c_X_squareApart_23 kc ks (some (.ref x) :: l) (.ref x :: st) h := gk_aload rfl
theorem s_X_squareApart_23 {x : Nat} : wps rm K Q c_X_squareApart_23 kc ks loc (.ref (x + 1) :: st) h = eg_gf h x 8 0 (fun v => wps rm K Q c_X_squareApart_26 kc ks loc (v :: st) h) := gk_gf
theorem s_X_squareApart_26 {x : Int32} {l0 l1 : Option Value} {l : eg_Lo} : wps rm K Q c_X_squareApart_26 kc ks (l0 :: l1 :: some (.int x) :: l) (st) h = wps rm K Q c_X_squareApart_27 kc ks (l0 :: l1 :: some (.int x) :: l) (.int x :: st) h := gk_iload rfl
theorem s_X_squareApart_27 {x : Nat} {i : Int32} : wps rm K Q c_X_squareApart_27 kc ks loc (.int i :: .ref (x + 1) :: st) h = eg_ia h x i (fun v => wps rm K Q c_X_squareApart_28 kc ks loc (.int v :: st) h) := gk_iaload
theorem s_X_squareApart_28 {x : Nat} {l0 : Option Value} {l : eg_Lo} : wps rm K Q c_X_squareApart_28 kc ks (l0 :: some (.ref x) :: l) (st) h = wps rm K Q c_X_squareApart_29 kc ks (l0 :: some (.ref x) :: l) (.ref x :: st) h := gk_aload rfl
theorem s_X_squareApart_29 {x : Nat} : wps rm K Q c_X_squareApart_29 kc ks loc (.ref (x + 1) :: st) h = eg_gf h x 8 0 (fun v => wps rm K Q c_X_squareApart_32 kc ks loc (v :: st) h) := gk_gf
theorem s_X_squareApart_32 {x : Int32} {l0 l1 : Option Value} {l : eg_Lo} : wps rm K Q c_X_squareApart_32 kc ks (l0 :: l1 :: some (.int x) :: l) (st) h = wps rm K Q c_X_squareApart_33 kc ks (l0 :: l1 :: some (.int x) :: l) (.int x :: st) h := gk_iload rfl
theorem s_X_squareApart_33 {x : Nat} {i : Int32} : wps rm K Q c_X_squareApart_33 kc ks loc (.int i :: .ref (x + 1) :: st) h = eg_ia h x i (fun v => wps rm K Q c_X_squareApart_34 kc ks loc (.int v :: st) h) := gk_iaload
theorem s_X_squareApart_34 {x y : Int32} : wps rm K Q c_X_squareApart_34 kc ks loc (.int y :: .int x :: st) h = wps rm K Q c_X_squareApart_35 kc ks loc (.int (x - y) :: st) h := gk_isub
theorem s_X_squareApart_35 {x : Int32} : wps rm K Q c_X_squareApart_35 kc ks loc (.int x :: st) h = wps rm K Q c_X_squareApart_36 kc ks loc (.long (x.toInt64) :: st) h := gk_i2l
theorem s_X_squareApart_36 {x : Int64} : wps rm K Q c_X_squareApart_36 kc ks loc (.long x :: st) h = wps rm K Q c_X_squareApart_37 kc ks (eg_set2 loc 3 (.long x)) (st) h := gk_lstore
theorem s_X_squareApart_37 {x : Nat} {l : eg_Lo} : wps rm K Q c_X_squareApart_37 kc ks (some (.ref x) :: l) (st) h = wps rm K Q c_X_squareApart_38 kc ks (some (.ref x) :: l) (.ref x :: st) h := gk_aload rfl
theorem s_X_squareApart_38 {x : Nat} : wps rm K Q c_X_squareApart_38 kc ks loc (.ref (x + 1) :: st) h = eg_gf h x 8 1 (fun v => wps rm K Q c_X_squareApart_41 kc ks loc (v :: st) h) := gk_gf
theorem s_X_squareApart_41 {x : Int32} {l0 l1 : Option Value} {l : eg_Lo} : wps rm K Q c_X_squareApart_41 kc ks (l0 :: l1 :: some (.int x) :: l) (st) h = wps rm K Q c_X_squareApart_42 kc ks (l0 :: l1 :: some (.int x) :: l) (.int x :: st) h := gk_iload rfl
theorem s_X_squareApart_42 {x : Nat} {i : Int32} : wps rm K Q c_X_squareApart_42 kc ks loc (.int i :: .ref (x + 1) :: st) h = eg_ia h x i (fun v => wps rm K Q c_X_squareApart_43 kc ks loc (.int v :: st) h) := gk_iaload
theorem s_X_squareApart_43 {x : Nat} {l0 : Option Value} {l : eg_Lo} : wps rm K Q c_X_squareApart_43 kc ks (l0 :: some (.ref x) :: l) (st) h = wps rm K Q c_X_squareApart_44 kc ks (l0 :: some (.ref x) :: l) (.ref x :: st) h := gk_aload rfl
theorem s_X_squareApart_44 {x : Nat} : wps rm K Q c_X_squareApart_44 kc ks loc (.ref (x + 1) :: st) h = eg_gf h x 8 1 (fun v => wps rm K Q c_X_squareApart_47 kc ks loc (v :: st) h) := gk_gf
theorem s_X_squareApart_47 {x : Int32} {l0 l1 : Option Value} {l : eg_Lo} : wps rm K Q c_X_squareApart_47 kc ks (l0 :: l1 :: some (.int x) :: l) (st) h = wps rm K Q c_X_squareApart_48 kc ks (l0 :: l1 :: some (.int x) :: l) (.int x :: st) h := gk_iload rfl
theorem s_X_squareApart_48 {x : Nat} {i : Int32} : wps rm K Q c_X_squareApart_48 kc ks loc (.int i :: .ref (x + 1) :: st) h = eg_ia h x i (fun v => wps rm K Q c_X_squareApart_49 kc ks loc (.int v :: st) h) := gk_iaload
theorem s_X_squareApart_49 {x y : Int32} : wps rm K Q c_X_squareApart_49 kc ks loc (.int y :: .int x :: st) h = wps rm K Q c_X_squareApart_50 kc ks loc (.int (x - y) :: st) h := gk_isub
theorem s_X_squareApart_50 {x : Int32} : wps rm K Q c_X_squareApart_50 kc ks loc (.int x :: st) h = wps rm K Q c_X_squareApart_51 kc ks loc (.long (x.toInt64) :: st) h := gk_i2l
theorem s_X_squareApart_51 {x : Int64} : wps rm K Q c_X_squareApart_51 kc ks loc (.long x :: st) h = wps rm K Q c_X_squareApart_53 kc ks (eg_set2 loc 5 (.long x)) (st) h := gk_lstore
theorem s_X_squareApart_53 {x : Nat} {l : eg_Lo} : wps rm K Q c_X_squareApart_53 kc ks (some (.ref x) :: l) (st) h = wps rm K Q c_X_squareApart_54 kc ks (some (.ref x) :: l) (.ref x :: st) h := gk_aload rfl
theorem s_X_squareApart_54 {x : Nat} : wps rm K Q c_X_squareApart_54 kc ks loc (.ref (x + 1) :: st) h = eg_gf h x 8 2 (fun v => wps rm K Q c_X_squareApart_57 kc ks loc (v :: st) h) := gk_gf
theorem s_X_squareApart_57 {x : Int32} {l0 l1 : Option Value} {l : eg_Lo} : wps rm K Q c_X_squareApart_57 kc ks (l0 :: l1 :: some (.int x) :: l) (st) h = wps rm K Q c_X_squareApart_58 kc ks (l0 :: l1 :: some (.int x) :: l) (.int x :: st) h := gk_iload rfl
theorem s_X_squareApart_58 {x : Nat} {i : Int32} : wps rm K Q c_X_squareApart_58 kc ks loc (.int i :: .ref (x + 1) :: st) h = eg_ia h x i (fun v => wps rm K Q c_X_squareApart_59 kc ks loc (.int v :: st) h) := gk_iaload
theorem s_X_squareApart_59 {x : Nat} {l0 : Option Value} {l : eg_Lo} : wps rm K Q c_X_squareApart_59 kc ks (l0 :: some (.ref x) :: l) (st) h = wps rm K Q c_X_squareApart_60 kc ks (l0 :: some (.ref x) :: l) (.ref x :: st) h := gk_aload rfl
theorem s_X_squareApart_60 {x : Nat} : wps rm K Q c_X_squareApart_60 kc ks loc (.ref (x + 1) :: st) h = eg_gf h x 8 2 (fun v => wps rm K Q c_X_squareApart_63 kc ks loc (v :: st) h) := gk_gf
theorem s_X_squareApart_63 {x : Int32} {l0 l1 : Option Value} {l : eg_Lo} : wps rm K Q c_X_squareApart_63 kc ks (l0 :: l1 :: some (.int x) :: l) (st) h = wps rm K Q c_X_squareApart_64 kc ks (l0 :: l1 :: some (.int x) :: l) (.int x :: st) h := gk_iload rfl
theorem s_X_squareApart_64 {x : Nat} {i : Int32} : wps rm K Q c_X_squareApart_64 kc ks loc (.int i :: .ref (x + 1) :: st) h = eg_ia h x i (fun v => wps rm K Q c_X_squareApart_65 kc ks loc (.int v :: st) h) := gk_iaload
theorem s_X_squareApart_65 {x y : Int32} : wps rm K Q c_X_squareApart_65 kc ks loc (.int y :: .int x :: st) h = wps rm K Q c_X_squareApart_66 kc ks loc (.int (x - y) :: st) h := gk_isub
theorem s_X_squareApart_66 {x : Int32} : wps rm K Q c_X_squareApart_66 kc ks loc (.int x :: st) h = wps rm K Q c_X_squareApart_67 kc ks loc (.long (x.toInt64) :: st) h := gk_i2l
theorem s_X_squareApart_67 {x : Int64} : wps rm K Q c_X_squareApart_67 kc ks loc (.long x :: st) h = wps rm K Q c_X_squareApart_69 kc ks (eg_set2 loc 7 (.long x)) (st) h := gk_lstore
theorem s_X_squareApart_69 {x : Int64} {l0 l1 l2 : Option Value} {l : eg_Lo} : wps rm K Q c_X_squareApart_69 kc ks (l0 :: l1 :: l2 :: some (.long x) :: l) (st) h = wps rm K Q c_X_squareApart_70 kc ks (l0 :: l1 :: l2 :: some (.long x) :: l) (.long x :: st) h := gk_lload rfl
theorem s_X_squareApart_70 {x : Int64} {l0 l1 l2 : Option Value} {l : eg_Lo} : wps rm K Q c_X_squareApart_70 kc ks (l0 :: l1 :: l2 :: some (.long x) :: l) (st) h = wps rm K Q c_X_squareApart_71 kc ks (l0 :: l1 :: l2 :: some (.long x) :: l) (.long x :: st) h := gk_lload rfl
theorem s_X_squareApart_71 {x y : Int64} : wps rm K Q c_X_squareApart_71 kc ks loc (.long y :: .long x :: st) h = wps rm K Q c_X_squareApart_72 kc ks loc (.long (x * y) :: st) h := gk_lmul
theorem s_X_squareApart_72 {x : Int64} {l0 l1 l2 l3 l4 : Option Value} {l : eg_Lo} : wps rm K Q c_X_squareApart_72 kc ks (l0 :: l1 :: l2 :: l3 :: l4 :: some (.long x) :: l) (st) h = wps rm K Q c_X_squareApart_74 kc ks (l0 :: l1 :: l2 :: l3 :: l4 :: some (.long x) :: l) (.long x :: st) h := gk_lload rfl
theorem s_X_squareApart_74 {x : Int64} {l0 l1 l2 l3 l4 : Option Value} {l : eg_Lo} : wps rm K Q c_X_squareApart_74 kc ks (l0 :: l1 :: l2 :: l3 :: l4 :: some (.long x) :: l) (st) h = wps rm K Q c_X_squareApart_76 kc ks (l0 :: l1 :: l2 :: l3 :: l4 :: some (.long x) :: l) (.long x :: st) h := gk_lload rfl
theorem s_X_squareApart_76 {x y : Int64} : wps rm K Q c_X_squareApart_76 kc ks loc (.long y :: .long x :: st) h = wps rm K Q c_X_squareApart_77 kc ks loc (.long (x * y) :: st) h := gk_lmul
theorem s_X_squareApart_77 {x y : Int64} : wps rm K Q c_X_squareApart_77 kc ks loc (.long y :: .long x :: st) h = wps rm K Q c_X_squareApart_78 kc ks loc (.long (x + y) :: st) h := gk_ladd
theorem s_X_squareApart_78 {x : Int64} {l0 l1 l2 l3 l4 l5 l6 : Option Value} {l : eg_Lo} : wps rm K Q c_X_squareApart_78 kc ks (l0 :: l1 :: l2 :: l3 :: l4 :: l5 :: l6 :: some (.long x) :: l) (st) h = wps rm K Q c_X_squareApart_80 kc ks (l0 :: l1 :: l2 :: l3 :: l4 :: l5 :: l6 :: some (.long x) :: l) (.long x :: st) h := gk_lload rfl
theorem s_X_squareApart_80 {x : Int64} {l0 l1 l2 l3 l4 l5 l6 : Option Value} {l : eg_Lo} : wps rm K Q c_X_squareApart_80 kc ks (l0 :: l1 :: l2 :: l3 :: l4 :: l5 :: l6 :: some (.long x) :: l) (st) h = wps rm K Q c_X_squareApart_82 kc ks (l0 :: l1 :: l2 :: l3 :: l4 :: l5 :: l6 :: some (.long x) :: l) (.long x :: st) h := gk_lload rfl
theorem s_X_squareApart_82 {x y : Int64} : wps rm K Q c_X_squareApart_82 kc ks loc (.long y :: .long x :: st) h = wps rm K Q c_X_squareApart_83 kc ks loc (.long (x * y) :: st) h := gk_lmul
theorem s_X_squareApart_83 {x y : Int64} : wps rm K Q c_X_squareApart_83 kc ks loc (.long y :: .long x :: st) h = wps rm K Q c_X_squareApart_84 kc ks loc (.long (x + y) :: st) h := gk_ladd
theorem s_X_squareApart_84 {x : Int64} : wps rm K Q c_X_squareApart_84 kc ks loc ([.long x]) h = (kc = rm.cells ∧ Q (some (.long x)) h) := gk_lret
def T_X_squareApart : List (Nat × List eg_I) := [(18, c_X_squareApart_18), (22, c_X_squareApart_22)]
theorem j_X_squareApart_18 {R : Nat → Nat → Nat → eg_Lo → List Value → List eg_E → Prop} {f pc0 : Nat} : eg_run rm R Q T_X_squareApart (f + 1) 18 kc ks loc st h = wps rm (eg_run rm R Q T_X_squareApart f) Q c_X_squareApart_18 kc ks loc st h := rfl
theorem j_X_squareApart_22 {R : Nat → Nat → Nat → eg_Lo → List Value → List eg_E → Prop} {f pc0 : Nat} : eg_run rm R Q T_X_squareApart (f + 1) 22 kc ks loc st h = wps rm (eg_run rm R Q T_X_squareApart f) Q c_X_squareApart_22 kc ks loc st h := rfl
end
theorem y_X_squareApart_0 : eg_seq m_X_squareApart 0 c_X_squareApart_0 = true := by decide +kernel
theorem y_X_squareApart_22 : eg_seq m_X_squareApart 22 c_X_squareApart_22 = true := by decide +kernel
theorem q_X_squareApart : ∀ q ∈ T_X_squareApart, eg_seq m_X_squareApart q.1 q.2 = true := by
  intro q hq
  simp only [T_X_squareApart, List.mem_cons, List.not_mem_nil, or_false] at hq
  rcases hq with rfl | rfl
  · exact (eg_seq_drop y_X_squareApart_0 10 : eg_seq m_X_squareApart 18 c_X_squareApart_18 = true)
  · exact y_X_squareApart_22
theorem b_X_squareApart {as : List Value} {h : List eg_E} {Q : Option Value → List eg_E → Prop} (hf : (eg_fl as).length ≤ 9) (hw : wps (eg_rm m_X_squareApart) (eg_run (eg_rm m_X_squareApart) (eg_R m_X_squareApart Q (h.length + 0)) Q T_X_squareApart 4) Q c_X_squareApart_0 0 0 (eg_entry 9 as) [] h) : eg_Runs n_X_squareApart as h Q := eg_begin2 (d := m_X_squareApart) rfl (by decide) y_X_squareApart_0 q_X_squareApart hf hw
/-! ===== X_layPoints ===== -/
def z_X_layPoints_4 : List eg_I := [.inl (4, 0, .nop, 0, 0)]
def c_X_layPoints_95 : List eg_I := .inl (95, 1, .ireturn, 0, 0) :: []
def c_X_layPoints_94 : List eg_I := .inl (94, 1, .iload 2, 0, 0) :: c_X_layPoints_95
def c_X_layPoints_91 : List eg_I := .inl (91, 3, .goto (-87), 4, 0) :: []
def c_X_layPoints_88 : List eg_I := .inl (88, 3, .iinc 3 (3), 0, 0) :: c_X_layPoints_91
def c_X_layPoints_87 : List eg_I := .inl (87, 1, .pop, 0, 0) :: c_X_layPoints_88
def c_X_layPoints_84 : List eg_I := .inr (84, 1, 100, n_Part_addMissed, 0, 8, 0, 0) :: c_X_layPoints_87
def c_X_layPoints_83 : List eg_I := .inl (83, 1, .aload 0, 0, 0) :: c_X_layPoints_84
def c_X_layPoints_80 : List eg_I := .inl (80, 3, .goto (8), 88, 0) :: []
def c_X_layPoints_77 : List eg_I := .inl (77, 3, .iinc 2 (1), 0, 0) :: c_X_layPoints_80
def c_X_layPoints_76 : List eg_I := .inl (76, 1, .pop, 0, 0) :: c_X_layPoints_77
def c_X_layPoints_73 : List eg_I := .inr (73, 1, 96, n_Part_add, 3, 8, 0, 0) :: c_X_layPoints_76
def c_X_layPoints_71 : List eg_I := .inl (71, 2, .iload 6, 0, 0) :: c_X_layPoints_73
def c_X_layPoints_69 : List eg_I := .inl (69, 2, .iload 5, 0, 0) :: c_X_layPoints_71
def c_X_layPoints_67 : List eg_I := .inl (67, 2, .iload 4, 0, 0) :: c_X_layPoints_69
def c_X_layPoints_66 : List eg_I := .inl (66, 1, .aload 0, 0, 0) :: c_X_layPoints_67
def c_X_layPoints_63 : List eg_I := .inl (63, 3, .ifCond .eq (20), 83, 0) :: c_X_layPoints_66
def c_X_layPoints_60 : List eg_I := .inr (60, 0, 80, n_X_isWithin, 3, 11, 0, 0) :: c_X_layPoints_63
def c_X_layPoints_57 : List eg_I := .inl (57, 3, .iconst (300), 0, 0) :: c_X_layPoints_60
def c_X_layPoints_54 : List eg_I := .inl (54, 3, .iconst (-300), 0, 0) :: c_X_layPoints_57
def c_X_layPoints_52 : List eg_I := .inl (52, 2, .iload 6, 0, 0) :: c_X_layPoints_54
def c_X_layPoints_49 : List eg_I := .inl (49, 3, .ifCond .eq (34), 83, 0) :: c_X_layPoints_52
def c_X_layPoints_46 : List eg_I := .inr (46, 0, 76, n_X_isPlace, 2, 11, 0, 0) :: c_X_layPoints_49
def c_X_layPoints_44 : List eg_I := .inl (44, 2, .iload 5, 0, 0) :: c_X_layPoints_46
def c_X_layPoints_42 : List eg_I := .inl (42, 2, .iload 4, 0, 0) :: c_X_layPoints_44
def c_X_layPoints_40 : List eg_I := .inl (40, 2, .istore 6, 0, 0) :: c_X_layPoints_42
def c_X_layPoints_39 : List eg_I := .inl (39, 1, .iaload, 0, 0) :: c_X_layPoints_40
def c_X_layPoints_38 : List eg_I := .inl (38, 1, .iadd, 0, 0) :: c_X_layPoints_39
def c_X_layPoints_37 : List eg_I := .inl (37, 1, .iconst (2), 0, 0) :: c_X_layPoints_38
def c_X_layPoints_36 : List eg_I := .inl (36, 1, .iload 3, 0, 0) :: c_X_layPoints_37
def c_X_layPoints_33 : List eg_I := .inl (33, 3, .getfield 177, 9, 0) :: c_X_layPoints_36
def c_X_layPoints_32 : List eg_I := .inl (32, 1, .aload 1, 0, 0) :: c_X_layPoints_33
def c_X_layPoints_30 : List eg_I := .inl (30, 2, .istore 5, 0, 0) :: c_X_layPoints_32
def c_X_layPoints_29 : List eg_I := .inl (29, 1, .iaload, 0, 0) :: c_X_layPoints_30
def c_X_layPoints_28 : List eg_I := .inl (28, 1, .iadd, 0, 0) :: c_X_layPoints_29
def c_X_layPoints_27 : List eg_I := .inl (27, 1, .iconst (1), 0, 0) :: c_X_layPoints_28
def c_X_layPoints_26 : List eg_I := .inl (26, 1, .iload 3, 0, 0) :: c_X_layPoints_27
def c_X_layPoints_23 : List eg_I := .inl (23, 3, .getfield 177, 9, 0) :: c_X_layPoints_26
def c_X_layPoints_22 : List eg_I := .inl (22, 1, .aload 1, 0, 0) :: c_X_layPoints_23
def c_X_layPoints_20 : List eg_I := .inl (20, 2, .istore 4, 0, 0) :: c_X_layPoints_22
def c_X_layPoints_19 : List eg_I := .inl (19, 1, .iaload, 0, 0) :: c_X_layPoints_20
def c_X_layPoints_18 : List eg_I := .inl (18, 1, .iload 3, 0, 0) :: c_X_layPoints_19
def c_X_layPoints_15 : List eg_I := .inl (15, 3, .getfield 177, 9, 0) :: c_X_layPoints_18
def c_X_layPoints_14 : List eg_I := .inl (14, 1, .aload 1, 0, 0) :: c_X_layPoints_15
def c_X_layPoints_11 : List eg_I := .inl (11, 3, .if_icmp .ge (83), 94, 0) :: c_X_layPoints_14
def c_X_layPoints_8 : List eg_I := .inl (8, 3, .getfield 174, 9, 2) :: c_X_layPoints_11
def c_X_layPoints_7 : List eg_I := .inl (7, 1, .aload 1, 0, 0) :: c_X_layPoints_8
def c_X_layPoints_6 : List eg_I := .inl (6, 1, .iadd, 0, 0) :: c_X_layPoints_7
def c_X_layPoints_5 : List eg_I := .inl (5, 1, .iconst (2), 0, 0) :: c_X_layPoints_6
def c_X_layPoints_4 : List eg_I := .inl (4, 1, .iload 3, 0, 0) :: c_X_layPoints_5
def c_X_layPoints_3 : List eg_I := .inl (3, 1, .istore 3, 0, 0) :: z_X_layPoints_4
def c_X_layPoints_2 : List eg_I := .inl (2, 1, .iconst (0), 0, 0) :: c_X_layPoints_3
def c_X_layPoints_1 : List eg_I := .inl (1, 1, .istore 2, 0, 0) :: c_X_layPoints_2
def c_X_layPoints_0 : List eg_I := .inl (0, 1, .iconst (0), 0, 0) :: c_X_layPoints_1
section
variable {rm : Room} {K : Nat → Nat → Nat → eg_Lo → List Value → List eg_E → Prop} {Q : Option Value → List eg_E → Prop} {kc ks : Nat} {loc : eg_Lo} {st : List Value} {h : List eg_E}
theorem s_X_layPoints_0  : wps rm K Q c_X_layPoints_0 kc ks loc (st) h = wps rm K Q c_X_layPoints_1 kc ks loc (.int (0) :: st) h := gk_ic (by decide)
theorem s_X_layPoints_1 {x : Int32} : wps rm K Q c_X_layPoints_1 kc ks loc (.int x :: st) h = wps rm K Q c_X_layPoints_2 kc ks (eg_set1 loc 2 (.int x)) (st) h := gk_istore
theorem s_X_layPoints_2  : wps rm K Q c_X_layPoints_2 kc ks loc (st) h = wps rm K Q c_X_layPoints_3 kc ks loc (.int (0) :: st) h := gk_ic (by decide)
theorem s_X_layPoints_3 {x : Int32} : wps rm K Q c_X_layPoints_3 kc ks loc (.int x :: st) h = wps rm K Q z_X_layPoints_4 kc ks (eg_set1 loc 3 (.int x)) (st) h := gk_istore
theorem s_X_layPoints_4 {x : Int32} {l0 l1 l2 : Option Value} {l : eg_Lo} : wps rm K Q c_X_layPoints_4 kc ks (l0 :: l1 :: l2 :: some (.int x) :: l) (st) h = wps rm K Q c_X_layPoints_5 kc ks (l0 :: l1 :: l2 :: some (.int x) :: l) (.int x :: st) h := gk_iload rfl
theorem s_X_layPoints_5  : wps rm K Q c_X_layPoints_5 kc ks loc (st) h = wps rm K Q c_X_layPoints_6 kc ks loc (.int (2) :: st) h := gk_ic (by decide)
theorem s_X_layPoints_6 {x y : Int32} : wps rm K Q c_X_layPoints_6 kc ks loc (.int y :: .int x :: st) h = wps rm K Q c_X_layPoints_7 kc ks loc (.int (x + y) :: st) h := gk_iadd
theorem s_X_layPoints_7 {x : Nat} {l0 : Option Value} {l : eg_Lo} : wps rm K Q c_X_layPoints_7 kc ks (l0 :: some (.ref x) :: l) (st) h = wps rm K Q c_X_layPoints_8 kc ks (l0 :: some (.ref x) :: l) (.ref x :: st) h := gk_aload rfl
theorem s_X_layPoints_8 {x : Nat} : wps rm K Q c_X_layPoints_8 kc ks loc (.ref (x + 1) :: st) h = eg_gf h x 9 2 (fun v => wps rm K Q c_X_layPoints_11 kc ks loc (v :: st) h) := gk_gf
theorem s_X_layPoints_11 {x y : Int32} : wps rm K Q c_X_layPoints_11 kc ks loc (.int y :: .int x :: st) h = ((y ≤ x → K 94 kc ks loc st h) ∧ (¬ y ≤ x → wps rm K Q c_X_layPoints_14 kc ks loc (st) h)) := gk_if2_ge
theorem s_X_layPoints_14 {x : Nat} {l0 : Option Value} {l : eg_Lo} : wps rm K Q c_X_layPoints_14 kc ks (l0 :: some (.ref x) :: l) (st) h = wps rm K Q c_X_layPoints_15 kc ks (l0 :: some (.ref x) :: l) (.ref x :: st) h := gk_aload rfl
theorem s_X_layPoints_15 {x : Nat} : wps rm K Q c_X_layPoints_15 kc ks loc (.ref (x + 1) :: st) h = eg_gf h x 9 0 (fun v => wps rm K Q c_X_layPoints_18 kc ks loc (v :: st) h) := gk_gf
theorem s_X_layPoints_18 {x : Int32} {l0 l1 l2 : Option Value} {l : eg_Lo} : wps rm K Q c_X_layPoints_18 kc ks (l0 :: l1 :: l2 :: some (.int x) :: l) (st) h = wps rm K Q c_X_layPoints_19 kc ks (l0 :: l1 :: l2 :: some (.int x) :: l) (.int x :: st) h := gk_iload rfl
theorem s_X_layPoints_19 {x : Nat} {i : Int32} : wps rm K Q c_X_layPoints_19 kc ks loc (.int i :: .ref (x + 1) :: st) h = eg_ia h x i (fun v => wps rm K Q c_X_layPoints_20 kc ks loc (.int v :: st) h) := gk_iaload
theorem s_X_layPoints_20 {x : Int32} : wps rm K Q c_X_layPoints_20 kc ks loc (.int x :: st) h = wps rm K Q c_X_layPoints_22 kc ks (eg_set1 loc 4 (.int x)) (st) h := gk_istore
theorem s_X_layPoints_22 {x : Nat} {l0 : Option Value} {l : eg_Lo} : wps rm K Q c_X_layPoints_22 kc ks (l0 :: some (.ref x) :: l) (st) h = wps rm K Q c_X_layPoints_23 kc ks (l0 :: some (.ref x) :: l) (.ref x :: st) h := gk_aload rfl
theorem s_X_layPoints_23 {x : Nat} : wps rm K Q c_X_layPoints_23 kc ks loc (.ref (x + 1) :: st) h = eg_gf h x 9 0 (fun v => wps rm K Q c_X_layPoints_26 kc ks loc (v :: st) h) := gk_gf
theorem s_X_layPoints_26 {x : Int32} {l0 l1 l2 : Option Value} {l : eg_Lo} : wps rm K Q c_X_layPoints_26 kc ks (l0 :: l1 :: l2 :: some (.int x) :: l) (st) h = wps rm K Q c_X_layPoints_27 kc ks (l0 :: l1 :: l2 :: some (.int x) :: l) (.int x :: st) h := gk_iload rfl
theorem s_X_layPoints_27  : wps rm K Q c_X_layPoints_27 kc ks loc (st) h = wps rm K Q c_X_layPoints_28 kc ks loc (.int (1) :: st) h := gk_ic (by decide)
theorem s_X_layPoints_28 {x y : Int32} : wps rm K Q c_X_layPoints_28 kc ks loc (.int y :: .int x :: st) h = wps rm K Q c_X_layPoints_29 kc ks loc (.int (x + y) :: st) h := gk_iadd
theorem s_X_layPoints_29 {x : Nat} {i : Int32} : wps rm K Q c_X_layPoints_29 kc ks loc (.int i :: .ref (x + 1) :: st) h = eg_ia h x i (fun v => wps rm K Q c_X_layPoints_30 kc ks loc (.int v :: st) h) := gk_iaload
theorem s_X_layPoints_30 {x : Int32} : wps rm K Q c_X_layPoints_30 kc ks loc (.int x :: st) h = wps rm K Q c_X_layPoints_32 kc ks (eg_set1 loc 5 (.int x)) (st) h := gk_istore
theorem s_X_layPoints_32 {x : Nat} {l0 : Option Value} {l : eg_Lo} : wps rm K Q c_X_layPoints_32 kc ks (l0 :: some (.ref x) :: l) (st) h = wps rm K Q c_X_layPoints_33 kc ks (l0 :: some (.ref x) :: l) (.ref x :: st) h := gk_aload rfl
theorem s_X_layPoints_33 {x : Nat} : wps rm K Q c_X_layPoints_33 kc ks loc (.ref (x + 1) :: st) h = eg_gf h x 9 0 (fun v => wps rm K Q c_X_layPoints_36 kc ks loc (v :: st) h) := gk_gf
theorem s_X_layPoints_36 {x : Int32} {l0 l1 l2 : Option Value} {l : eg_Lo} : wps rm K Q c_X_layPoints_36 kc ks (l0 :: l1 :: l2 :: some (.int x) :: l) (st) h = wps rm K Q c_X_layPoints_37 kc ks (l0 :: l1 :: l2 :: some (.int x) :: l) (.int x :: st) h := gk_iload rfl
theorem s_X_layPoints_37  : wps rm K Q c_X_layPoints_37 kc ks loc (st) h = wps rm K Q c_X_layPoints_38 kc ks loc (.int (2) :: st) h := gk_ic (by decide)
theorem s_X_layPoints_38 {x y : Int32} : wps rm K Q c_X_layPoints_38 kc ks loc (.int y :: .int x :: st) h = wps rm K Q c_X_layPoints_39 kc ks loc (.int (x + y) :: st) h := gk_iadd
theorem s_X_layPoints_39 {x : Nat} {i : Int32} : wps rm K Q c_X_layPoints_39 kc ks loc (.int i :: .ref (x + 1) :: st) h = eg_ia h x i (fun v => wps rm K Q c_X_layPoints_40 kc ks loc (.int v :: st) h) := gk_iaload
theorem s_X_layPoints_40 {x : Int32} : wps rm K Q c_X_layPoints_40 kc ks loc (.int x :: st) h = wps rm K Q c_X_layPoints_42 kc ks (eg_set1 loc 6 (.int x)) (st) h := gk_istore
theorem s_X_layPoints_42 {x : Int32} {l0 l1 l2 l3 : Option Value} {l : eg_Lo} : wps rm K Q c_X_layPoints_42 kc ks (l0 :: l1 :: l2 :: l3 :: some (.int x) :: l) (st) h = wps rm K Q c_X_layPoints_44 kc ks (l0 :: l1 :: l2 :: l3 :: some (.int x) :: l) (.int x :: st) h := gk_iload rfl
theorem s_X_layPoints_44 {x : Int32} {l0 l1 l2 l3 l4 : Option Value} {l : eg_Lo} : wps rm K Q c_X_layPoints_44 kc ks (l0 :: l1 :: l2 :: l3 :: l4 :: some (.int x) :: l) (st) h = wps rm K Q c_X_layPoints_46 kc ks (l0 :: l1 :: l2 :: l3 :: l4 :: some (.int x) :: l) (.int x :: st) h := gk_iload rfl
theorem s_X_layPoints_46  {a1 : Value} {a2 : Value} : wps rm K Q c_X_layPoints_46 kc ks loc (a2 :: a1 :: st) h = (st.length ≤ 4 ∧ eg_Cs n_X_isPlace [a1, a2] h (fun v h9 => wps rm K Q c_X_layPoints_49 kc ks loc (v.toList ++ st) h9)) := eg_c0_2
theorem s_X_layPoints_49 {x : Int32} : wps rm K Q c_X_layPoints_49 kc ks loc (.int x :: st) h = ((x = 0 → K 83 kc ks loc st h) ∧ (¬ x = 0 → wps rm K Q c_X_layPoints_52 kc ks loc (st) h)) := gk_if1_eq
theorem s_X_layPoints_52 {x : Int32} {l0 l1 l2 l3 l4 l5 : Option Value} {l : eg_Lo} : wps rm K Q c_X_layPoints_52 kc ks (l0 :: l1 :: l2 :: l3 :: l4 :: l5 :: some (.int x) :: l) (st) h = wps rm K Q c_X_layPoints_54 kc ks (l0 :: l1 :: l2 :: l3 :: l4 :: l5 :: some (.int x) :: l) (.int x :: st) h := gk_iload rfl
theorem s_X_layPoints_54  : wps rm K Q c_X_layPoints_54 kc ks loc (st) h = wps rm K Q c_X_layPoints_57 kc ks loc (.int (-300) :: st) h := gk_ic (by decide)
theorem s_X_layPoints_57  : wps rm K Q c_X_layPoints_57 kc ks loc (st) h = wps rm K Q c_X_layPoints_60 kc ks loc (.int (300) :: st) h := gk_ic (by decide)
theorem s_X_layPoints_60  {a1 : Value} {a2 : Value} {a3 : Value} : wps rm K Q c_X_layPoints_60 kc ks loc (a3 :: a2 :: a1 :: st) h = (st.length ≤ 4 ∧ eg_Cs n_X_isWithin [a1, a2, a3] h (fun v h9 => wps rm K Q c_X_layPoints_63 kc ks loc (v.toList ++ st) h9)) := eg_c0_3
theorem s_X_layPoints_63 {x : Int32} : wps rm K Q c_X_layPoints_63 kc ks loc (.int x :: st) h = ((x = 0 → K 83 kc ks loc st h) ∧ (¬ x = 0 → wps rm K Q c_X_layPoints_66 kc ks loc (st) h)) := gk_if1_eq
theorem s_X_layPoints_66 {x : Nat} {l : eg_Lo} : wps rm K Q c_X_layPoints_66 kc ks (some (.ref x) :: l) (st) h = wps rm K Q c_X_layPoints_67 kc ks (some (.ref x) :: l) (.ref x :: st) h := gk_aload rfl
theorem s_X_layPoints_67 {x : Int32} {l0 l1 l2 l3 : Option Value} {l : eg_Lo} : wps rm K Q c_X_layPoints_67 kc ks (l0 :: l1 :: l2 :: l3 :: some (.int x) :: l) (st) h = wps rm K Q c_X_layPoints_69 kc ks (l0 :: l1 :: l2 :: l3 :: some (.int x) :: l) (.int x :: st) h := gk_iload rfl
theorem s_X_layPoints_69 {x : Int32} {l0 l1 l2 l3 l4 : Option Value} {l : eg_Lo} : wps rm K Q c_X_layPoints_69 kc ks (l0 :: l1 :: l2 :: l3 :: l4 :: some (.int x) :: l) (st) h = wps rm K Q c_X_layPoints_71 kc ks (l0 :: l1 :: l2 :: l3 :: l4 :: some (.int x) :: l) (.int x :: st) h := gk_iload rfl
theorem s_X_layPoints_71 {x : Int32} {l0 l1 l2 l3 l4 l5 : Option Value} {l : eg_Lo} : wps rm K Q c_X_layPoints_71 kc ks (l0 :: l1 :: l2 :: l3 :: l4 :: l5 :: some (.int x) :: l) (st) h = wps rm K Q c_X_layPoints_73 kc ks (l0 :: l1 :: l2 :: l3 :: l4 :: l5 :: some (.int x) :: l) (.int x :: st) h := gk_iload rfl
theorem s_X_layPoints_73  {a1 : Value} {a2 : Value} {a3 : Value} {x : Nat} : wps rm K Q c_X_layPoints_73 kc ks loc (a3 :: a2 :: a1 :: .ref (x + 1) :: st) h = (eg_cls h x 8 ∧ st.length ≤ 4 ∧ eg_Cs n_Part_add (.ref (x + 1) :: [a1, a2, a3]) h (fun v h9 => wps rm K Q c_X_layPoints_76 kc ks loc (v.toList ++ st) h9)) := eg_c1_3
theorem s_X_layPoints_76 {x : Int32} : wps rm K Q c_X_layPoints_76 kc ks loc (.int x :: st) h = wps rm K Q c_X_layPoints_77 kc ks loc (st) h := gk_pop
theorem s_X_layPoints_77 {x : Int32} {l0 l1 : Option Value} {lz : eg_Lo} : wps rm K Q c_X_layPoints_77 kc ks (l0 :: l1 :: some (.int x) :: lz) (st) h = wps rm K Q c_X_layPoints_80 kc ks (eg_set1 (l0 :: l1 :: some (.int x) :: lz) 2 (.int (x + (1)))) (st) h := gk_iinc rfl (by decide)
theorem s_X_layPoints_80  : wps rm K Q c_X_layPoints_80 kc ks loc (st) h = K 88 kc ks loc st h := gk_goto
theorem s_X_layPoints_83 {x : Nat} {l : eg_Lo} : wps rm K Q c_X_layPoints_83 kc ks (some (.ref x) :: l) (st) h = wps rm K Q c_X_layPoints_84 kc ks (some (.ref x) :: l) (.ref x :: st) h := gk_aload rfl
theorem s_X_layPoints_84  {x : Nat} : wps rm K Q c_X_layPoints_84 kc ks loc (.ref (x + 1) :: st) h = (eg_cls h x 8 ∧ st.length ≤ 4 ∧ eg_Cs n_Part_addMissed (.ref (x + 1) :: []) h (fun v h9 => wps rm K Q c_X_layPoints_87 kc ks loc (v.toList ++ st) h9)) := eg_c1_0
theorem s_X_layPoints_87 {x : Int32} : wps rm K Q c_X_layPoints_87 kc ks loc (.int x :: st) h = wps rm K Q c_X_layPoints_88 kc ks loc (st) h := gk_pop
theorem s_X_layPoints_88 {x : Int32} {l0 l1 l2 : Option Value} {lz : eg_Lo} : wps rm K Q c_X_layPoints_88 kc ks (l0 :: l1 :: l2 :: some (.int x) :: lz) (st) h = wps rm K Q c_X_layPoints_91 kc ks (eg_set1 (l0 :: l1 :: l2 :: some (.int x) :: lz) 3 (.int (x + (3)))) (st) h := gk_iinc rfl (by decide)
theorem s_X_layPoints_91  : wps rm K Q c_X_layPoints_91 kc ks loc (st) h = K 4 kc ks loc st h := gk_goto
theorem s_X_layPoints_94 {x : Int32} {l0 l1 : Option Value} {l : eg_Lo} : wps rm K Q c_X_layPoints_94 kc ks (l0 :: l1 :: some (.int x) :: l) (st) h = wps rm K Q c_X_layPoints_95 kc ks (l0 :: l1 :: some (.int x) :: l) (.int x :: st) h := gk_iload rfl
theorem s_X_layPoints_95 {x : Int32} : wps rm K Q c_X_layPoints_95 kc ks loc ([.int x]) h = (kc = rm.cells ∧ (0 = 1 → x = 0 ∨ x = 1) ∧ Q (some (.int x)) h) := gk_iret
theorem sz_X_layPoints_4 : wps rm K Q z_X_layPoints_4 kc ks loc st h = K 4 kc ks loc st h := gk_nop
def T_X_layPoints : List (Nat × List eg_I) := [(83, c_X_layPoints_83), (88, c_X_layPoints_88), (94, c_X_layPoints_94)]
theorem j_X_layPoints_83 {R : Nat → Nat → Nat → eg_Lo → List Value → List eg_E → Prop} {f pc0 : Nat} : eg_run rm R Q T_X_layPoints (f + 1) 83 kc ks loc st h = wps rm (eg_run rm R Q T_X_layPoints f) Q c_X_layPoints_83 kc ks loc st h := rfl
theorem j_X_layPoints_88 {R : Nat → Nat → Nat → eg_Lo → List Value → List eg_E → Prop} {f pc0 : Nat} : eg_run rm R Q T_X_layPoints (f + 1) 88 kc ks loc st h = wps rm (eg_run rm R Q T_X_layPoints f) Q c_X_layPoints_88 kc ks loc st h := rfl
theorem j_X_layPoints_94 {R : Nat → Nat → Nat → eg_Lo → List Value → List eg_E → Prop} {f pc0 : Nat} : eg_run rm R Q T_X_layPoints (f + 1) 94 kc ks loc st h = wps rm (eg_run rm R Q T_X_layPoints f) Q c_X_layPoints_94 kc ks loc st h := rfl
theorem j_X_layPoints_4 {R : Nat → Nat → Nat → eg_Lo → List Value → List eg_E → Prop} {f pc0 : Nat} : eg_run rm R Q T_X_layPoints (f + 1) 4 kc ks loc st h = R 4 kc ks loc st h := rfl
end
theorem y_X_layPoints_0 : eg_seq m_X_layPoints 0 c_X_layPoints_0 = true := by decide +kernel
theorem y_X_layPoints_4 : eg_seq m_X_layPoints 4 c_X_layPoints_4 = true := by decide +kernel
theorem y_X_layPoints_83 : eg_seq m_X_layPoints 83 c_X_layPoints_83 = true := by decide +kernel
theorem y_X_layPoints_94 : eg_seq m_X_layPoints 94 c_X_layPoints_94 = true := by decide +kernel
theorem q_X_layPoints : ∀ q ∈ T_X_layPoints, eg_seq m_X_layPoints q.1 q.2 = true := by
  intro q hq
  simp only [T_X_layPoints, List.mem_cons, List.not_mem_nil, or_false] at hq
  rcases hq with rfl | rfl | rfl
  · exact y_X_layPoints_83
  · exact (eg_seq_drop y_X_layPoints_83 3 : eg_seq m_X_layPoints 88 c_X_layPoints_88 = true)
  · exact y_X_layPoints_94
theorem b_X_layPoints {as : List Value} {h : List eg_E} {Q : Option Value → List eg_E → Prop} (hf : (eg_fl as).length ≤ 7) (hw : wps (eg_rm m_X_layPoints) (eg_run (eg_rm m_X_layPoints) (eg_R m_X_layPoints Q (h.length + 0)) Q T_X_layPoints 5) Q c_X_layPoints_0 0 0 (eg_entry 7 as) [] h) : eg_Runs n_X_layPoints as h Q := eg_begin2 (d := m_X_layPoints) rfl (by decide) y_X_layPoints_0 q_X_layPoints hf hw
theorem p_X_layPoints_4 {Q : Option Value → List eg_E → Prop} {n0 kc ks : Nat} {loc : eg_Lo} {st : List Value} {h : List eg_E} (hw : wps (eg_rm m_X_layPoints) (eg_run (eg_rm m_X_layPoints) (eg_R m_X_layPoints Q n0) Q T_X_layPoints 5) Q c_X_layPoints_4 kc ks loc st h) : eg_R m_X_layPoints Q n0 4 kc ks loc st h := eg_go2 y_X_layPoints_4 q_X_layPoints hw
/-! ===== X_outlineFinding ===== -/
def c_X_outlineFinding_49 : List eg_I := .inl (49, 1, .lreturn, 0, 0) :: []
def c_X_outlineFinding_48 : List eg_I := .inl (48, 1, .sipush (0), 0, 0) :: c_X_outlineFinding_49
def c_X_outlineFinding_45 : List eg_I := .inl (45, 3, .goto (4), 49, 0) :: []
def c_X_outlineFinding_42 : List eg_I := .inl (42, 3, .sipush (-1000000000000000006), 158, 0) :: c_X_outlineFinding_45
def c_X_outlineFinding_39 : List eg_I := .inl (39, 3, .if_icmp .ge (9), 48, 0) :: c_X_outlineFinding_42
def c_X_outlineFinding_38 : List eg_I := .inl (38, 1, .iconst (2), 0, 0) :: c_X_outlineFinding_39
def c_X_outlineFinding_35 : List eg_I := .inl (35, 3, .getfield 282, 7, 1) :: c_X_outlineFinding_38
def c_X_outlineFinding_32 : List eg_I := .inl (32, 3, .getfield 58, 11, 7) :: c_X_outlineFinding_35
def c_X_outlineFinding_31 : List eg_I := .inl (31, 1, .aload 0, 0, 0) :: c_X_outlineFinding_32
def c_X_outlineFinding_30 : List eg_I := .inl (30, 1, .lreturn, 0, 0) :: []
def c_X_outlineFinding_27 : List eg_I := .inl (27, 3, .sipush (-1000000000000000007), 113, 0) :: c_X_outlineFinding_30
def c_X_outlineFinding_24 : List eg_I := .inl (24, 3, .ifCond .eq (7), 31, 0) :: c_X_outlineFinding_27
def c_X_outlineFinding_23 : List eg_I := .inl (23, 1, .baload, 0, 0) :: c_X_outlineFinding_24
def c_X_outlineFinding_22 : List eg_I := .inl (22, 1, .iload 2, 0, 0) :: c_X_outlineFinding_23
def c_X_outlineFinding_19 : List eg_I := .inl (19, 3, .getfield 109, 8, 3) :: c_X_outlineFinding_22
def c_X_outlineFinding_18 : List eg_I := .inl (18, 1, .aaload, 0, 0) :: c_X_outlineFinding_19
def c_X_outlineFinding_17 : List eg_I := .inl (17, 1, .iload 1, 0, 0) :: c_X_outlineFinding_18
def c_X_outlineFinding_14 : List eg_I := .inl (14, 3, .getfield 11, 11, 0) :: c_X_outlineFinding_17
def c_X_outlineFinding_13 : List eg_I := .inl (13, 1, .aload 0, 0, 0) :: c_X_outlineFinding_14
def c_X_outlineFinding_12 : List eg_I := .inl (12, 1, .lreturn, 0, 0) :: []
def c_X_outlineFinding_9 : List eg_I := .inl (9, 3, .sipush (-1000000000000000001), 84, 0) :: c_X_outlineFinding_12
def c_X_outlineFinding_6 : List eg_I := .inl (6, 3, .ifCond .ne (7), 13, 0) :: c_X_outlineFinding_9
def c_X_outlineFinding_3 : List eg_I := .inr (3, 1, 106, n_X_isPoint, 2, 11, 0, 0) :: c_X_outlineFinding_6
def c_X_outlineFinding_2 : List eg_I := .inl (2, 1, .iload 2, 0, 0) :: c_X_outlineFinding_3
def c_X_outlineFinding_1 : List eg_I := .inl (1, 1, .iload 1, 0, 0) :: c_X_outlineFinding_2
def c_X_outlineFinding_0 : List eg_I := .inl (0, 1, .aload 0, 0, 0) :: c_X_outlineFinding_1
section
variable {rm : Room} {K : Nat → Nat → Nat → eg_Lo → List Value → List eg_E → Prop} {Q : Option Value → List eg_E → Prop} {kc ks : Nat} {loc : eg_Lo} {st : List Value} {h : List eg_E}
theorem s_X_outlineFinding_0 {x : Nat} {l : eg_Lo} : wps rm K Q c_X_outlineFinding_0 kc ks (some (.ref x) :: l) (st) h = wps rm K Q c_X_outlineFinding_1 kc ks (some (.ref x) :: l) (.ref x :: st) h := gk_aload rfl
theorem s_X_outlineFinding_1 {x : Int32} {l0 : Option Value} {l : eg_Lo} : wps rm K Q c_X_outlineFinding_1 kc ks (l0 :: some (.int x) :: l) (st) h = wps rm K Q c_X_outlineFinding_2 kc ks (l0 :: some (.int x) :: l) (.int x :: st) h := gk_iload rfl
theorem s_X_outlineFinding_2 {x : Int32} {l0 l1 : Option Value} {l : eg_Lo} : wps rm K Q c_X_outlineFinding_2 kc ks (l0 :: l1 :: some (.int x) :: l) (st) h = wps rm K Q c_X_outlineFinding_3 kc ks (l0 :: l1 :: some (.int x) :: l) (.int x :: st) h := gk_iload rfl
theorem s_X_outlineFinding_3  {a1 : Value} {a2 : Value} {x : Nat} : wps rm K Q c_X_outlineFinding_3 kc ks loc (a2 :: a1 :: .ref (x + 1) :: st) h = (eg_cls h x 11 ∧ st.length ≤ 4 ∧ eg_Cs n_X_isPoint (.ref (x + 1) :: [a1, a2]) h (fun v h9 => wps rm K Q c_X_outlineFinding_6 kc ks loc (v.toList ++ st) h9)) := eg_c1_2
theorem s_X_outlineFinding_6 {x : Int32} : wps rm K Q c_X_outlineFinding_6 kc ks loc (.int x :: st) h = ((¬ x = 0 → K 13 kc ks loc st h) ∧ (x = 0 → wps rm K Q c_X_outlineFinding_9 kc ks loc (st) h)) := gk_if1_ne
theorem s_X_outlineFinding_9  : wps rm K Q c_X_outlineFinding_9 kc ks loc (st) h = wps rm K Q c_X_outlineFinding_12 kc ks loc (.long (-1000000000000000001) :: st) h := gk_lc (by decide)
theorem s_X_outlineFinding_12 {x : Int64} : wps rm K Q c_X_outlineFinding_12 kc ks loc ([.long x]) h = (kc = rm.cells ∧ Q (some (.long x)) h) := gk_lret
theorem s_X_outlineFinding_13 {x : Nat} {l : eg_Lo} : wps rm K Q c_X_outlineFinding_13 kc ks (some (.ref x) :: l) (st) h = wps rm K Q c_X_outlineFinding_14 kc ks (some (.ref x) :: l) (.ref x :: st) h := gk_aload rfl
theorem s_X_outlineFinding_14 {x : Nat} : wps rm K Q c_X_outlineFinding_14 kc ks loc (.ref (x + 1) :: st) h = eg_gf h x 11 0 (fun v => wps rm K Q c_X_outlineFinding_17 kc ks loc (v :: st) h) := gk_gf
theorem s_X_outlineFinding_17 {x : Int32} {l0 : Option Value} {l : eg_Lo} : wps rm K Q c_X_outlineFinding_17 kc ks (l0 :: some (.int x) :: l) (st) h = wps rm K Q c_X_outlineFinding_18 kc ks (l0 :: some (.int x) :: l) (.int x :: st) h := gk_iload rfl
theorem s_X_outlineFinding_18 {x : Nat} {i : Int32} : wps rm K Q c_X_outlineFinding_18 kc ks loc (.int i :: .ref (x + 1) :: st) h = eg_aa h x i (fun v => wps rm K Q c_X_outlineFinding_19 kc ks loc (v :: st) h) := gk_aaload
theorem s_X_outlineFinding_19 {x : Nat} : wps rm K Q c_X_outlineFinding_19 kc ks loc (.ref (x + 1) :: st) h = eg_gf h x 8 3 (fun v => wps rm K Q c_X_outlineFinding_22 kc ks loc (v :: st) h) := gk_gf
theorem s_X_outlineFinding_22 {x : Int32} {l0 l1 : Option Value} {l : eg_Lo} : wps rm K Q c_X_outlineFinding_22 kc ks (l0 :: l1 :: some (.int x) :: l) (st) h = wps rm K Q c_X_outlineFinding_23 kc ks (l0 :: l1 :: some (.int x) :: l) (.int x :: st) h := gk_iload rfl
theorem s_X_outlineFinding_23 {x : Nat} {i : Int32} : wps rm K Q c_X_outlineFinding_23 kc ks loc (.int i :: .ref (x + 1) :: st) h = eg_ba h x i (fun v => wps rm K Q c_X_outlineFinding_24 kc ks loc (.int v :: st) h) := gk_baload
theorem s_X_outlineFinding_24 {x : Int32} : wps rm K Q c_X_outlineFinding_24 kc ks loc (.int x :: st) h = ((x = 0 → K 31 kc ks loc st h) ∧ (¬ x = 0 → wps rm K Q c_X_outlineFinding_27 kc ks loc (st) h)) := gk_if1_eq
theorem s_X_outlineFinding_27  : wps rm K Q c_X_outlineFinding_27 kc ks loc (st) h = wps rm K Q c_X_outlineFinding_30 kc ks loc (.long (-1000000000000000007) :: st) h := gk_lc (by decide)
theorem s_X_outlineFinding_30 {x : Int64} : wps rm K Q c_X_outlineFinding_30 kc ks loc ([.long x]) h = (kc = rm.cells ∧ Q (some (.long x)) h) := gk_lret
theorem s_X_outlineFinding_31 {x : Nat} {l : eg_Lo} : wps rm K Q c_X_outlineFinding_31 kc ks (some (.ref x) :: l) (st) h = wps rm K Q c_X_outlineFinding_32 kc ks (some (.ref x) :: l) (.ref x :: st) h := gk_aload rfl
theorem s_X_outlineFinding_32 {x : Nat} : wps rm K Q c_X_outlineFinding_32 kc ks loc (.ref (x + 1) :: st) h = eg_gf h x 11 7 (fun v => wps rm K Q c_X_outlineFinding_35 kc ks loc (v :: st) h) := gk_gf
theorem s_X_outlineFinding_35 {x : Nat} : wps rm K Q c_X_outlineFinding_35 kc ks loc (.ref (x + 1) :: st) h = eg_gf h x 7 1 (fun v => wps rm K Q c_X_outlineFinding_38 kc ks loc (v :: st) h) := gk_gf
theorem s_X_outlineFinding_38  : wps rm K Q c_X_outlineFinding_38 kc ks loc (st) h = wps rm K Q c_X_outlineFinding_39 kc ks loc (.int (2) :: st) h := gk_ic (by decide)
theorem s_X_outlineFinding_39 {x y : Int32} : wps rm K Q c_X_outlineFinding_39 kc ks loc (.int y :: .int x :: st) h = ((y ≤ x → K 48 kc ks loc st h) ∧ (¬ y ≤ x → wps rm K Q c_X_outlineFinding_42 kc ks loc (st) h)) := gk_if2_ge
theorem s_X_outlineFinding_42  : wps rm K Q c_X_outlineFinding_42 kc ks loc (st) h = wps rm K Q c_X_outlineFinding_45 kc ks loc (.long (-1000000000000000006) :: st) h := gk_lc (by decide)
theorem s_X_outlineFinding_45  : wps rm K Q c_X_outlineFinding_45 kc ks loc (st) h = K 49 kc ks loc st h := gk_goto
theorem s_X_outlineFinding_48  : wps rm K Q c_X_outlineFinding_48 kc ks loc (st) h = wps rm K Q c_X_outlineFinding_49 kc ks loc (.long (0) :: st) h := gk_lc (by decide)
theorem s_X_outlineFinding_49 {x : Int64} : wps rm K Q c_X_outlineFinding_49 kc ks loc ([.long x]) h = (kc = rm.cells ∧ Q (some (.long x)) h) := gk_lret
def T_X_outlineFinding : List (Nat × List eg_I) := [(13, c_X_outlineFinding_13), (31, c_X_outlineFinding_31), (48, c_X_outlineFinding_48), (49, c_X_outlineFinding_49)]
theorem j_X_outlineFinding_13 {R : Nat → Nat → Nat → eg_Lo → List Value → List eg_E → Prop} {f pc0 : Nat} : eg_run rm R Q T_X_outlineFinding (f + 1) 13 kc ks loc st h = wps rm (eg_run rm R Q T_X_outlineFinding f) Q c_X_outlineFinding_13 kc ks loc st h := rfl
theorem j_X_outlineFinding_31 {R : Nat → Nat → Nat → eg_Lo → List Value → List eg_E → Prop} {f pc0 : Nat} : eg_run rm R Q T_X_outlineFinding (f + 1) 31 kc ks loc st h = wps rm (eg_run rm R Q T_X_outlineFinding f) Q c_X_outlineFinding_31 kc ks loc st h := rfl
theorem j_X_outlineFinding_48 {R : Nat → Nat → Nat → eg_Lo → List Value → List eg_E → Prop} {f pc0 : Nat} : eg_run rm R Q T_X_outlineFinding (f + 1) 48 kc ks loc st h = wps rm (eg_run rm R Q T_X_outlineFinding f) Q c_X_outlineFinding_48 kc ks loc st h := rfl
theorem j_X_outlineFinding_49 {R : Nat → Nat → Nat → eg_Lo → List Value → List eg_E → Prop} {f pc0 : Nat} : eg_run rm R Q T_X_outlineFinding (f + 1) 49 kc ks loc st h = wps rm (eg_run rm R Q T_X_outlineFinding f) Q c_X_outlineFinding_49 kc ks loc st h := rfl
end
theorem y_X_outlineFinding_0 : eg_seq m_X_outlineFinding 0 c_X_outlineFinding_0 = true := by decide +kernel
theorem y_X_outlineFinding_13 : eg_seq m_X_outlineFinding 13 c_X_outlineFinding_13 = true := by decide +kernel
theorem y_X_outlineFinding_31 : eg_seq m_X_outlineFinding 31 c_X_outlineFinding_31 = true := by decide +kernel
theorem y_X_outlineFinding_48 : eg_seq m_X_outlineFinding 48 c_X_outlineFinding_48 = true := by decide +kernel
theorem q_X_outlineFinding : ∀ q ∈ T_X_outlineFinding, eg_seq m_X_outlineFinding q.1 q.2 = true := by
  intro q hq
  simp only [T_X_outlineFinding, List.mem_cons, List.not_mem_nil, or_false] at hq
  rcases hq with rfl | rfl | rfl | rfl
  · exact y_X_outlineFinding_13
  · exact y_X_outlineFinding_31
  · exact y_X_outlineFinding_48
  · exact (eg_seq_drop y_X_outlineFinding_48 1 : eg_seq m_X_outlineFinding 49 c_X_outlineFinding_49 = true)
theorem b_X_outlineFinding {as : List Value} {h : List eg_E} {Q : Option Value → List eg_E → Prop} (hf : (eg_fl as).length ≤ 3) (hw : wps (eg_rm m_X_outlineFinding) (eg_run (eg_rm m_X_outlineFinding) (eg_R m_X_outlineFinding Q (h.length + 0)) Q T_X_outlineFinding 6) Q c_X_outlineFinding_0 0 0 (eg_entry 3 as) [] h) : eg_Runs n_X_outlineFinding as h Q := eg_begin2 (d := m_X_outlineFinding) rfl (by decide) y_X_outlineFinding_0 q_X_outlineFinding hf hw
/-! ===== X_figureCount ===== -/
def z_X_figureCount_4 : List eg_I := [.inl (4, 0, .nop, 0, 0)]
def c_X_figureCount_32 : List eg_I := .inl (32, 1, .ireturn, 0, 0) :: []
def c_X_figureCount_31 : List eg_I := .inl (31, 1, .iload 1, 0, 0) :: c_X_figureCount_32
def c_X_figureCount_28 : List eg_I := .inl (28, 3, .goto (-24), 4, 0) :: []
def c_X_figureCount_25 : List eg_I := .inl (25, 3, .iinc 2 (1), 0, 0) :: c_X_figureCount_28
def c_X_figureCount_22 : List eg_I := .inl (22, 3, .iinc 1 (1), 0, 0) :: c_X_figureCount_25
def c_X_figureCount_19 : List eg_I := .inl (19, 3, .ifCond .eq (6), 25, 0) :: c_X_figureCount_22
def c_X_figureCount_16 : List eg_I := .inr (16, 1, 218, n_Fig_isOne, 0, 2, 0, 0) :: c_X_figureCount_19
def c_X_figureCount_15 : List eg_I := .inl (15, 1, .aaload, 0, 0) :: c_X_figureCount_16
def c_X_figureCount_14 : List eg_I := .inl (14, 1, .iload 2, 0, 0) :: c_X_figureCount_15
def c_X_figureCount_11 : List eg_I := .inl (11, 3, .getfield 23, 11, 2) :: c_X_figureCount_14
def c_X_figureCount_10 : List eg_I := .inl (10, 1, .aload 0, 0, 0) :: c_X_figureCount_11
def c_X_figureCount_7 : List eg_I := .inl (7, 3, .if_icmp .ge (24), 31, 0) :: c_X_figureCount_10
def c_X_figureCount_5 : List eg_I := .inl (5, 2, .iconst (6), 0, 0) :: c_X_figureCount_7
def c_X_figureCount_4 : List eg_I := .inl (4, 1, .iload 2, 0, 0) :: c_X_figureCount_5
def c_X_figureCount_3 : List eg_I := .inl (3, 1, .istore 2, 0, 0) :: z_X_figureCount_4
def c_X_figureCount_2 : List eg_I := .inl (2, 1, .iconst (0), 0, 0) :: c_X_figureCount_3
def c_X_figureCount_1 : List eg_I := .inl (1, 1, .istore 1, 0, 0) :: c_X_figureCount_2
def c_X_figureCount_0 : List eg_I := .inl (0, 1, .iconst (0), 0, 0) :: c_X_figureCount_1
section
variable {rm : Room} {K : Nat → Nat → Nat → eg_Lo → List Value → List eg_E → Prop} {Q : Option Value → List eg_E → Prop} {kc ks : Nat} {loc : eg_Lo} {st : List Value} {h : List eg_E}
theorem s_X_figureCount_0  : wps rm K Q c_X_figureCount_0 kc ks loc (st) h = wps rm K Q c_X_figureCount_1 kc ks loc (.int (0) :: st) h := gk_ic (by decide)
theorem s_X_figureCount_1 {x : Int32} : wps rm K Q c_X_figureCount_1 kc ks loc (.int x :: st) h = wps rm K Q c_X_figureCount_2 kc ks (eg_set1 loc 1 (.int x)) (st) h := gk_istore
theorem s_X_figureCount_2  : wps rm K Q c_X_figureCount_2 kc ks loc (st) h = wps rm K Q c_X_figureCount_3 kc ks loc (.int (0) :: st) h := gk_ic (by decide)
theorem s_X_figureCount_3 {x : Int32} : wps rm K Q c_X_figureCount_3 kc ks loc (.int x :: st) h = wps rm K Q z_X_figureCount_4 kc ks (eg_set1 loc 2 (.int x)) (st) h := gk_istore
theorem s_X_figureCount_4 {x : Int32} {l0 l1 : Option Value} {l : eg_Lo} : wps rm K Q c_X_figureCount_4 kc ks (l0 :: l1 :: some (.int x) :: l) (st) h = wps rm K Q c_X_figureCount_5 kc ks (l0 :: l1 :: some (.int x) :: l) (.int x :: st) h := gk_iload rfl
theorem s_X_figureCount_5  : wps rm K Q c_X_figureCount_5 kc ks loc (st) h = wps rm K Q c_X_figureCount_7 kc ks loc (.int (6) :: st) h := gk_ic (by decide)
theorem s_X_figureCount_7 {x y : Int32} : wps rm K Q c_X_figureCount_7 kc ks loc (.int y :: .int x :: st) h = ((y ≤ x → K 31 kc ks loc st h) ∧ (¬ y ≤ x → wps rm K Q c_X_figureCount_10 kc ks loc (st) h)) := gk_if2_ge
theorem s_X_figureCount_10 {x : Nat} {l : eg_Lo} : wps rm K Q c_X_figureCount_10 kc ks (some (.ref x) :: l) (st) h = wps rm K Q c_X_figureCount_11 kc ks (some (.ref x) :: l) (.ref x :: st) h := gk_aload rfl
theorem s_X_figureCount_11 {x : Nat} : wps rm K Q c_X_figureCount_11 kc ks loc (.ref (x + 1) :: st) h = eg_gf h x 11 2 (fun v => wps rm K Q c_X_figureCount_14 kc ks loc (v :: st) h) := gk_gf
theorem s_X_figureCount_14 {x : Int32} {l0 l1 : Option Value} {l : eg_Lo} : wps rm K Q c_X_figureCount_14 kc ks (l0 :: l1 :: some (.int x) :: l) (st) h = wps rm K Q c_X_figureCount_15 kc ks (l0 :: l1 :: some (.int x) :: l) (.int x :: st) h := gk_iload rfl
theorem s_X_figureCount_15 {x : Nat} {i : Int32} : wps rm K Q c_X_figureCount_15 kc ks loc (.int i :: .ref (x + 1) :: st) h = eg_aa h x i (fun v => wps rm K Q c_X_figureCount_16 kc ks loc (v :: st) h) := gk_aaload
theorem s_X_figureCount_16  {x : Nat} : wps rm K Q c_X_figureCount_16 kc ks loc (.ref (x + 1) :: st) h = (eg_cls h x 2 ∧ st.length ≤ 4 ∧ eg_Cs n_Fig_isOne (.ref (x + 1) :: []) h (fun v h9 => wps rm K Q c_X_figureCount_19 kc ks loc (v.toList ++ st) h9)) := eg_c1_0
theorem s_X_figureCount_19 {x : Int32} : wps rm K Q c_X_figureCount_19 kc ks loc (.int x :: st) h = ((x = 0 → K 25 kc ks loc st h) ∧ (¬ x = 0 → wps rm K Q c_X_figureCount_22 kc ks loc (st) h)) := gk_if1_eq
theorem s_X_figureCount_22 {x : Int32} {l0 : Option Value} {lz : eg_Lo} : wps rm K Q c_X_figureCount_22 kc ks (l0 :: some (.int x) :: lz) (st) h = wps rm K Q c_X_figureCount_25 kc ks (eg_set1 (l0 :: some (.int x) :: lz) 1 (.int (x + (1)))) (st) h := gk_iinc rfl (by decide)
theorem s_X_figureCount_25 {x : Int32} {l0 l1 : Option Value} {lz : eg_Lo} : wps rm K Q c_X_figureCount_25 kc ks (l0 :: l1 :: some (.int x) :: lz) (st) h = wps rm K Q c_X_figureCount_28 kc ks (eg_set1 (l0 :: l1 :: some (.int x) :: lz) 2 (.int (x + (1)))) (st) h := gk_iinc rfl (by decide)
theorem s_X_figureCount_28  : wps rm K Q c_X_figureCount_28 kc ks loc (st) h = K 4 kc ks loc st h := gk_goto
theorem s_X_figureCount_31 {x : Int32} {l0 : Option Value} {l : eg_Lo} : wps rm K Q c_X_figureCount_31 kc ks (l0 :: some (.int x) :: l) (st) h = wps rm K Q c_X_figureCount_32 kc ks (l0 :: some (.int x) :: l) (.int x :: st) h := gk_iload rfl
theorem s_X_figureCount_32 {x : Int32} : wps rm K Q c_X_figureCount_32 kc ks loc ([.int x]) h = (kc = rm.cells ∧ (0 = 1 → x = 0 ∨ x = 1) ∧ Q (some (.int x)) h) := gk_iret
theorem sz_X_figureCount_4 : wps rm K Q z_X_figureCount_4 kc ks loc st h = K 4 kc ks loc st h := gk_nop
def T_X_figureCount : List (Nat × List eg_I) := [(25, c_X_figureCount_25), (31, c_X_figureCount_31)]
theorem j_X_figureCount_25 {R : Nat → Nat → Nat → eg_Lo → List Value → List eg_E → Prop} {f pc0 : Nat} : eg_run rm R Q T_X_figureCount (f + 1) 25 kc ks loc st h = wps rm (eg_run rm R Q T_X_figureCount f) Q c_X_figureCount_25 kc ks loc st h := rfl
theorem j_X_figureCount_31 {R : Nat → Nat → Nat → eg_Lo → List Value → List eg_E → Prop} {f pc0 : Nat} : eg_run rm R Q T_X_figureCount (f + 1) 31 kc ks loc st h = wps rm (eg_run rm R Q T_X_figureCount f) Q c_X_figureCount_31 kc ks loc st h := rfl
theorem j_X_figureCount_4 {R : Nat → Nat → Nat → eg_Lo → List Value → List eg_E → Prop} {f pc0 : Nat} : eg_run rm R Q T_X_figureCount (f + 1) 4 kc ks loc st h = R 4 kc ks loc st h := rfl
end
theorem y_X_figureCount_0 : eg_seq m_X_figureCount 0 c_X_figureCount_0 = true := by decide +kernel
theorem y_X_figureCount_4 : eg_seq m_X_figureCount 4 c_X_figureCount_4 = true := by decide +kernel
theorem y_X_figureCount_31 : eg_seq m_X_figureCount 31 c_X_figureCount_31 = true := by decide +kernel
theorem q_X_figureCount : ∀ q ∈ T_X_figureCount, eg_seq m_X_figureCount q.1 q.2 = true := by
  intro q hq
  simp only [T_X_figureCount, List.mem_cons, List.not_mem_nil, or_false] at hq
  rcases hq with rfl | rfl
  · exact (eg_seq_drop y_X_figureCount_4 10 : eg_seq m_X_figureCount 25 c_X_figureCount_25 = true)
  · exact y_X_figureCount_31
theorem b_X_figureCount {as : List Value} {h : List eg_E} {Q : Option Value → List eg_E → Prop} (hf : (eg_fl as).length ≤ 3) (hw : wps (eg_rm m_X_figureCount) (eg_run (eg_rm m_X_figureCount) (eg_R m_X_figureCount Q (h.length + 0)) Q T_X_figureCount 4) Q c_X_figureCount_0 0 0 (eg_entry 3 as) [] h) : eg_Runs n_X_figureCount as h Q := eg_begin2 (d := m_X_figureCount) rfl (by decide) y_X_figureCount_0 q_X_figureCount hf hw
theorem p_X_figureCount_4 {Q : Option Value → List eg_E → Prop} {n0 kc ks : Nat} {loc : eg_Lo} {st : List Value} {h : List eg_E} (hw : wps (eg_rm m_X_figureCount) (eg_run (eg_rm m_X_figureCount) (eg_R m_X_figureCount Q n0) Q T_X_figureCount 4) Q c_X_figureCount_4 kc ks loc st h) : eg_R m_X_figureCount Q n0 4 kc ks loc st h := eg_go2 y_X_figureCount_4 q_X_figureCount hw
/-! ===== M_init ===== -/
def c_M_init_209 : List eg_I := .inl (209, 1, .return_, 0, 0) :: []
def c_M_init_206 : List eg_I := .inl (206, 3, .putfield 88, 12, 33) :: c_M_init_209
def c_M_init_204 : List eg_I := .inl (204, 2, .newarray .long, 1, 0) :: c_M_init_206
def c_M_init_203 : List eg_I := .inl (203, 1, .iconst (3), 0, 0) :: c_M_init_204
def c_M_init_202 : List eg_I := .inl (202, 1, .aload 0, 0, 0) :: c_M_init_203
def c_M_init_199 : List eg_I := .inl (199, 3, .putfield 85, 12, 28) :: c_M_init_202
def c_M_init_197 : List eg_I := .inl (197, 2, .newarray .double, 3, 0) :: c_M_init_199
def c_M_init_195 : List eg_I := .inl (195, 2, .iconst (48), 0, 0) :: c_M_init_197
def c_M_init_194 : List eg_I := .inl (194, 1, .aload 0, 0, 0) :: c_M_init_195
def c_M_init_191 : List eg_I := .inl (191, 3, .putfield 82, 12, 27) :: c_M_init_194
def c_M_init_189 : List eg_I := .inl (189, 2, .newarray .int, 0, 0) :: c_M_init_191
def c_M_init_187 : List eg_I := .inl (187, 2, .iconst (48), 0, 0) :: c_M_init_189
def c_M_init_186 : List eg_I := .inl (186, 1, .aload 0, 0, 0) :: c_M_init_187
def c_M_init_183 : List eg_I := .inl (183, 3, .putfield 78, 12, 25) :: c_M_init_186
def c_M_init_181 : List eg_I := .inl (181, 2, .newarray .double, 3, 0) :: c_M_init_183
def c_M_init_178 : List eg_I := .inl (178, 3, .iconst (192), 0, 0) :: c_M_init_181
def c_M_init_177 : List eg_I := .inl (177, 1, .aload 0, 0, 0) :: c_M_init_178
def c_M_init_174 : List eg_I := .inl (174, 3, .putfield 75, 12, 24) :: c_M_init_177
def c_M_init_172 : List eg_I := .inl (172, 2, .newarray .int, 0, 0) :: c_M_init_174
def c_M_init_169 : List eg_I := .inl (169, 3, .iconst (192), 0, 0) :: c_M_init_172
def c_M_init_168 : List eg_I := .inl (168, 1, .aload 0, 0, 0) :: c_M_init_169
def c_M_init_165 : List eg_I := .inl (165, 3, .putfield 72, 12, 23) :: c_M_init_168
def c_M_init_163 : List eg_I := .inl (163, 2, .newarray .int, 0, 0) :: c_M_init_165
def c_M_init_162 : List eg_I := .inl (162, 1, .iconst (4), 0, 0) :: c_M_init_163
def c_M_init_161 : List eg_I := .inl (161, 1, .aload 0, 0, 0) :: c_M_init_162
def c_M_init_158 : List eg_I := .inl (158, 3, .putfield 69, 12, 22) :: c_M_init_161
def c_M_init_156 : List eg_I := .inl (156, 2, .newarray .int, 0, 0) :: c_M_init_158
def c_M_init_155 : List eg_I := .inl (155, 1, .iconst (4), 0, 0) :: c_M_init_156
def c_M_init_154 : List eg_I := .inl (154, 1, .aload 0, 0, 0) :: c_M_init_155
def c_M_init_151 : List eg_I := .inl (151, 3, .putfield 66, 12, 21) :: c_M_init_154
def c_M_init_149 : List eg_I := .inl (149, 2, .newarray .int, 0, 0) :: c_M_init_151
def c_M_init_147 : List eg_I := .inl (147, 2, .iconst (36), 0, 0) :: c_M_init_149
def c_M_init_146 : List eg_I := .inl (146, 1, .aload 0, 0, 0) :: c_M_init_147
def c_M_init_143 : List eg_I := .inl (143, 3, .putfield 63, 12, 19) :: c_M_init_146
def c_M_init_141 : List eg_I := .inl (141, 2, .newarray .int, 0, 0) :: c_M_init_143
def c_M_init_139 : List eg_I := .inl (139, 2, .iconst (10), 0, 0) :: c_M_init_141
def c_M_init_138 : List eg_I := .inl (138, 1, .aload 0, 0, 0) :: c_M_init_139
def c_M_init_135 : List eg_I := .inl (135, 3, .putfield 60, 12, 18) :: c_M_init_138
def c_M_init_133 : List eg_I := .inl (133, 2, .newarray .int, 0, 0) :: c_M_init_135
def c_M_init_131 : List eg_I := .inl (131, 2, .iconst (10), 0, 0) :: c_M_init_133
def c_M_init_130 : List eg_I := .inl (130, 1, .aload 0, 0, 0) :: c_M_init_131
def c_M_init_127 : List eg_I := .inl (127, 3, .putfield 57, 12, 16) :: c_M_init_130
def c_M_init_125 : List eg_I := .inl (125, 2, .newarray .int, 0, 0) :: c_M_init_127
def c_M_init_124 : List eg_I := .inl (124, 1, .iconst (3), 0, 0) :: c_M_init_125
def c_M_init_123 : List eg_I := .inl (123, 1, .aload 0, 0, 0) :: c_M_init_124
def c_M_init_120 : List eg_I := .inl (120, 3, .putfield 54, 12, 15) :: c_M_init_123
def c_M_init_118 : List eg_I := .inl (118, 2, .newarray .long, 1, 0) :: c_M_init_120
def c_M_init_116 : List eg_I := .inl (116, 2, .iconst (9), 0, 0) :: c_M_init_118
def c_M_init_115 : List eg_I := .inl (115, 1, .aload 0, 0, 0) :: c_M_init_116
def c_M_init_112 : List eg_I := .inl (112, 3, .putfield 51, 12, 13) :: c_M_init_115
def c_M_init_110 : List eg_I := .inl (110, 2, .newarray .long, 1, 0) :: c_M_init_112
def c_M_init_108 : List eg_I := .inl (108, 2, .iconst (24), 0, 0) :: c_M_init_110
def c_M_init_107 : List eg_I := .inl (107, 1, .aload 0, 0, 0) :: c_M_init_108
def c_M_init_104 : List eg_I := .inl (104, 3, .putfield 48, 12, 12) :: c_M_init_107
def c_M_init_102 : List eg_I := .inl (102, 2, .newarray .long, 1, 0) :: c_M_init_104
def c_M_init_100 : List eg_I := .inl (100, 2, .iconst (18), 0, 0) :: c_M_init_102
def c_M_init_99 : List eg_I := .inl (99, 1, .aload 0, 0, 0) :: c_M_init_100
def c_M_init_96 : List eg_I := .inl (96, 3, .putfield 45, 12, 11) :: c_M_init_99
def c_M_init_94 : List eg_I := .inl (94, 2, .newarray .long, 1, 0) :: c_M_init_96
def c_M_init_92 : List eg_I := .inl (92, 2, .iconst (6), 0, 0) :: c_M_init_94
def c_M_init_91 : List eg_I := .inl (91, 1, .aload 0, 0, 0) :: c_M_init_92
def c_M_init_88 : List eg_I := .inl (88, 3, .putfield 41, 12, 10) :: c_M_init_91
def c_M_init_86 : List eg_I := .inl (86, 2, .newarray .long, 1, 0) :: c_M_init_88
def c_M_init_84 : List eg_I := .inl (84, 2, .iconst (6), 0, 0) :: c_M_init_86
def c_M_init_83 : List eg_I := .inl (83, 1, .aload 0, 0, 0) :: c_M_init_84
def c_M_init_80 : List eg_I := .inl (80, 3, .putfield 38, 12, 9) :: c_M_init_83
def c_M_init_78 : List eg_I := .inl (78, 2, .newarray .int, 0, 0) :: c_M_init_80
def c_M_init_76 : List eg_I := .inl (76, 2, .iconst (36), 0, 0) :: c_M_init_78
def c_M_init_75 : List eg_I := .inl (75, 1, .aload 0, 0, 0) :: c_M_init_76
def c_M_init_72 : List eg_I := .inl (72, 3, .putfield 35, 12, 8) :: c_M_init_75
def c_M_init_70 : List eg_I := .inl (70, 2, .newarray .int, 0, 0) :: c_M_init_72
def c_M_init_68 : List eg_I := .inl (68, 2, .iconst (6), 0, 0) :: c_M_init_70
def c_M_init_67 : List eg_I := .inl (67, 1, .aload 0, 0, 0) :: c_M_init_68
def c_M_init_64 : List eg_I := .inl (64, 3, .putfield 32, 12, 7) :: c_M_init_67
def c_M_init_62 : List eg_I := .inl (62, 2, .newarray .int, 0, 0) :: c_M_init_64
def c_M_init_60 : List eg_I := .inl (60, 2, .iconst (6), 0, 0) :: c_M_init_62
def c_M_init_59 : List eg_I := .inl (59, 1, .aload 0, 0, 0) :: c_M_init_60
def c_M_init_56 : List eg_I := .inl (56, 3, .putfield 29, 12, 6) :: c_M_init_59
def c_M_init_54 : List eg_I := .inl (54, 2, .newarray .int, 0, 0) :: c_M_init_56
def c_M_init_52 : List eg_I := .inl (52, 2, .iconst (9), 0, 0) :: c_M_init_54
def c_M_init_51 : List eg_I := .inl (51, 1, .aload 0, 0, 0) :: c_M_init_52
def c_M_init_48 : List eg_I := .inl (48, 3, .putfield 26, 12, 5) :: c_M_init_51
def c_M_init_46 : List eg_I := .inl (46, 2, .newarray .int, 0, 0) :: c_M_init_48
def c_M_init_44 : List eg_I := .inl (44, 2, .iconst (9), 0, 0) :: c_M_init_46
def c_M_init_43 : List eg_I := .inl (43, 1, .aload 0, 0, 0) :: c_M_init_44
def c_M_init_40 : List eg_I := .inl (40, 3, .putfield 22, 12, 4) :: c_M_init_43
def c_M_init_38 : List eg_I := .inl (38, 2, .newarray .boolean, 2, 0) :: c_M_init_40
def c_M_init_36 : List eg_I := .inl (36, 2, .iconst (64), 0, 0) :: c_M_init_38
def c_M_init_35 : List eg_I := .inl (35, 1, .aload 0, 0, 0) :: c_M_init_36
def c_M_init_32 : List eg_I := .inl (32, 3, .putfield 19, 12, 3) :: c_M_init_35
def c_M_init_30 : List eg_I := .inl (30, 2, .newarray .int, 0, 0) :: c_M_init_32
def c_M_init_28 : List eg_I := .inl (28, 2, .iconst (64), 0, 0) :: c_M_init_30
def c_M_init_27 : List eg_I := .inl (27, 1, .aload 0, 0, 0) :: c_M_init_28
def c_M_init_24 : List eg_I := .inl (24, 3, .putfield 16, 12, 2) :: c_M_init_27
def c_M_init_22 : List eg_I := .inl (22, 2, .newarray .int, 0, 0) :: c_M_init_24
def c_M_init_20 : List eg_I := .inl (20, 2, .iconst (64), 0, 0) :: c_M_init_22
def c_M_init_19 : List eg_I := .inl (19, 1, .aload 0, 0, 0) :: c_M_init_20
def c_M_init_16 : List eg_I := .inl (16, 3, .putfield 13, 12, 1) :: c_M_init_19
def c_M_init_14 : List eg_I := .inl (14, 2, .newarray .int, 0, 0) :: c_M_init_16
def c_M_init_12 : List eg_I := .inl (12, 2, .iconst (64), 0, 0) :: c_M_init_14
def c_M_init_11 : List eg_I := .inl (11, 1, .aload 0, 0, 0) :: c_M_init_12
def c_M_init_8 : List eg_I := .inl (8, 3, .putfield 9, 12, 0) :: c_M_init_11
def c_M_init_6 : List eg_I := .inl (6, 2, .newarray .int, 0, 0) :: c_M_init_8
def c_M_init_5 : List eg_I := .inl (5, 1, .iconst (4), 0, 0) :: c_M_init_6
def c_M_init_4 : List eg_I := .inl (4, 1, .aload 0, 0, 0) :: c_M_init_5
def c_M_init_1 : List eg_I := .inl (1, 3, .athrow, 3, 0) :: c_M_init_4
def c_M_init_0 : List eg_I := .inl (0, 1, .aload 0, 0, 0) :: c_M_init_1
section
variable {rm : Room} {K : Nat → Nat → Nat → eg_Lo → List Value → List eg_E → Prop} {Q : Option Value → List eg_E → Prop} {kc ks : Nat} {loc : eg_Lo} {st : List Value} {h : List eg_E}
theorem s_M_init_0 {x : Nat} {l : eg_Lo} : wps rm K Q c_M_init_0 kc ks (some (.ref x) :: l) (st) h = wps rm K Q c_M_init_1 kc ks (some (.ref x) :: l) (.ref x :: st) h := gk_aload rfl
theorem s_M_init_1 {x : Nat} : wps rm K Q c_M_init_1 kc ks loc (.ref (x + 1) :: st) h = (st.length ≤ 4 ∧ wps rm K Q c_M_init_4 kc ks loc (st) h) := gk_oi
theorem s_M_init_4 {x : Nat} {l : eg_Lo} : wps rm K Q c_M_init_4 kc ks (some (.ref x) :: l) (st) h = wps rm K Q c_M_init_5 kc ks (some (.ref x) :: l) (.ref x :: st) h := gk_aload rfl
theorem s_M_init_5  : wps rm K Q c_M_init_5 kc ks loc (st) h = wps rm K Q c_M_init_6 kc ks loc (.int (4) :: st) h := gk_ic (by decide)
theorem s_M_init_6 {x : Int32} : wps rm K Q c_M_init_6 kc ks loc (.int x :: st) h = (¬ x < 0 ∧ x.toNatClampNeg ≤ 1000 ∧ kc + 1 ≤ rm.cells ∧ ks + x.toNatClampNeg ≤ rm.slots ∧ wps rm K Q c_M_init_8 (kc + 1) (ks + x.toNatClampNeg) loc (.ref (h.length + 1) :: st) (h ++ [.inl (0, eg_zero 0 x.toNatClampNeg)])) := gk_na
theorem s_M_init_8 {x : Nat} {v : Value} : wps rm K Q c_M_init_8 kc ks loc (v :: .ref (x + 1) :: st) h = eg_pf h x 12 0 v (fun h9 => wps rm K Q c_M_init_11 kc ks loc (st) h9) := gk_pf
theorem s_M_init_11 {x : Nat} {l : eg_Lo} : wps rm K Q c_M_init_11 kc ks (some (.ref x) :: l) (st) h = wps rm K Q c_M_init_12 kc ks (some (.ref x) :: l) (.ref x :: st) h := gk_aload rfl
theorem s_M_init_12  : wps rm K Q c_M_init_12 kc ks loc (st) h = wps rm K Q c_M_init_14 kc ks loc (.int (64) :: st) h := gk_ic (by decide)
theorem s_M_init_14 {x : Int32} : wps rm K Q c_M_init_14 kc ks loc (.int x :: st) h = (¬ x < 0 ∧ x.toNatClampNeg ≤ 1000 ∧ kc + 1 ≤ rm.cells ∧ ks + x.toNatClampNeg ≤ rm.slots ∧ wps rm K Q c_M_init_16 (kc + 1) (ks + x.toNatClampNeg) loc (.ref (h.length + 1) :: st) (h ++ [.inl (0, eg_zero 0 x.toNatClampNeg)])) := gk_na
theorem s_M_init_16 {x : Nat} {v : Value} : wps rm K Q c_M_init_16 kc ks loc (v :: .ref (x + 1) :: st) h = eg_pf h x 12 1 v (fun h9 => wps rm K Q c_M_init_19 kc ks loc (st) h9) := gk_pf
theorem s_M_init_19 {x : Nat} {l : eg_Lo} : wps rm K Q c_M_init_19 kc ks (some (.ref x) :: l) (st) h = wps rm K Q c_M_init_20 kc ks (some (.ref x) :: l) (.ref x :: st) h := gk_aload rfl
theorem s_M_init_20  : wps rm K Q c_M_init_20 kc ks loc (st) h = wps rm K Q c_M_init_22 kc ks loc (.int (64) :: st) h := gk_ic (by decide)
theorem s_M_init_22 {x : Int32} : wps rm K Q c_M_init_22 kc ks loc (.int x :: st) h = (¬ x < 0 ∧ x.toNatClampNeg ≤ 1000 ∧ kc + 1 ≤ rm.cells ∧ ks + x.toNatClampNeg ≤ rm.slots ∧ wps rm K Q c_M_init_24 (kc + 1) (ks + x.toNatClampNeg) loc (.ref (h.length + 1) :: st) (h ++ [.inl (0, eg_zero 0 x.toNatClampNeg)])) := gk_na
theorem s_M_init_24 {x : Nat} {v : Value} : wps rm K Q c_M_init_24 kc ks loc (v :: .ref (x + 1) :: st) h = eg_pf h x 12 2 v (fun h9 => wps rm K Q c_M_init_27 kc ks loc (st) h9) := gk_pf
theorem s_M_init_27 {x : Nat} {l : eg_Lo} : wps rm K Q c_M_init_27 kc ks (some (.ref x) :: l) (st) h = wps rm K Q c_M_init_28 kc ks (some (.ref x) :: l) (.ref x :: st) h := gk_aload rfl
theorem s_M_init_28  : wps rm K Q c_M_init_28 kc ks loc (st) h = wps rm K Q c_M_init_30 kc ks loc (.int (64) :: st) h := gk_ic (by decide)
theorem s_M_init_30 {x : Int32} : wps rm K Q c_M_init_30 kc ks loc (.int x :: st) h = (¬ x < 0 ∧ x.toNatClampNeg ≤ 1000 ∧ kc + 1 ≤ rm.cells ∧ ks + x.toNatClampNeg ≤ rm.slots ∧ wps rm K Q c_M_init_32 (kc + 1) (ks + x.toNatClampNeg) loc (.ref (h.length + 1) :: st) (h ++ [.inl (0, eg_zero 0 x.toNatClampNeg)])) := gk_na
theorem s_M_init_32 {x : Nat} {v : Value} : wps rm K Q c_M_init_32 kc ks loc (v :: .ref (x + 1) :: st) h = eg_pf h x 12 3 v (fun h9 => wps rm K Q c_M_init_35 kc ks loc (st) h9) := gk_pf
theorem s_M_init_35 {x : Nat} {l : eg_Lo} : wps rm K Q c_M_init_35 kc ks (some (.ref x) :: l) (st) h = wps rm K Q c_M_init_36 kc ks (some (.ref x) :: l) (.ref x :: st) h := gk_aload rfl
theorem s_M_init_36  : wps rm K Q c_M_init_36 kc ks loc (st) h = wps rm K Q c_M_init_38 kc ks loc (.int (64) :: st) h := gk_ic (by decide)
theorem s_M_init_38 {x : Int32} : wps rm K Q c_M_init_38 kc ks loc (.int x :: st) h = (¬ x < 0 ∧ x.toNatClampNeg ≤ 1000 ∧ kc + 1 ≤ rm.cells ∧ ks + x.toNatClampNeg ≤ rm.slots ∧ wps rm K Q c_M_init_40 (kc + 1) (ks + x.toNatClampNeg) loc (.ref (h.length + 1) :: st) (h ++ [.inl (2, eg_zero 2 x.toNatClampNeg)])) := gk_na
theorem s_M_init_40 {x : Nat} {v : Value} : wps rm K Q c_M_init_40 kc ks loc (v :: .ref (x + 1) :: st) h = eg_pf h x 12 4 v (fun h9 => wps rm K Q c_M_init_43 kc ks loc (st) h9) := gk_pf
theorem s_M_init_43 {x : Nat} {l : eg_Lo} : wps rm K Q c_M_init_43 kc ks (some (.ref x) :: l) (st) h = wps rm K Q c_M_init_44 kc ks (some (.ref x) :: l) (.ref x :: st) h := gk_aload rfl
theorem s_M_init_44  : wps rm K Q c_M_init_44 kc ks loc (st) h = wps rm K Q c_M_init_46 kc ks loc (.int (9) :: st) h := gk_ic (by decide)
theorem s_M_init_46 {x : Int32} : wps rm K Q c_M_init_46 kc ks loc (.int x :: st) h = (¬ x < 0 ∧ x.toNatClampNeg ≤ 1000 ∧ kc + 1 ≤ rm.cells ∧ ks + x.toNatClampNeg ≤ rm.slots ∧ wps rm K Q c_M_init_48 (kc + 1) (ks + x.toNatClampNeg) loc (.ref (h.length + 1) :: st) (h ++ [.inl (0, eg_zero 0 x.toNatClampNeg)])) := gk_na
theorem s_M_init_48 {x : Nat} {v : Value} : wps rm K Q c_M_init_48 kc ks loc (v :: .ref (x + 1) :: st) h = eg_pf h x 12 5 v (fun h9 => wps rm K Q c_M_init_51 kc ks loc (st) h9) := gk_pf
theorem s_M_init_51 {x : Nat} {l : eg_Lo} : wps rm K Q c_M_init_51 kc ks (some (.ref x) :: l) (st) h = wps rm K Q c_M_init_52 kc ks (some (.ref x) :: l) (.ref x :: st) h := gk_aload rfl
theorem s_M_init_52  : wps rm K Q c_M_init_52 kc ks loc (st) h = wps rm K Q c_M_init_54 kc ks loc (.int (9) :: st) h := gk_ic (by decide)
theorem s_M_init_54 {x : Int32} : wps rm K Q c_M_init_54 kc ks loc (.int x :: st) h = (¬ x < 0 ∧ x.toNatClampNeg ≤ 1000 ∧ kc + 1 ≤ rm.cells ∧ ks + x.toNatClampNeg ≤ rm.slots ∧ wps rm K Q c_M_init_56 (kc + 1) (ks + x.toNatClampNeg) loc (.ref (h.length + 1) :: st) (h ++ [.inl (0, eg_zero 0 x.toNatClampNeg)])) := gk_na
theorem s_M_init_56 {x : Nat} {v : Value} : wps rm K Q c_M_init_56 kc ks loc (v :: .ref (x + 1) :: st) h = eg_pf h x 12 6 v (fun h9 => wps rm K Q c_M_init_59 kc ks loc (st) h9) := gk_pf
theorem s_M_init_59 {x : Nat} {l : eg_Lo} : wps rm K Q c_M_init_59 kc ks (some (.ref x) :: l) (st) h = wps rm K Q c_M_init_60 kc ks (some (.ref x) :: l) (.ref x :: st) h := gk_aload rfl
theorem s_M_init_60  : wps rm K Q c_M_init_60 kc ks loc (st) h = wps rm K Q c_M_init_62 kc ks loc (.int (6) :: st) h := gk_ic (by decide)
theorem s_M_init_62 {x : Int32} : wps rm K Q c_M_init_62 kc ks loc (.int x :: st) h = (¬ x < 0 ∧ x.toNatClampNeg ≤ 1000 ∧ kc + 1 ≤ rm.cells ∧ ks + x.toNatClampNeg ≤ rm.slots ∧ wps rm K Q c_M_init_64 (kc + 1) (ks + x.toNatClampNeg) loc (.ref (h.length + 1) :: st) (h ++ [.inl (0, eg_zero 0 x.toNatClampNeg)])) := gk_na
theorem s_M_init_64 {x : Nat} {v : Value} : wps rm K Q c_M_init_64 kc ks loc (v :: .ref (x + 1) :: st) h = eg_pf h x 12 7 v (fun h9 => wps rm K Q c_M_init_67 kc ks loc (st) h9) := gk_pf
theorem s_M_init_67 {x : Nat} {l : eg_Lo} : wps rm K Q c_M_init_67 kc ks (some (.ref x) :: l) (st) h = wps rm K Q c_M_init_68 kc ks (some (.ref x) :: l) (.ref x :: st) h := gk_aload rfl
theorem s_M_init_68  : wps rm K Q c_M_init_68 kc ks loc (st) h = wps rm K Q c_M_init_70 kc ks loc (.int (6) :: st) h := gk_ic (by decide)
theorem s_M_init_70 {x : Int32} : wps rm K Q c_M_init_70 kc ks loc (.int x :: st) h = (¬ x < 0 ∧ x.toNatClampNeg ≤ 1000 ∧ kc + 1 ≤ rm.cells ∧ ks + x.toNatClampNeg ≤ rm.slots ∧ wps rm K Q c_M_init_72 (kc + 1) (ks + x.toNatClampNeg) loc (.ref (h.length + 1) :: st) (h ++ [.inl (0, eg_zero 0 x.toNatClampNeg)])) := gk_na
theorem s_M_init_72 {x : Nat} {v : Value} : wps rm K Q c_M_init_72 kc ks loc (v :: .ref (x + 1) :: st) h = eg_pf h x 12 8 v (fun h9 => wps rm K Q c_M_init_75 kc ks loc (st) h9) := gk_pf
theorem s_M_init_75 {x : Nat} {l : eg_Lo} : wps rm K Q c_M_init_75 kc ks (some (.ref x) :: l) (st) h = wps rm K Q c_M_init_76 kc ks (some (.ref x) :: l) (.ref x :: st) h := gk_aload rfl
theorem s_M_init_76  : wps rm K Q c_M_init_76 kc ks loc (st) h = wps rm K Q c_M_init_78 kc ks loc (.int (36) :: st) h := gk_ic (by decide)
theorem s_M_init_78 {x : Int32} : wps rm K Q c_M_init_78 kc ks loc (.int x :: st) h = (¬ x < 0 ∧ x.toNatClampNeg ≤ 1000 ∧ kc + 1 ≤ rm.cells ∧ ks + x.toNatClampNeg ≤ rm.slots ∧ wps rm K Q c_M_init_80 (kc + 1) (ks + x.toNatClampNeg) loc (.ref (h.length + 1) :: st) (h ++ [.inl (0, eg_zero 0 x.toNatClampNeg)])) := gk_na
theorem s_M_init_80 {x : Nat} {v : Value} : wps rm K Q c_M_init_80 kc ks loc (v :: .ref (x + 1) :: st) h = eg_pf h x 12 9 v (fun h9 => wps rm K Q c_M_init_83 kc ks loc (st) h9) := gk_pf
theorem s_M_init_83 {x : Nat} {l : eg_Lo} : wps rm K Q c_M_init_83 kc ks (some (.ref x) :: l) (st) h = wps rm K Q c_M_init_84 kc ks (some (.ref x) :: l) (.ref x :: st) h := gk_aload rfl
theorem s_M_init_84  : wps rm K Q c_M_init_84 kc ks loc (st) h = wps rm K Q c_M_init_86 kc ks loc (.int (6) :: st) h := gk_ic (by decide)
theorem s_M_init_86 {x : Int32} : wps rm K Q c_M_init_86 kc ks loc (.int x :: st) h = (¬ x < 0 ∧ x.toNatClampNeg ≤ 1000 ∧ kc + 1 ≤ rm.cells ∧ ks + x.toNatClampNeg ≤ rm.slots ∧ wps rm K Q c_M_init_88 (kc + 1) (ks + x.toNatClampNeg) loc (.ref (h.length + 1) :: st) (h ++ [.inl (1, eg_zero 1 x.toNatClampNeg)])) := gk_na
theorem s_M_init_88 {x : Nat} {v : Value} : wps rm K Q c_M_init_88 kc ks loc (v :: .ref (x + 1) :: st) h = eg_pf h x 12 10 v (fun h9 => wps rm K Q c_M_init_91 kc ks loc (st) h9) := gk_pf
theorem s_M_init_91 {x : Nat} {l : eg_Lo} : wps rm K Q c_M_init_91 kc ks (some (.ref x) :: l) (st) h = wps rm K Q c_M_init_92 kc ks (some (.ref x) :: l) (.ref x :: st) h := gk_aload rfl
theorem s_M_init_92  : wps rm K Q c_M_init_92 kc ks loc (st) h = wps rm K Q c_M_init_94 kc ks loc (.int (6) :: st) h := gk_ic (by decide)
theorem s_M_init_94 {x : Int32} : wps rm K Q c_M_init_94 kc ks loc (.int x :: st) h = (¬ x < 0 ∧ x.toNatClampNeg ≤ 1000 ∧ kc + 1 ≤ rm.cells ∧ ks + x.toNatClampNeg ≤ rm.slots ∧ wps rm K Q c_M_init_96 (kc + 1) (ks + x.toNatClampNeg) loc (.ref (h.length + 1) :: st) (h ++ [.inl (1, eg_zero 1 x.toNatClampNeg)])) := gk_na
theorem s_M_init_96 {x : Nat} {v : Value} : wps rm K Q c_M_init_96 kc ks loc (v :: .ref (x + 1) :: st) h = eg_pf h x 12 11 v (fun h9 => wps rm K Q c_M_init_99 kc ks loc (st) h9) := gk_pf
theorem s_M_init_99 {x : Nat} {l : eg_Lo} : wps rm K Q c_M_init_99 kc ks (some (.ref x) :: l) (st) h = wps rm K Q c_M_init_100 kc ks (some (.ref x) :: l) (.ref x :: st) h := gk_aload rfl
theorem s_M_init_100  : wps rm K Q c_M_init_100 kc ks loc (st) h = wps rm K Q c_M_init_102 kc ks loc (.int (18) :: st) h := gk_ic (by decide)
theorem s_M_init_102 {x : Int32} : wps rm K Q c_M_init_102 kc ks loc (.int x :: st) h = (¬ x < 0 ∧ x.toNatClampNeg ≤ 1000 ∧ kc + 1 ≤ rm.cells ∧ ks + x.toNatClampNeg ≤ rm.slots ∧ wps rm K Q c_M_init_104 (kc + 1) (ks + x.toNatClampNeg) loc (.ref (h.length + 1) :: st) (h ++ [.inl (1, eg_zero 1 x.toNatClampNeg)])) := gk_na
theorem s_M_init_104 {x : Nat} {v : Value} : wps rm K Q c_M_init_104 kc ks loc (v :: .ref (x + 1) :: st) h = eg_pf h x 12 12 v (fun h9 => wps rm K Q c_M_init_107 kc ks loc (st) h9) := gk_pf
theorem s_M_init_107 {x : Nat} {l : eg_Lo} : wps rm K Q c_M_init_107 kc ks (some (.ref x) :: l) (st) h = wps rm K Q c_M_init_108 kc ks (some (.ref x) :: l) (.ref x :: st) h := gk_aload rfl
theorem s_M_init_108  : wps rm K Q c_M_init_108 kc ks loc (st) h = wps rm K Q c_M_init_110 kc ks loc (.int (24) :: st) h := gk_ic (by decide)
theorem s_M_init_110 {x : Int32} : wps rm K Q c_M_init_110 kc ks loc (.int x :: st) h = (¬ x < 0 ∧ x.toNatClampNeg ≤ 1000 ∧ kc + 1 ≤ rm.cells ∧ ks + x.toNatClampNeg ≤ rm.slots ∧ wps rm K Q c_M_init_112 (kc + 1) (ks + x.toNatClampNeg) loc (.ref (h.length + 1) :: st) (h ++ [.inl (1, eg_zero 1 x.toNatClampNeg)])) := gk_na
theorem s_M_init_112 {x : Nat} {v : Value} : wps rm K Q c_M_init_112 kc ks loc (v :: .ref (x + 1) :: st) h = eg_pf h x 12 13 v (fun h9 => wps rm K Q c_M_init_115 kc ks loc (st) h9) := gk_pf
theorem s_M_init_115 {x : Nat} {l : eg_Lo} : wps rm K Q c_M_init_115 kc ks (some (.ref x) :: l) (st) h = wps rm K Q c_M_init_116 kc ks (some (.ref x) :: l) (.ref x :: st) h := gk_aload rfl
theorem s_M_init_116  : wps rm K Q c_M_init_116 kc ks loc (st) h = wps rm K Q c_M_init_118 kc ks loc (.int (9) :: st) h := gk_ic (by decide)
theorem s_M_init_118 {x : Int32} : wps rm K Q c_M_init_118 kc ks loc (.int x :: st) h = (¬ x < 0 ∧ x.toNatClampNeg ≤ 1000 ∧ kc + 1 ≤ rm.cells ∧ ks + x.toNatClampNeg ≤ rm.slots ∧ wps rm K Q c_M_init_120 (kc + 1) (ks + x.toNatClampNeg) loc (.ref (h.length + 1) :: st) (h ++ [.inl (1, eg_zero 1 x.toNatClampNeg)])) := gk_na
theorem s_M_init_120 {x : Nat} {v : Value} : wps rm K Q c_M_init_120 kc ks loc (v :: .ref (x + 1) :: st) h = eg_pf h x 12 15 v (fun h9 => wps rm K Q c_M_init_123 kc ks loc (st) h9) := gk_pf
theorem s_M_init_123 {x : Nat} {l : eg_Lo} : wps rm K Q c_M_init_123 kc ks (some (.ref x) :: l) (st) h = wps rm K Q c_M_init_124 kc ks (some (.ref x) :: l) (.ref x :: st) h := gk_aload rfl
theorem s_M_init_124  : wps rm K Q c_M_init_124 kc ks loc (st) h = wps rm K Q c_M_init_125 kc ks loc (.int (3) :: st) h := gk_ic (by decide)
theorem s_M_init_125 {x : Int32} : wps rm K Q c_M_init_125 kc ks loc (.int x :: st) h = (¬ x < 0 ∧ x.toNatClampNeg ≤ 1000 ∧ kc + 1 ≤ rm.cells ∧ ks + x.toNatClampNeg ≤ rm.slots ∧ wps rm K Q c_M_init_127 (kc + 1) (ks + x.toNatClampNeg) loc (.ref (h.length + 1) :: st) (h ++ [.inl (0, eg_zero 0 x.toNatClampNeg)])) := gk_na
theorem s_M_init_127 {x : Nat} {v : Value} : wps rm K Q c_M_init_127 kc ks loc (v :: .ref (x + 1) :: st) h = eg_pf h x 12 16 v (fun h9 => wps rm K Q c_M_init_130 kc ks loc (st) h9) := gk_pf
theorem s_M_init_130 {x : Nat} {l : eg_Lo} : wps rm K Q c_M_init_130 kc ks (some (.ref x) :: l) (st) h = wps rm K Q c_M_init_131 kc ks (some (.ref x) :: l) (.ref x :: st) h := gk_aload rfl
theorem s_M_init_131  : wps rm K Q c_M_init_131 kc ks loc (st) h = wps rm K Q c_M_init_133 kc ks loc (.int (10) :: st) h := gk_ic (by decide)
theorem s_M_init_133 {x : Int32} : wps rm K Q c_M_init_133 kc ks loc (.int x :: st) h = (¬ x < 0 ∧ x.toNatClampNeg ≤ 1000 ∧ kc + 1 ≤ rm.cells ∧ ks + x.toNatClampNeg ≤ rm.slots ∧ wps rm K Q c_M_init_135 (kc + 1) (ks + x.toNatClampNeg) loc (.ref (h.length + 1) :: st) (h ++ [.inl (0, eg_zero 0 x.toNatClampNeg)])) := gk_na
theorem s_M_init_135 {x : Nat} {v : Value} : wps rm K Q c_M_init_135 kc ks loc (v :: .ref (x + 1) :: st) h = eg_pf h x 12 18 v (fun h9 => wps rm K Q c_M_init_138 kc ks loc (st) h9) := gk_pf
theorem s_M_init_138 {x : Nat} {l : eg_Lo} : wps rm K Q c_M_init_138 kc ks (some (.ref x) :: l) (st) h = wps rm K Q c_M_init_139 kc ks (some (.ref x) :: l) (.ref x :: st) h := gk_aload rfl
theorem s_M_init_139  : wps rm K Q c_M_init_139 kc ks loc (st) h = wps rm K Q c_M_init_141 kc ks loc (.int (10) :: st) h := gk_ic (by decide)
theorem s_M_init_141 {x : Int32} : wps rm K Q c_M_init_141 kc ks loc (.int x :: st) h = (¬ x < 0 ∧ x.toNatClampNeg ≤ 1000 ∧ kc + 1 ≤ rm.cells ∧ ks + x.toNatClampNeg ≤ rm.slots ∧ wps rm K Q c_M_init_143 (kc + 1) (ks + x.toNatClampNeg) loc (.ref (h.length + 1) :: st) (h ++ [.inl (0, eg_zero 0 x.toNatClampNeg)])) := gk_na
theorem s_M_init_143 {x : Nat} {v : Value} : wps rm K Q c_M_init_143 kc ks loc (v :: .ref (x + 1) :: st) h = eg_pf h x 12 19 v (fun h9 => wps rm K Q c_M_init_146 kc ks loc (st) h9) := gk_pf
theorem s_M_init_146 {x : Nat} {l : eg_Lo} : wps rm K Q c_M_init_146 kc ks (some (.ref x) :: l) (st) h = wps rm K Q c_M_init_147 kc ks (some (.ref x) :: l) (.ref x :: st) h := gk_aload rfl
theorem s_M_init_147  : wps rm K Q c_M_init_147 kc ks loc (st) h = wps rm K Q c_M_init_149 kc ks loc (.int (36) :: st) h := gk_ic (by decide)
theorem s_M_init_149 {x : Int32} : wps rm K Q c_M_init_149 kc ks loc (.int x :: st) h = (¬ x < 0 ∧ x.toNatClampNeg ≤ 1000 ∧ kc + 1 ≤ rm.cells ∧ ks + x.toNatClampNeg ≤ rm.slots ∧ wps rm K Q c_M_init_151 (kc + 1) (ks + x.toNatClampNeg) loc (.ref (h.length + 1) :: st) (h ++ [.inl (0, eg_zero 0 x.toNatClampNeg)])) := gk_na
theorem s_M_init_151 {x : Nat} {v : Value} : wps rm K Q c_M_init_151 kc ks loc (v :: .ref (x + 1) :: st) h = eg_pf h x 12 21 v (fun h9 => wps rm K Q c_M_init_154 kc ks loc (st) h9) := gk_pf
theorem s_M_init_154 {x : Nat} {l : eg_Lo} : wps rm K Q c_M_init_154 kc ks (some (.ref x) :: l) (st) h = wps rm K Q c_M_init_155 kc ks (some (.ref x) :: l) (.ref x :: st) h := gk_aload rfl
theorem s_M_init_155  : wps rm K Q c_M_init_155 kc ks loc (st) h = wps rm K Q c_M_init_156 kc ks loc (.int (4) :: st) h := gk_ic (by decide)
theorem s_M_init_156 {x : Int32} : wps rm K Q c_M_init_156 kc ks loc (.int x :: st) h = (¬ x < 0 ∧ x.toNatClampNeg ≤ 1000 ∧ kc + 1 ≤ rm.cells ∧ ks + x.toNatClampNeg ≤ rm.slots ∧ wps rm K Q c_M_init_158 (kc + 1) (ks + x.toNatClampNeg) loc (.ref (h.length + 1) :: st) (h ++ [.inl (0, eg_zero 0 x.toNatClampNeg)])) := gk_na
theorem s_M_init_158 {x : Nat} {v : Value} : wps rm K Q c_M_init_158 kc ks loc (v :: .ref (x + 1) :: st) h = eg_pf h x 12 22 v (fun h9 => wps rm K Q c_M_init_161 kc ks loc (st) h9) := gk_pf
theorem s_M_init_161 {x : Nat} {l : eg_Lo} : wps rm K Q c_M_init_161 kc ks (some (.ref x) :: l) (st) h = wps rm K Q c_M_init_162 kc ks (some (.ref x) :: l) (.ref x :: st) h := gk_aload rfl
theorem s_M_init_162  : wps rm K Q c_M_init_162 kc ks loc (st) h = wps rm K Q c_M_init_163 kc ks loc (.int (4) :: st) h := gk_ic (by decide)
theorem s_M_init_163 {x : Int32} : wps rm K Q c_M_init_163 kc ks loc (.int x :: st) h = (¬ x < 0 ∧ x.toNatClampNeg ≤ 1000 ∧ kc + 1 ≤ rm.cells ∧ ks + x.toNatClampNeg ≤ rm.slots ∧ wps rm K Q c_M_init_165 (kc + 1) (ks + x.toNatClampNeg) loc (.ref (h.length + 1) :: st) (h ++ [.inl (0, eg_zero 0 x.toNatClampNeg)])) := gk_na
theorem s_M_init_165 {x : Nat} {v : Value} : wps rm K Q c_M_init_165 kc ks loc (v :: .ref (x + 1) :: st) h = eg_pf h x 12 23 v (fun h9 => wps rm K Q c_M_init_168 kc ks loc (st) h9) := gk_pf
theorem s_M_init_168 {x : Nat} {l : eg_Lo} : wps rm K Q c_M_init_168 kc ks (some (.ref x) :: l) (st) h = wps rm K Q c_M_init_169 kc ks (some (.ref x) :: l) (.ref x :: st) h := gk_aload rfl
theorem s_M_init_169  : wps rm K Q c_M_init_169 kc ks loc (st) h = wps rm K Q c_M_init_172 kc ks loc (.int (192) :: st) h := gk_ic (by decide)
theorem s_M_init_172 {x : Int32} : wps rm K Q c_M_init_172 kc ks loc (.int x :: st) h = (¬ x < 0 ∧ x.toNatClampNeg ≤ 1000 ∧ kc + 1 ≤ rm.cells ∧ ks + x.toNatClampNeg ≤ rm.slots ∧ wps rm K Q c_M_init_174 (kc + 1) (ks + x.toNatClampNeg) loc (.ref (h.length + 1) :: st) (h ++ [.inl (0, eg_zero 0 x.toNatClampNeg)])) := gk_na
theorem s_M_init_174 {x : Nat} {v : Value} : wps rm K Q c_M_init_174 kc ks loc (v :: .ref (x + 1) :: st) h = eg_pf h x 12 24 v (fun h9 => wps rm K Q c_M_init_177 kc ks loc (st) h9) := gk_pf
theorem s_M_init_177 {x : Nat} {l : eg_Lo} : wps rm K Q c_M_init_177 kc ks (some (.ref x) :: l) (st) h = wps rm K Q c_M_init_178 kc ks (some (.ref x) :: l) (.ref x :: st) h := gk_aload rfl
theorem s_M_init_178  : wps rm K Q c_M_init_178 kc ks loc (st) h = wps rm K Q c_M_init_181 kc ks loc (.int (192) :: st) h := gk_ic (by decide)
theorem s_M_init_181 {x : Int32} : wps rm K Q c_M_init_181 kc ks loc (.int x :: st) h = (¬ x < 0 ∧ x.toNatClampNeg ≤ 1000 ∧ kc + 1 ≤ rm.cells ∧ ks + x.toNatClampNeg ≤ rm.slots ∧ wps rm K Q c_M_init_183 (kc + 1) (ks + x.toNatClampNeg) loc (.ref (h.length + 1) :: st) (h ++ [.inl (3, eg_zero 3 x.toNatClampNeg)])) := gk_na
theorem s_M_init_183 {x : Nat} {v : Value} : wps rm K Q c_M_init_183 kc ks loc (v :: .ref (x + 1) :: st) h = eg_pf h x 12 25 v (fun h9 => wps rm K Q c_M_init_186 kc ks loc (st) h9) := gk_pf
theorem s_M_init_186 {x : Nat} {l : eg_Lo} : wps rm K Q c_M_init_186 kc ks (some (.ref x) :: l) (st) h = wps rm K Q c_M_init_187 kc ks (some (.ref x) :: l) (.ref x :: st) h := gk_aload rfl
theorem s_M_init_187  : wps rm K Q c_M_init_187 kc ks loc (st) h = wps rm K Q c_M_init_189 kc ks loc (.int (48) :: st) h := gk_ic (by decide)
theorem s_M_init_189 {x : Int32} : wps rm K Q c_M_init_189 kc ks loc (.int x :: st) h = (¬ x < 0 ∧ x.toNatClampNeg ≤ 1000 ∧ kc + 1 ≤ rm.cells ∧ ks + x.toNatClampNeg ≤ rm.slots ∧ wps rm K Q c_M_init_191 (kc + 1) (ks + x.toNatClampNeg) loc (.ref (h.length + 1) :: st) (h ++ [.inl (0, eg_zero 0 x.toNatClampNeg)])) := gk_na
theorem s_M_init_191 {x : Nat} {v : Value} : wps rm K Q c_M_init_191 kc ks loc (v :: .ref (x + 1) :: st) h = eg_pf h x 12 27 v (fun h9 => wps rm K Q c_M_init_194 kc ks loc (st) h9) := gk_pf
theorem s_M_init_194 {x : Nat} {l : eg_Lo} : wps rm K Q c_M_init_194 kc ks (some (.ref x) :: l) (st) h = wps rm K Q c_M_init_195 kc ks (some (.ref x) :: l) (.ref x :: st) h := gk_aload rfl
theorem s_M_init_195  : wps rm K Q c_M_init_195 kc ks loc (st) h = wps rm K Q c_M_init_197 kc ks loc (.int (48) :: st) h := gk_ic (by decide)
theorem s_M_init_197 {x : Int32} : wps rm K Q c_M_init_197 kc ks loc (.int x :: st) h = (¬ x < 0 ∧ x.toNatClampNeg ≤ 1000 ∧ kc + 1 ≤ rm.cells ∧ ks + x.toNatClampNeg ≤ rm.slots ∧ wps rm K Q c_M_init_199 (kc + 1) (ks + x.toNatClampNeg) loc (.ref (h.length + 1) :: st) (h ++ [.inl (3, eg_zero 3 x.toNatClampNeg)])) := gk_na
theorem s_M_init_199 {x : Nat} {v : Value} : wps rm K Q c_M_init_199 kc ks loc (v :: .ref (x + 1) :: st) h = eg_pf h x 12 28 v (fun h9 => wps rm K Q c_M_init_202 kc ks loc (st) h9) := gk_pf
theorem s_M_init_202 {x : Nat} {l : eg_Lo} : wps rm K Q c_M_init_202 kc ks (some (.ref x) :: l) (st) h = wps rm K Q c_M_init_203 kc ks (some (.ref x) :: l) (.ref x :: st) h := gk_aload rfl
theorem s_M_init_203  : wps rm K Q c_M_init_203 kc ks loc (st) h = wps rm K Q c_M_init_204 kc ks loc (.int (3) :: st) h := gk_ic (by decide)
theorem s_M_init_204 {x : Int32} : wps rm K Q c_M_init_204 kc ks loc (.int x :: st) h = (¬ x < 0 ∧ x.toNatClampNeg ≤ 1000 ∧ kc + 1 ≤ rm.cells ∧ ks + x.toNatClampNeg ≤ rm.slots ∧ wps rm K Q c_M_init_206 (kc + 1) (ks + x.toNatClampNeg) loc (.ref (h.length + 1) :: st) (h ++ [.inl (1, eg_zero 1 x.toNatClampNeg)])) := gk_na
theorem s_M_init_206 {x : Nat} {v : Value} : wps rm K Q c_M_init_206 kc ks loc (v :: .ref (x + 1) :: st) h = eg_pf h x 12 33 v (fun h9 => wps rm K Q c_M_init_209 kc ks loc (st) h9) := gk_pf
theorem s_M_init_209  : wps rm K Q c_M_init_209 kc ks loc ([]) h = (kc = rm.cells ∧ Q none h) := gk_vret
def T_M_init : List (Nat × List eg_I) := []
end
theorem y_M_init_0 : eg_seq m_M_init 0 c_M_init_0 = true := by decide +kernel
theorem q_M_init : ∀ q ∈ T_M_init, eg_seq m_M_init q.1 q.2 = true := by
  intro q hq
  cases hq
theorem b_M_init {as : List Value} {h : List eg_E} {Q : Option Value → List eg_E → Prop} (hf : (eg_fl as).length ≤ 1) (hw : wps (eg_rm m_M_init) (eg_run (eg_rm m_M_init) (eg_R m_M_init Q (h.length + 26)) Q T_M_init 2) Q c_M_init_0 0 0 (eg_entry 1 as) [] h) : eg_Runs n_M_init as h Q := eg_begin2 (d := m_M_init) rfl (by decide) y_M_init_0 q_M_init hf hw
/-! ===== M_finding ===== -/
def c_M_finding_11 : List eg_I := .inl (11, 1, .lreturn, 0, 0) :: []
def c_M_finding_10 : List eg_I := .inl (10, 1, .lload 1, 0, 0) :: c_M_finding_11
def c_M_finding_7 : List eg_I := .inl (7, 3, .putfield 91, 12, 26) :: c_M_finding_10
def c_M_finding_6 : List eg_I := .inl (6, 1, .ladd, 0, 0) :: c_M_finding_7
def c_M_finding_5 : List eg_I := .inl (5, 1, .sipush (1), 0, 0) :: c_M_finding_6
def c_M_finding_2 : List eg_I := .inl (2, 3, .getfield 91, 12, 26) :: c_M_finding_5
def c_M_finding_1 : List eg_I := .inl (1, 1, .dup, 0, 0) :: c_M_finding_2
def c_M_finding_0 : List eg_I := .inl (0, 1, .aload 0, 0, 0) :: c_M_finding_1
section
variable {rm : Room} {K : Nat → Nat → Nat → eg_Lo → List Value → List eg_E → Prop} {Q : Option Value → List eg_E → Prop} {kc ks : Nat} {loc : eg_Lo} {st : List Value} {h : List eg_E}
theorem s_M_finding_0 {x : Nat} {l : eg_Lo} : wps rm K Q c_M_finding_0 kc ks (some (.ref x) :: l) (st) h = wps rm K Q c_M_finding_1 kc ks (some (.ref x) :: l) (.ref x :: st) h := gk_aload rfl
theorem s_M_finding_1 {x : Nat} : wps rm K Q c_M_finding_1 kc ks loc (.ref x :: st) h = wps rm K Q c_M_finding_2 kc ks loc (.ref x :: .ref x :: st) h := gk_dup
theorem s_M_finding_2 {x : Nat} : wps rm K Q c_M_finding_2 kc ks loc (.ref (x + 1) :: st) h = eg_gf h x 12 26 (fun v => wps rm K Q c_M_finding_5 kc ks loc (v :: st) h) := gk_gf
theorem s_M_finding_5  : wps rm K Q c_M_finding_5 kc ks loc (st) h = wps rm K Q c_M_finding_6 kc ks loc (.long (1) :: st) h := gk_lc (by decide)
theorem s_M_finding_6 {x y : Int64} : wps rm K Q c_M_finding_6 kc ks loc (.long y :: .long x :: st) h = wps rm K Q c_M_finding_7 kc ks loc (.long (x + y) :: st) h := gk_ladd
theorem s_M_finding_7 {x : Nat} {v : Value} : wps rm K Q c_M_finding_7 kc ks loc (v :: .ref (x + 1) :: st) h = eg_pf h x 12 26 v (fun h9 => wps rm K Q c_M_finding_10 kc ks loc (st) h9) := gk_pf
theorem s_M_finding_10 {x : Int64} {l0 : Option Value} {l : eg_Lo} : wps rm K Q c_M_finding_10 kc ks (l0 :: some (.long x) :: l) (st) h = wps rm K Q c_M_finding_11 kc ks (l0 :: some (.long x) :: l) (.long x :: st) h := gk_lload rfl
theorem s_M_finding_11 {x : Int64} : wps rm K Q c_M_finding_11 kc ks loc ([.long x]) h = (kc = rm.cells ∧ Q (some (.long x)) h) := gk_lret
def T_M_finding : List (Nat × List eg_I) := []
end
theorem y_M_finding_0 : eg_seq m_M_finding 0 c_M_finding_0 = true := by decide +kernel
theorem q_M_finding : ∀ q ∈ T_M_finding, eg_seq m_M_finding q.1 q.2 = true := by
  intro q hq
  cases hq
theorem b_M_finding {as : List Value} {h : List eg_E} {Q : Option Value → List eg_E → Prop} (hf : (eg_fl as).length ≤ 3) (hw : wps (eg_rm m_M_finding) (eg_run (eg_rm m_M_finding) (eg_R m_M_finding Q (h.length + 0)) Q T_M_finding 2) Q c_M_finding_0 0 0 (eg_entry 3 as) [] h) : eg_Runs n_M_finding as h Q := eg_begin2 (d := m_M_finding) rfl (by decide) y_M_finding_0 q_M_finding hf hw
/-! ===== M_isIn ===== -/
def c_M_isIn_15 : List eg_I := .inl (15, 1, .ireturn, 0, 1) :: []
def c_M_isIn_14 : List eg_I := .inl (14, 1, .iconst (0), 0, 0) :: c_M_isIn_15
def c_M_isIn_11 : List eg_I := .inl (11, 3, .goto (4), 15, 0) :: []
def c_M_isIn_10 : List eg_I := .inl (10, 1, .iconst (1), 0, 0) :: c_M_isIn_11
def c_M_isIn_7 : List eg_I := .inl (7, 3, .if_icmp .gt (7), 14, 0) :: c_M_isIn_10
def c_M_isIn_6 : List eg_I := .inl (6, 1, .iload 2, 0, 0) :: c_M_isIn_7
def c_M_isIn_5 : List eg_I := .inl (5, 1, .iload 0, 0, 0) :: c_M_isIn_6
def c_M_isIn_2 : List eg_I := .inl (2, 3, .if_icmp .lt (12), 14, 0) :: c_M_isIn_5
def c_M_isIn_1 : List eg_I := .inl (1, 1, .iload 1, 0, 0) :: c_M_isIn_2
def c_M_isIn_0 : List eg_I := .inl (0, 1, .iload 0, 0, 0) :: c_M_isIn_1
section
variable {rm : Room} {K : Nat → Nat → Nat → eg_Lo → List Value → List eg_E → Prop} {Q : Option Value → List eg_E → Prop} {kc ks : Nat} {loc : eg_Lo} {st : List Value} {h : List eg_E}
theorem s_M_isIn_0 {x : Int32} {l : eg_Lo} : wps rm K Q c_M_isIn_0 kc ks (some (.int x) :: l) (st) h = wps rm K Q c_M_isIn_1 kc ks (some (.int x) :: l) (.int x :: st) h := gk_iload rfl
theorem s_M_isIn_1 {x : Int32} {l0 : Option Value} {l : eg_Lo} : wps rm K Q c_M_isIn_1 kc ks (l0 :: some (.int x) :: l) (st) h = wps rm K Q c_M_isIn_2 kc ks (l0 :: some (.int x) :: l) (.int x :: st) h := gk_iload rfl
theorem s_M_isIn_2 {x y : Int32} : wps rm K Q c_M_isIn_2 kc ks loc (.int y :: .int x :: st) h = ((x < y → K 14 kc ks loc st h) ∧ (¬ x < y → wps rm K Q c_M_isIn_5 kc ks loc (st) h)) := gk_if2_lt
theorem s_M_isIn_5 {x : Int32} {l : eg_Lo} : wps rm K Q c_M_isIn_5 kc ks (some (.int x) :: l) (st) h = wps rm K Q c_M_isIn_6 kc ks (some (.int x) :: l) (.int x :: st) h := gk_iload rfl
theorem s_M_isIn_6 {x : Int32} {l0 l1 : Option Value} {l : eg_Lo} : wps rm K Q c_M_isIn_6 kc ks (l0 :: l1 :: some (.int x) :: l) (st) h = wps rm K Q c_M_isIn_7 kc ks (l0 :: l1 :: some (.int x) :: l) (.int x :: st) h := gk_iload rfl
theorem s_M_isIn_7 {x y : Int32} : wps rm K Q c_M_isIn_7 kc ks loc (.int y :: .int x :: st) h = ((y < x → K 14 kc ks loc st h) ∧ (¬ y < x → wps rm K Q c_M_isIn_10 kc ks loc (st) h)) := gk_if2_gt
theorem s_M_isIn_10  : wps rm K Q c_M_isIn_10 kc ks loc (st) h = wps rm K Q c_M_isIn_11 kc ks loc (.int (1) :: st) h := gk_ic (by decide)
theorem s_M_isIn_11  : wps rm K Q c_M_isIn_11 kc ks loc (st) h = K 15 kc ks loc st h := gk_goto
theorem s_M_isIn_14  : wps rm K Q c_M_isIn_14 kc ks loc (st) h = wps rm K Q c_M_isIn_15 kc ks loc (.int (0) :: st) h := gk_ic (by decide)
theorem s_M_isIn_15 {x : Int32} : wps rm K Q c_M_isIn_15 kc ks loc ([.int x]) h = (kc = rm.cells ∧ ((1 : Nat) = 1 → x = 0 ∨ x = 1) ∧ Q (some (.int x)) h) := gk_iret
def T_M_isIn : List (Nat × List eg_I) := [(14, c_M_isIn_14), (15, c_M_isIn_15)]
theorem j_M_isIn_14 {R : Nat → Nat → Nat → eg_Lo → List Value → List eg_E → Prop} {f pc0 : Nat} : eg_run rm R Q T_M_isIn (f + 1) 14 kc ks loc st h = wps rm (eg_run rm R Q T_M_isIn f) Q c_M_isIn_14 kc ks loc st h := rfl
theorem j_M_isIn_15 {R : Nat → Nat → Nat → eg_Lo → List Value → List eg_E → Prop} {f pc0 : Nat} : eg_run rm R Q T_M_isIn (f + 1) 15 kc ks loc st h = wps rm (eg_run rm R Q T_M_isIn f) Q c_M_isIn_15 kc ks loc st h := rfl
end
theorem y_M_isIn_0 : eg_seq m_M_isIn 0 c_M_isIn_0 = true := by decide +kernel
theorem y_M_isIn_14 : eg_seq m_M_isIn 14 c_M_isIn_14 = true := by decide +kernel
theorem q_M_isIn : ∀ q ∈ T_M_isIn, eg_seq m_M_isIn q.1 q.2 = true := by
  intro q hq
  simp only [T_M_isIn, List.mem_cons, List.not_mem_nil, or_false] at hq
  rcases hq with rfl | rfl
  · exact y_M_isIn_14
  · exact (eg_seq_drop y_M_isIn_14 1 : eg_seq m_M_isIn 15 c_M_isIn_15 = true)
theorem b_M_isIn {as : List Value} {h : List eg_E} {Q : Option Value → List eg_E → Prop} (hf : (eg_fl as).length ≤ 3) (hw : wps (eg_rm m_M_isIn) (eg_run (eg_rm m_M_isIn) (eg_R m_M_isIn Q (h.length + 0)) Q T_M_isIn 4) Q c_M_isIn_0 0 0 (eg_entry 3 as) [] h) : eg_Runs n_M_isIn as h Q := eg_begin2 (d := m_M_isIn) rfl (by decide) y_M_isIn_0 q_M_isIn hf hw
/-! ===== M_isPart ===== -/
def c_M_isPart_6 : List eg_I := .inl (6, 1, .ireturn, 0, 1) :: []
def c_M_isPart_3 : List eg_I := .inr (3, 0, 95, n_M_isIn, 3, 12, 0, 0) :: c_M_isPart_6
def c_M_isPart_2 : List eg_I := .inl (2, 1, .iconst (3), 0, 0) :: c_M_isPart_3
def c_M_isPart_1 : List eg_I := .inl (1, 1, .iconst (0), 0, 0) :: c_M_isPart_2
def c_M_isPart_0 : List eg_I := .inl (0, 1, .iload 0, 0, 0) :: c_M_isPart_1
section
variable {rm : Room} {K : Nat → Nat → Nat → eg_Lo → List Value → List eg_E → Prop} {Q : Option Value → List eg_E → Prop} {kc ks : Nat} {loc : eg_Lo} {st : List Value} {h : List eg_E}
theorem s_M_isPart_0 {x : Int32} {l : eg_Lo} : wps rm K Q c_M_isPart_0 kc ks (some (.int x) :: l) (st) h = wps rm K Q c_M_isPart_1 kc ks (some (.int x) :: l) (.int x :: st) h := gk_iload rfl
theorem s_M_isPart_1  : wps rm K Q c_M_isPart_1 kc ks loc (st) h = wps rm K Q c_M_isPart_2 kc ks loc (.int (0) :: st) h := gk_ic (by decide)
theorem s_M_isPart_2  : wps rm K Q c_M_isPart_2 kc ks loc (st) h = wps rm K Q c_M_isPart_3 kc ks loc (.int (3) :: st) h := gk_ic (by decide)
theorem s_M_isPart_3  {a1 : Value} {a2 : Value} {a3 : Value} : wps rm K Q c_M_isPart_3 kc ks loc (a3 :: a2 :: a1 :: st) h = (st.length ≤ 4 ∧ eg_Cs n_M_isIn [a1, a2, a3] h (fun v h9 => wps rm K Q c_M_isPart_6 kc ks loc (v.toList ++ st) h9)) := eg_c0_3
theorem s_M_isPart_6 {x : Int32} : wps rm K Q c_M_isPart_6 kc ks loc ([.int x]) h = (kc = rm.cells ∧ ((1 : Nat) = 1 → x = 0 ∨ x = 1) ∧ Q (some (.int x)) h) := gk_iret
def T_M_isPart : List (Nat × List eg_I) := []
end
theorem y_M_isPart_0 : eg_seq m_M_isPart 0 c_M_isPart_0 = true := by decide +kernel
theorem q_M_isPart : ∀ q ∈ T_M_isPart, eg_seq m_M_isPart q.1 q.2 = true := by
  intro q hq
  cases hq
theorem b_M_isPart {as : List Value} {h : List eg_E} {Q : Option Value → List eg_E → Prop} (hf : (eg_fl as).length ≤ 1) (hw : wps (eg_rm m_M_isPart) (eg_run (eg_rm m_M_isPart) (eg_R m_M_isPart Q (h.length + 0)) Q T_M_isPart 2) Q c_M_isPart_0 0 0 (eg_entry 1 as) [] h) : eg_Runs n_M_isPart as h Q := eg_begin2 (d := m_M_isPart) rfl (by decide) y_M_isPart_0 q_M_isPart hf hw
/-! ===== M_isPoint ===== -/
def c_M_isPoint_26 : List eg_I := .inl (26, 1, .ireturn, 0, 1) :: []
def c_M_isPoint_25 : List eg_I := .inl (25, 1, .iconst (0), 0, 0) :: c_M_isPoint_26
def c_M_isPoint_22 : List eg_I := .inl (22, 3, .goto (4), 26, 0) :: []
def c_M_isPoint_21 : List eg_I := .inl (21, 1, .iconst (1), 0, 0) :: c_M_isPoint_22
def c_M_isPoint_18 : List eg_I := .inl (18, 3, .if_icmp .ge (7), 25, 0) :: c_M_isPoint_21
def c_M_isPoint_17 : List eg_I := .inl (17, 1, .iaload, 0, 0) :: c_M_isPoint_18
def c_M_isPoint_16 : List eg_I := .inl (16, 1, .iload 1, 0, 0) :: c_M_isPoint_17
def c_M_isPoint_13 : List eg_I := .inl (13, 3, .getfield 9, 12, 0) :: c_M_isPoint_16
def c_M_isPoint_12 : List eg_I := .inl (12, 1, .aload 0, 0, 0) :: c_M_isPoint_13
def c_M_isPoint_11 : List eg_I := .inl (11, 1, .iload 2, 0, 0) :: c_M_isPoint_12
def c_M_isPoint_8 : List eg_I := .inl (8, 3, .ifCond .lt (17), 25, 0) :: c_M_isPoint_11
def c_M_isPoint_7 : List eg_I := .inl (7, 1, .iload 2, 0, 0) :: c_M_isPoint_8
def c_M_isPoint_4 : List eg_I := .inl (4, 3, .ifCond .eq (21), 25, 0) :: c_M_isPoint_7
def c_M_isPoint_1 : List eg_I := .inr (1, 0, 99, n_M_isPart, 1, 12, 0, 0) :: c_M_isPoint_4
def c_M_isPoint_0 : List eg_I := .inl (0, 1, .iload 1, 0, 0) :: c_M_isPoint_1
section
variable {rm : Room} {K : Nat → Nat → Nat → eg_Lo → List Value → List eg_E → Prop} {Q : Option Value → List eg_E → Prop} {kc ks : Nat} {loc : eg_Lo} {st : List Value} {h : List eg_E}
theorem s_M_isPoint_0 {x : Int32} {l0 : Option Value} {l : eg_Lo} : wps rm K Q c_M_isPoint_0 kc ks (l0 :: some (.int x) :: l) (st) h = wps rm K Q c_M_isPoint_1 kc ks (l0 :: some (.int x) :: l) (.int x :: st) h := gk_iload rfl
theorem s_M_isPoint_1  {a1 : Value} : wps rm K Q c_M_isPoint_1 kc ks loc (a1 :: st) h = (st.length ≤ 4 ∧ eg_Cs n_M_isPart [a1] h (fun v h9 => wps rm K Q c_M_isPoint_4 kc ks loc (v.toList ++ st) h9)) := eg_c0_1
theorem s_M_isPoint_4 {x : Int32} : wps rm K Q c_M_isPoint_4 kc ks loc (.int x :: st) h = ((x = 0 → K 25 kc ks loc st h) ∧ (¬ x = 0 → wps rm K Q c_M_isPoint_7 kc ks loc (st) h)) := gk_if1_eq
theorem s_M_isPoint_7 {x : Int32} {l0 l1 : Option Value} {l : eg_Lo} : wps rm K Q c_M_isPoint_7 kc ks (l0 :: l1 :: some (.int x) :: l) (st) h = wps rm K Q c_M_isPoint_8 kc ks (l0 :: l1 :: some (.int x) :: l) (.int x :: st) h := gk_iload rfl
theorem s_M_isPoint_8 {x : Int32} : wps rm K Q c_M_isPoint_8 kc ks loc (.int x :: st) h = ((x < 0 → K 25 kc ks loc st h) ∧ (¬ x < 0 → wps rm K Q c_M_isPoint_11 kc ks loc (st) h)) := gk_if1_lt
theorem s_M_isPoint_11 {x : Int32} {l0 l1 : Option Value} {l : eg_Lo} : wps rm K Q c_M_isPoint_11 kc ks (l0 :: l1 :: some (.int x) :: l) (st) h = wps rm K Q c_M_isPoint_12 kc ks (l0 :: l1 :: some (.int x) :: l) (.int x :: st) h := gk_iload rfl
theorem s_M_isPoint_12 {x : Nat} {l : eg_Lo} : wps rm K Q c_M_isPoint_12 kc ks (some (.ref x) :: l) (st) h = wps rm K Q c_M_isPoint_13 kc ks (some (.ref x) :: l) (.ref x :: st) h := gk_aload rfl
theorem s_M_isPoint_13 {x : Nat} : wps rm K Q c_M_isPoint_13 kc ks loc (.ref (x + 1) :: st) h = eg_gf h x 12 0 (fun v => wps rm K Q c_M_isPoint_16 kc ks loc (v :: st) h) := gk_gf
theorem s_M_isPoint_16 {x : Int32} {l0 : Option Value} {l : eg_Lo} : wps rm K Q c_M_isPoint_16 kc ks (l0 :: some (.int x) :: l) (st) h = wps rm K Q c_M_isPoint_17 kc ks (l0 :: some (.int x) :: l) (.int x :: st) h := gk_iload rfl
theorem s_M_isPoint_17 {x : Nat} {i : Int32} : wps rm K Q c_M_isPoint_17 kc ks loc (.int i :: .ref (x + 1) :: st) h = eg_ia h x i (fun v => wps rm K Q c_M_isPoint_18 kc ks loc (.int v :: st) h) := gk_iaload
theorem s_M_isPoint_18 {x y : Int32} : wps rm K Q c_M_isPoint_18 kc ks loc (.int y :: .int x :: st) h = ((y ≤ x → K 25 kc ks loc st h) ∧ (¬ y ≤ x → wps rm K Q c_M_isPoint_21 kc ks loc (st) h)) := gk_if2_ge
theorem s_M_isPoint_21  : wps rm K Q c_M_isPoint_21 kc ks loc (st) h = wps rm K Q c_M_isPoint_22 kc ks loc (.int (1) :: st) h := gk_ic (by decide)
theorem s_M_isPoint_22  : wps rm K Q c_M_isPoint_22 kc ks loc (st) h = K 26 kc ks loc st h := gk_goto
theorem s_M_isPoint_25  : wps rm K Q c_M_isPoint_25 kc ks loc (st) h = wps rm K Q c_M_isPoint_26 kc ks loc (.int (0) :: st) h := gk_ic (by decide)
theorem s_M_isPoint_26 {x : Int32} : wps rm K Q c_M_isPoint_26 kc ks loc ([.int x]) h = (kc = rm.cells ∧ ((1 : Nat) = 1 → x = 0 ∨ x = 1) ∧ Q (some (.int x)) h) := gk_iret
def T_M_isPoint : List (Nat × List eg_I) := [(25, c_M_isPoint_25), (26, c_M_isPoint_26)]
theorem j_M_isPoint_25 {R : Nat → Nat → Nat → eg_Lo → List Value → List eg_E → Prop} {f pc0 : Nat} : eg_run rm R Q T_M_isPoint (f + 1) 25 kc ks loc st h = wps rm (eg_run rm R Q T_M_isPoint f) Q c_M_isPoint_25 kc ks loc st h := rfl
theorem j_M_isPoint_26 {R : Nat → Nat → Nat → eg_Lo → List Value → List eg_E → Prop} {f pc0 : Nat} : eg_run rm R Q T_M_isPoint (f + 1) 26 kc ks loc st h = wps rm (eg_run rm R Q T_M_isPoint f) Q c_M_isPoint_26 kc ks loc st h := rfl
end
theorem y_M_isPoint_0 : eg_seq m_M_isPoint 0 c_M_isPoint_0 = true := by decide +kernel
theorem y_M_isPoint_25 : eg_seq m_M_isPoint 25 c_M_isPoint_25 = true := by decide +kernel
theorem q_M_isPoint : ∀ q ∈ T_M_isPoint, eg_seq m_M_isPoint q.1 q.2 = true := by
  intro q hq
  simp only [T_M_isPoint, List.mem_cons, List.not_mem_nil, or_false] at hq
  rcases hq with rfl | rfl
  · exact y_M_isPoint_25
  · exact (eg_seq_drop y_M_isPoint_25 1 : eg_seq m_M_isPoint 26 c_M_isPoint_26 = true)
theorem b_M_isPoint {as : List Value} {h : List eg_E} {Q : Option Value → List eg_E → Prop} (hf : (eg_fl as).length ≤ 3) (hw : wps (eg_rm m_M_isPoint) (eg_run (eg_rm m_M_isPoint) (eg_R m_M_isPoint Q (h.length + 0)) Q T_M_isPoint 4) Q c_M_isPoint_0 0 0 (eg_entry 3 as) [] h) : eg_Runs n_M_isPoint as h Q := eg_begin2 (d := m_M_isPoint) rfl (by decide) y_M_isPoint_0 q_M_isPoint hf hw
/-! ===== M_at_II ===== -/
def c_M_at_II_6 : List eg_I := .inl (6, 1, .ireturn, 0, 0) :: []
def c_M_at_II_5 : List eg_I := .inl (5, 1, .iadd, 0, 0) :: c_M_at_II_6
def c_M_at_II_4 : List eg_I := .inl (4, 1, .iload 1, 0, 0) :: c_M_at_II_5
def c_M_at_II_3 : List eg_I := .inl (3, 1, .imul, 0, 0) :: c_M_at_II_4
def c_M_at_II_2 : List eg_I := .inl (2, 1, .iload 0, 0, 0) :: c_M_at_II_3
def c_M_at_II_0 : List eg_I := .inl (0, 2, .iconst (16), 0, 0) :: c_M_at_II_2
section
variable {rm : Room} {K : Nat → Nat → Nat → eg_Lo → List Value → List eg_E → Prop} {Q : Option Value → List eg_E → Prop} {kc ks : Nat} {loc : eg_Lo} {st : List Value} {h : List eg_E}
theorem s_M_at_II_0  : wps rm K Q c_M_at_II_0 kc ks loc (st) h = wps rm K Q c_M_at_II_2 kc ks loc (.int (16) :: st) h := gk_ic (by decide)
theorem s_M_at_II_2 {x : Int32} {l : eg_Lo} : wps rm K Q c_M_at_II_2 kc ks (some (.int x) :: l) (st) h = wps rm K Q c_M_at_II_3 kc ks (some (.int x) :: l) (.int x :: st) h := gk_iload rfl
theorem s_M_at_II_3 {x y : Int32} : wps rm K Q c_M_at_II_3 kc ks loc (.int y :: .int x :: st) h = wps rm K Q c_M_at_II_4 kc ks loc (.int (x * y) :: st) h := gk_imul
theorem s_M_at_II_4 {x : Int32} {l0 : Option Value} {l : eg_Lo} : wps rm K Q c_M_at_II_4 kc ks (l0 :: some (.int x) :: l) (st) h = wps rm K Q c_M_at_II_5 kc ks (l0 :: some (.int x) :: l) (.int x :: st) h := gk_iload rfl
theorem s_M_at_II_5 {x y : Int32} : wps rm K Q c_M_at_II_5 kc ks loc (.int y :: .int x :: st) h = wps rm K Q c_M_at_II_6 kc ks loc (.int (x + y) :: st) h := gk_iadd
theorem s_M_at_II_6 {x : Int32} : wps rm K Q c_M_at_II_6 kc ks loc ([.int x]) h = (kc = rm.cells ∧ (0 = 1 → x = 0 ∨ x = 1) ∧ Q (some (.int x)) h) := gk_iret
def T_M_at_II : List (Nat × List eg_I) := []
end
theorem y_M_at_II_0 : eg_seq m_M_at_II 0 c_M_at_II_0 = true := by decide +kernel
theorem q_M_at_II : ∀ q ∈ T_M_at_II, eg_seq m_M_at_II q.1 q.2 = true := by
  intro q hq
  cases hq
theorem b_M_at_II {as : List Value} {h : List eg_E} {Q : Option Value → List eg_E → Prop} (hf : (eg_fl as).length ≤ 2) (hw : wps (eg_rm m_M_at_II) (eg_run (eg_rm m_M_at_II) (eg_R m_M_at_II Q (h.length + 0)) Q T_M_at_II 2) Q c_M_at_II_0 0 0 (eg_entry 2 as) [] h) : eg_Runs n_M_at_II as h Q := eg_begin2 (d := m_M_at_II) rfl (by decide) y_M_at_II_0 q_M_at_II hf hw
/-! ===== M_add ===== -/
def c_M_add_56 : List eg_I := .inl (56, 1, .return_, 0, 0) :: []
def c_M_add_55 : List eg_I := .inl (55, 1, .iastore, 0, 0) :: c_M_add_56
def c_M_add_54 : List eg_I := .inl (54, 1, .iadd, 0, 0) :: c_M_add_55
def c_M_add_53 : List eg_I := .inl (53, 1, .iconst (1), 0, 0) :: c_M_add_54
def c_M_add_52 : List eg_I := .inl (52, 1, .iaload, 0, 0) :: c_M_add_53
def c_M_add_51 : List eg_I := .inl (51, 1, .dup2, 0, 0) :: c_M_add_52
def c_M_add_50 : List eg_I := .inl (50, 1, .iload 1, 0, 0) :: c_M_add_51
def c_M_add_47 : List eg_I := .inl (47, 3, .getfield 9, 12, 0) :: c_M_add_50
def c_M_add_46 : List eg_I := .inl (46, 1, .aload 0, 0, 0) :: c_M_add_47
def c_M_add_45 : List eg_I := .inl (45, 1, .bastore, 0, 0) :: c_M_add_46
def c_M_add_43 : List eg_I := .inl (43, 2, .iload 5, 0, 0) :: c_M_add_45
def c_M_add_41 : List eg_I := .inl (41, 2, .iload 6, 0, 0) :: c_M_add_43
def c_M_add_38 : List eg_I := .inl (38, 3, .getfield 22, 12, 4) :: c_M_add_41
def c_M_add_37 : List eg_I := .inl (37, 1, .aload 0, 0, 0) :: c_M_add_38
def c_M_add_36 : List eg_I := .inl (36, 1, .iastore, 0, 0) :: c_M_add_37
def c_M_add_34 : List eg_I := .inl (34, 2, .iload 4, 0, 0) :: c_M_add_36
def c_M_add_32 : List eg_I := .inl (32, 2, .iload 6, 0, 0) :: c_M_add_34
def c_M_add_29 : List eg_I := .inl (29, 3, .getfield 19, 12, 3) :: c_M_add_32
def c_M_add_28 : List eg_I := .inl (28, 1, .aload 0, 0, 0) :: c_M_add_29
def c_M_add_27 : List eg_I := .inl (27, 1, .iastore, 0, 0) :: c_M_add_28
def c_M_add_26 : List eg_I := .inl (26, 1, .iload 3, 0, 0) :: c_M_add_27
def c_M_add_24 : List eg_I := .inl (24, 2, .iload 6, 0, 0) :: c_M_add_26
def c_M_add_21 : List eg_I := .inl (21, 3, .getfield 16, 12, 2) :: c_M_add_24
def c_M_add_20 : List eg_I := .inl (20, 1, .aload 0, 0, 0) :: c_M_add_21
def c_M_add_19 : List eg_I := .inl (19, 1, .iastore, 0, 0) :: c_M_add_20
def c_M_add_18 : List eg_I := .inl (18, 1, .iload 2, 0, 0) :: c_M_add_19
def c_M_add_16 : List eg_I := .inl (16, 2, .iload 6, 0, 0) :: c_M_add_18
def c_M_add_13 : List eg_I := .inl (13, 3, .getfield 13, 12, 1) :: c_M_add_16
def c_M_add_12 : List eg_I := .inl (12, 1, .aload 0, 0, 0) :: c_M_add_13
def c_M_add_10 : List eg_I := .inl (10, 2, .istore 6, 0, 0) :: c_M_add_12
def c_M_add_7 : List eg_I := .inr (7, 0, 103, n_M_at_II, 2, 12, 0, 0) :: c_M_add_10
def c_M_add_6 : List eg_I := .inl (6, 1, .iaload, 0, 0) :: c_M_add_7
def c_M_add_5 : List eg_I := .inl (5, 1, .iload 1, 0, 0) :: c_M_add_6
def c_M_add_2 : List eg_I := .inl (2, 3, .getfield 9, 12, 0) :: c_M_add_5
def c_M_add_1 : List eg_I := .inl (1, 1, .aload 0, 0, 0) :: c_M_add_2
def c_M_add_0 : List eg_I := .inl (0, 1, .iload 1, 0, 0) :: c_M_add_1
section
variable {rm : Room} {K : Nat → Nat → Nat → eg_Lo → List Value → List eg_E → Prop} {Q : Option Value → List eg_E → Prop} {kc ks : Nat} {loc : eg_Lo} {st : List Value} {h : List eg_E}
theorem s_M_add_0 {x : Int32} {l0 : Option Value} {l : eg_Lo} : wps rm K Q c_M_add_0 kc ks (l0 :: some (.int x) :: l) (st) h = wps rm K Q c_M_add_1 kc ks (l0 :: some (.int x) :: l) (.int x :: st) h := gk_iload rfl
theorem s_M_add_1 {x : Nat} {l : eg_Lo} : wps rm K Q c_M_add_1 kc ks (some (.ref x) :: l) (st) h = wps rm K Q c_M_add_2 kc ks (some (.ref x) :: l) (.ref x :: st) h := gk_aload rfl
theorem s_M_add_2 {x : Nat} : wps rm K Q c_M_add_2 kc ks loc (.ref (x + 1) :: st) h = eg_gf h x 12 0 (fun v => wps rm K Q c_M_add_5 kc ks loc (v :: st) h) := gk_gf
theorem s_M_add_5 {x : Int32} {l0 : Option Value} {l : eg_Lo} : wps rm K Q c_M_add_5 kc ks (l0 :: some (.int x) :: l) (st) h = wps rm K Q c_M_add_6 kc ks (l0 :: some (.int x) :: l) (.int x :: st) h := gk_iload rfl
theorem s_M_add_6 {x : Nat} {i : Int32} : wps rm K Q c_M_add_6 kc ks loc (.int i :: .ref (x + 1) :: st) h = eg_ia h x i (fun v => wps rm K Q c_M_add_7 kc ks loc (.int v :: st) h) := gk_iaload
theorem s_M_add_7  {a1 : Value} {a2 : Value} : wps rm K Q c_M_add_7 kc ks loc (a2 :: a1 :: st) h = (st.length ≤ 4 ∧ eg_Cs n_M_at_II [a1, a2] h (fun v h9 => wps rm K Q c_M_add_10 kc ks loc (v.toList ++ st) h9)) := eg_c0_2
theorem s_M_add_10 {x : Int32} : wps rm K Q c_M_add_10 kc ks loc (.int x :: st) h = wps rm K Q c_M_add_12 kc ks (eg_set1 loc 6 (.int x)) (st) h := gk_istore
theorem s_M_add_12 {x : Nat} {l : eg_Lo} : wps rm K Q c_M_add_12 kc ks (some (.ref x) :: l) (st) h = wps rm K Q c_M_add_13 kc ks (some (.ref x) :: l) (.ref x :: st) h := gk_aload rfl
theorem s_M_add_13 {x : Nat} : wps rm K Q c_M_add_13 kc ks loc (.ref (x + 1) :: st) h = eg_gf h x 12 1 (fun v => wps rm K Q c_M_add_16 kc ks loc (v :: st) h) := gk_gf
theorem s_M_add_16 {x : Int32} {l0 l1 l2 l3 l4 l5 : Option Value} {l : eg_Lo} : wps rm K Q c_M_add_16 kc ks (l0 :: l1 :: l2 :: l3 :: l4 :: l5 :: some (.int x) :: l) (st) h = wps rm K Q c_M_add_18 kc ks (l0 :: l1 :: l2 :: l3 :: l4 :: l5 :: some (.int x) :: l) (.int x :: st) h := gk_iload rfl
theorem s_M_add_18 {x : Int32} {l0 l1 : Option Value} {l : eg_Lo} : wps rm K Q c_M_add_18 kc ks (l0 :: l1 :: some (.int x) :: l) (st) h = wps rm K Q c_M_add_19 kc ks (l0 :: l1 :: some (.int x) :: l) (.int x :: st) h := gk_iload rfl
theorem s_M_add_19 {x : Nat} {i : Int32} {v : Int32} : wps rm K Q c_M_add_19 kc ks loc (.int v :: .int i :: .ref (x + 1) :: st) h = eg_is h x i v (fun h9 => wps rm K Q c_M_add_20 kc ks loc (st) h9) := gk_iastore
theorem s_M_add_20 {x : Nat} {l : eg_Lo} : wps rm K Q c_M_add_20 kc ks (some (.ref x) :: l) (st) h = wps rm K Q c_M_add_21 kc ks (some (.ref x) :: l) (.ref x :: st) h := gk_aload rfl
theorem s_M_add_21 {x : Nat} : wps rm K Q c_M_add_21 kc ks loc (.ref (x + 1) :: st) h = eg_gf h x 12 2 (fun v => wps rm K Q c_M_add_24 kc ks loc (v :: st) h) := gk_gf
theorem s_M_add_24 {x : Int32} {l0 l1 l2 l3 l4 l5 : Option Value} {l : eg_Lo} : wps rm K Q c_M_add_24 kc ks (l0 :: l1 :: l2 :: l3 :: l4 :: l5 :: some (.int x) :: l) (st) h = wps rm K Q c_M_add_26 kc ks (l0 :: l1 :: l2 :: l3 :: l4 :: l5 :: some (.int x) :: l) (.int x :: st) h := gk_iload rfl
theorem s_M_add_26 {x : Int32} {l0 l1 l2 : Option Value} {l : eg_Lo} : wps rm K Q c_M_add_26 kc ks (l0 :: l1 :: l2 :: some (.int x) :: l) (st) h = wps rm K Q c_M_add_27 kc ks (l0 :: l1 :: l2 :: some (.int x) :: l) (.int x :: st) h := gk_iload rfl
theorem s_M_add_27 {x : Nat} {i : Int32} {v : Int32} : wps rm K Q c_M_add_27 kc ks loc (.int v :: .int i :: .ref (x + 1) :: st) h = eg_is h x i v (fun h9 => wps rm K Q c_M_add_28 kc ks loc (st) h9) := gk_iastore
theorem s_M_add_28 {x : Nat} {l : eg_Lo} : wps rm K Q c_M_add_28 kc ks (some (.ref x) :: l) (st) h = wps rm K Q c_M_add_29 kc ks (some (.ref x) :: l) (.ref x :: st) h := gk_aload rfl
theorem s_M_add_29 {x : Nat} : wps rm K Q c_M_add_29 kc ks loc (.ref (x + 1) :: st) h = eg_gf h x 12 3 (fun v => wps rm K Q c_M_add_32 kc ks loc (v :: st) h) := gk_gf
theorem s_M_add_32 {x : Int32} {l0 l1 l2 l3 l4 l5 : Option Value} {l : eg_Lo} : wps rm K Q c_M_add_32 kc ks (l0 :: l1 :: l2 :: l3 :: l4 :: l5 :: some (.int x) :: l) (st) h = wps rm K Q c_M_add_34 kc ks (l0 :: l1 :: l2 :: l3 :: l4 :: l5 :: some (.int x) :: l) (.int x :: st) h := gk_iload rfl
theorem s_M_add_34 {x : Int32} {l0 l1 l2 l3 : Option Value} {l : eg_Lo} : wps rm K Q c_M_add_34 kc ks (l0 :: l1 :: l2 :: l3 :: some (.int x) :: l) (st) h = wps rm K Q c_M_add_36 kc ks (l0 :: l1 :: l2 :: l3 :: some (.int x) :: l) (.int x :: st) h := gk_iload rfl
theorem s_M_add_36 {x : Nat} {i : Int32} {v : Int32} : wps rm K Q c_M_add_36 kc ks loc (.int v :: .int i :: .ref (x + 1) :: st) h = eg_is h x i v (fun h9 => wps rm K Q c_M_add_37 kc ks loc (st) h9) := gk_iastore
theorem s_M_add_37 {x : Nat} {l : eg_Lo} : wps rm K Q c_M_add_37 kc ks (some (.ref x) :: l) (st) h = wps rm K Q c_M_add_38 kc ks (some (.ref x) :: l) (.ref x :: st) h := gk_aload rfl
theorem s_M_add_38 {x : Nat} : wps rm K Q c_M_add_38 kc ks loc (.ref (x + 1) :: st) h = eg_gf h x 12 4 (fun v => wps rm K Q c_M_add_41 kc ks loc (v :: st) h) := gk_gf
theorem s_M_add_41 {x : Int32} {l0 l1 l2 l3 l4 l5 : Option Value} {l : eg_Lo} : wps rm K Q c_M_add_41 kc ks (l0 :: l1 :: l2 :: l3 :: l4 :: l5 :: some (.int x) :: l) (st) h = wps rm K Q c_M_add_43 kc ks (l0 :: l1 :: l2 :: l3 :: l4 :: l5 :: some (.int x) :: l) (.int x :: st) h := gk_iload rfl
theorem s_M_add_43 {x : Int32} {l0 l1 l2 l3 l4 : Option Value} {l : eg_Lo} : wps rm K Q c_M_add_43 kc ks (l0 :: l1 :: l2 :: l3 :: l4 :: some (.int x) :: l) (st) h = wps rm K Q c_M_add_45 kc ks (l0 :: l1 :: l2 :: l3 :: l4 :: some (.int x) :: l) (.int x :: st) h := gk_iload rfl
theorem s_M_add_45 {x : Nat} {i : Int32} {v : Int32} : wps rm K Q c_M_add_45 kc ks loc (.int v :: .int i :: .ref (x + 1) :: st) h = eg_bs h x i v (fun h9 => wps rm K Q c_M_add_46 kc ks loc (st) h9) := gk_bastore
theorem s_M_add_46 {x : Nat} {l : eg_Lo} : wps rm K Q c_M_add_46 kc ks (some (.ref x) :: l) (st) h = wps rm K Q c_M_add_47 kc ks (some (.ref x) :: l) (.ref x :: st) h := gk_aload rfl
theorem s_M_add_47 {x : Nat} : wps rm K Q c_M_add_47 kc ks loc (.ref (x + 1) :: st) h = eg_gf h x 12 0 (fun v => wps rm K Q c_M_add_50 kc ks loc (v :: st) h) := gk_gf
theorem s_M_add_50 {x : Int32} {l0 : Option Value} {l : eg_Lo} : wps rm K Q c_M_add_50 kc ks (l0 :: some (.int x) :: l) (st) h = wps rm K Q c_M_add_51 kc ks (l0 :: some (.int x) :: l) (.int x :: st) h := gk_iload rfl
theorem s_M_add_51 {y : Int32} {x : Nat} : wps rm K Q c_M_add_51 kc ks loc (.int y :: .ref x :: st) h = wps rm K Q c_M_add_52 kc ks loc (.int y :: .ref x :: .int y :: .ref x :: st) h := gk_dup2
theorem s_M_add_52 {x : Nat} {i : Int32} : wps rm K Q c_M_add_52 kc ks loc (.int i :: .ref (x + 1) :: st) h = eg_ia h x i (fun v => wps rm K Q c_M_add_53 kc ks loc (.int v :: st) h) := gk_iaload
theorem s_M_add_53  : wps rm K Q c_M_add_53 kc ks loc (st) h = wps rm K Q c_M_add_54 kc ks loc (.int (1) :: st) h := gk_ic (by decide)
theorem s_M_add_54 {x y : Int32} : wps rm K Q c_M_add_54 kc ks loc (.int y :: .int x :: st) h = wps rm K Q c_M_add_55 kc ks loc (.int (x + y) :: st) h := gk_iadd
theorem s_M_add_55 {x : Nat} {i : Int32} {v : Int32} : wps rm K Q c_M_add_55 kc ks loc (.int v :: .int i :: .ref (x + 1) :: st) h = eg_is h x i v (fun h9 => wps rm K Q c_M_add_56 kc ks loc (st) h9) := gk_iastore
theorem s_M_add_56  : wps rm K Q c_M_add_56 kc ks loc ([]) h = (kc = rm.cells ∧ Q none h) := gk_vret
def T_M_add : List (Nat × List eg_I) := []
end
theorem y_M_add_0 : eg_seq m_M_add 0 c_M_add_0 = true := by decide +kernel
theorem q_M_add : ∀ q ∈ T_M_add, eg_seq m_M_add q.1 q.2 = true := by
  intro q hq
  cases hq
theorem b_M_add {as : List Value} {h : List eg_E} {Q : Option Value → List eg_E → Prop} (hf : (eg_fl as).length ≤ 7) (hw : wps (eg_rm m_M_add) (eg_run (eg_rm m_M_add) (eg_R m_M_add Q (h.length + 0)) Q T_M_add 2) Q c_M_add_0 0 0 (eg_entry 7 as) [] h) : eg_Runs n_M_add as h Q := eg_begin2 (d := m_M_add) rfl (by decide) y_M_add_0 q_M_add hf hw
/-! ===== M_isNear ===== -/
def c_M_isNear_10 : List eg_I := .inl (10, 1, .ireturn, 0, 1) :: []
def c_M_isNear_7 : List eg_I := .inr (7, 0, 95, n_M_isIn, 3, 12, 0, 0) :: c_M_isNear_10
def c_M_isNear_4 : List eg_I := .inl (4, 3, .iconst (300), 0, 0) :: c_M_isNear_7
def c_M_isNear_1 : List eg_I := .inl (1, 3, .iconst (-300), 0, 0) :: c_M_isNear_4
def c_M_isNear_0 : List eg_I := .inl (0, 1, .iload 0, 0, 0) :: c_M_isNear_1
section
variable {rm : Room} {K : Nat → Nat → Nat → eg_Lo → List Value → List eg_E → Prop} {Q : Option Value → List eg_E → Prop} {kc ks : Nat} {loc : eg_Lo} {st : List Value} {h : List eg_E}
theorem s_M_isNear_0 {x : Int32} {l : eg_Lo} : wps rm K Q c_M_isNear_0 kc ks (some (.int x) :: l) (st) h = wps rm K Q c_M_isNear_1 kc ks (some (.int x) :: l) (.int x :: st) h := gk_iload rfl
theorem s_M_isNear_1  : wps rm K Q c_M_isNear_1 kc ks loc (st) h = wps rm K Q c_M_isNear_4 kc ks loc (.int (-300) :: st) h := gk_ic (by decide)
theorem s_M_isNear_4  : wps rm K Q c_M_isNear_4 kc ks loc (st) h = wps rm K Q c_M_isNear_7 kc ks loc (.int (300) :: st) h := gk_ic (by decide)
theorem s_M_isNear_7  {a1 : Value} {a2 : Value} {a3 : Value} : wps rm K Q c_M_isNear_7 kc ks loc (a3 :: a2 :: a1 :: st) h = (st.length ≤ 4 ∧ eg_Cs n_M_isIn [a1, a2, a3] h (fun v h9 => wps rm K Q c_M_isNear_10 kc ks loc (v.toList ++ st) h9)) := eg_c0_3
theorem s_M_isNear_10 {x : Int32} : wps rm K Q c_M_isNear_10 kc ks loc ([.int x]) h = (kc = rm.cells ∧ ((1 : Nat) = 1 → x = 0 ∨ x = 1) ∧ Q (some (.int x)) h) := gk_iret
def T_M_isNear : List (Nat × List eg_I) := []
end
theorem y_M_isNear_0 : eg_seq m_M_isNear 0 c_M_isNear_0 = true := by decide +kernel
theorem q_M_isNear : ∀ q ∈ T_M_isNear, eg_seq m_M_isNear q.1 q.2 = true := by
  intro q hq
  cases hq
theorem b_M_isNear {as : List Value} {h : List eg_E} {Q : Option Value → List eg_E → Prop} (hf : (eg_fl as).length ≤ 1) (hw : wps (eg_rm m_M_isNear) (eg_run (eg_rm m_M_isNear) (eg_R m_M_isNear Q (h.length + 0)) Q T_M_isNear 2) Q c_M_isNear_0 0 0 (eg_entry 1 as) [] h) : eg_Runs n_M_isNear as h Q := eg_begin2 (d := m_M_isNear) rfl (by decide) y_M_isNear_0 q_M_isNear hf hw
/-! ===== M_point ===== -/
def c_M_point_73 : List eg_I := .inl (73, 1, .lreturn, 0, 0) :: []
def c_M_point_72 : List eg_I := .inl (72, 1, .i2l, 0, 0) :: c_M_point_73
def c_M_point_71 : List eg_I := .inl (71, 1, .iaload, 0, 0) :: c_M_point_72
def c_M_point_70 : List eg_I := .inl (70, 1, .iload 1, 0, 0) :: c_M_point_71
def c_M_point_67 : List eg_I := .inl (67, 3, .getfield 9, 12, 0) :: c_M_point_70
def c_M_point_66 : List eg_I := .inl (66, 1, .aload 0, 0, 0) :: c_M_point_67
def c_M_point_63 : List eg_I := .inr (63, 1, 118, n_M_add, 5, 12, 0, 0) :: c_M_point_66
def c_M_point_62 : List eg_I := .inl (62, 1, .iconst (0), 0, 0) :: c_M_point_63
def c_M_point_60 : List eg_I := .inl (60, 2, .iload 4, 0, 0) :: c_M_point_62
def c_M_point_59 : List eg_I := .inl (59, 1, .iload 3, 0, 0) :: c_M_point_60
def c_M_point_58 : List eg_I := .inl (58, 1, .iload 2, 0, 0) :: c_M_point_59
def c_M_point_57 : List eg_I := .inl (57, 1, .iload 1, 0, 0) :: c_M_point_58
def c_M_point_56 : List eg_I := .inl (56, 1, .aload 0, 0, 0) :: c_M_point_57
def c_M_point_55 : List eg_I := .inl (55, 1, .lreturn, 0, 0) :: []
def c_M_point_52 : List eg_I := .inr (52, 1, 112, n_M_finding, 1, 12, 0, 0) :: c_M_point_55
def c_M_point_49 : List eg_I := .inl (49, 3, .sipush (-1000000000000000005), 116, 0) :: c_M_point_52
def c_M_point_48 : List eg_I := .inl (48, 1, .aload 0, 0, 0) :: c_M_point_49
def c_M_point_45 : List eg_I := .inl (45, 3, .if_icmp .ne (11), 56, 0) :: c_M_point_48
def c_M_point_43 : List eg_I := .inl (43, 2, .iconst (16), 0, 0) :: c_M_point_45
def c_M_point_42 : List eg_I := .inl (42, 1, .iaload, 0, 0) :: c_M_point_43
def c_M_point_41 : List eg_I := .inl (41, 1, .iload 1, 0, 0) :: c_M_point_42
def c_M_point_38 : List eg_I := .inl (38, 3, .getfield 9, 12, 0) :: c_M_point_41
def c_M_point_37 : List eg_I := .inl (37, 1, .aload 0, 0, 0) :: c_M_point_38
def c_M_point_36 : List eg_I := .inl (36, 1, .lreturn, 0, 0) :: []
def c_M_point_33 : List eg_I := .inr (33, 1, 112, n_M_finding, 1, 12, 0, 0) :: c_M_point_36
def c_M_point_30 : List eg_I := .inl (30, 3, .sipush (-1000000000000000001), 110, 0) :: c_M_point_33
def c_M_point_29 : List eg_I := .inl (29, 1, .aload 0, 0, 0) :: c_M_point_30
def c_M_point_26 : List eg_I := .inl (26, 3, .ifCond .ne (11), 37, 0) :: c_M_point_29
def c_M_point_23 : List eg_I := .inr (23, 0, 107, n_M_isNear, 1, 12, 0, 0) :: c_M_point_26
def c_M_point_21 : List eg_I := .inl (21, 2, .iload 4, 0, 0) :: c_M_point_23
def c_M_point_18 : List eg_I := .inl (18, 3, .ifCond .eq (11), 29, 0) :: c_M_point_21
def c_M_point_15 : List eg_I := .inr (15, 0, 107, n_M_isNear, 1, 12, 0, 0) :: c_M_point_18
def c_M_point_14 : List eg_I := .inl (14, 1, .iload 3, 0, 0) :: c_M_point_15
def c_M_point_11 : List eg_I := .inl (11, 3, .ifCond .eq (18), 29, 0) :: c_M_point_14
def c_M_point_8 : List eg_I := .inr (8, 0, 107, n_M_isNear, 1, 12, 0, 0) :: c_M_point_11
def c_M_point_7 : List eg_I := .inl (7, 1, .iload 2, 0, 0) :: c_M_point_8
def c_M_point_4 : List eg_I := .inl (4, 3, .ifCond .eq (25), 29, 0) :: c_M_point_7
def c_M_point_1 : List eg_I := .inr (1, 0, 99, n_M_isPart, 1, 12, 0, 0) :: c_M_point_4
def c_M_point_0 : List eg_I := .inl (0, 1, .iload 1, 0, 0) :: c_M_point_1
section
variable {rm : Room} {K : Nat → Nat → Nat → eg_Lo → List Value → List eg_E → Prop} {Q : Option Value → List eg_E → Prop} {kc ks : Nat} {loc : eg_Lo} {st : List Value} {h : List eg_E}
theorem s_M_point_0 {x : Int32} {l0 : Option Value} {l : eg_Lo} : wps rm K Q c_M_point_0 kc ks (l0 :: some (.int x) :: l) (st) h = wps rm K Q c_M_point_1 kc ks (l0 :: some (.int x) :: l) (.int x :: st) h := gk_iload rfl
theorem s_M_point_1  {a1 : Value} : wps rm K Q c_M_point_1 kc ks loc (a1 :: st) h = (st.length ≤ 4 ∧ eg_Cs n_M_isPart [a1] h (fun v h9 => wps rm K Q c_M_point_4 kc ks loc (v.toList ++ st) h9)) := eg_c0_1
theorem s_M_point_4 {x : Int32} : wps rm K Q c_M_point_4 kc ks loc (.int x :: st) h = ((x = 0 → K 29 kc ks loc st h) ∧ (¬ x = 0 → wps rm K Q c_M_point_7 kc ks loc (st) h)) := gk_if1_eq
theorem s_M_point_7 {x : Int32} {l0 l1 : Option Value} {l : eg_Lo} : wps rm K Q c_M_point_7 kc ks (l0 :: l1 :: some (.int x) :: l) (st) h = wps rm K Q c_M_point_8 kc ks (l0 :: l1 :: some (.int x) :: l) (.int x :: st) h := gk_iload rfl
theorem s_M_point_8  {a1 : Value} : wps rm K Q c_M_point_8 kc ks loc (a1 :: st) h = (st.length ≤ 4 ∧ eg_Cs n_M_isNear [a1] h (fun v h9 => wps rm K Q c_M_point_11 kc ks loc (v.toList ++ st) h9)) := eg_c0_1
theorem s_M_point_11 {x : Int32} : wps rm K Q c_M_point_11 kc ks loc (.int x :: st) h = ((x = 0 → K 29 kc ks loc st h) ∧ (¬ x = 0 → wps rm K Q c_M_point_14 kc ks loc (st) h)) := gk_if1_eq
theorem s_M_point_14 {x : Int32} {l0 l1 l2 : Option Value} {l : eg_Lo} : wps rm K Q c_M_point_14 kc ks (l0 :: l1 :: l2 :: some (.int x) :: l) (st) h = wps rm K Q c_M_point_15 kc ks (l0 :: l1 :: l2 :: some (.int x) :: l) (.int x :: st) h := gk_iload rfl
theorem s_M_point_15  {a1 : Value} : wps rm K Q c_M_point_15 kc ks loc (a1 :: st) h = (st.length ≤ 4 ∧ eg_Cs n_M_isNear [a1] h (fun v h9 => wps rm K Q c_M_point_18 kc ks loc (v.toList ++ st) h9)) := eg_c0_1
theorem s_M_point_18 {x : Int32} : wps rm K Q c_M_point_18 kc ks loc (.int x :: st) h = ((x = 0 → K 29 kc ks loc st h) ∧ (¬ x = 0 → wps rm K Q c_M_point_21 kc ks loc (st) h)) := gk_if1_eq
theorem s_M_point_21 {x : Int32} {l0 l1 l2 l3 : Option Value} {l : eg_Lo} : wps rm K Q c_M_point_21 kc ks (l0 :: l1 :: l2 :: l3 :: some (.int x) :: l) (st) h = wps rm K Q c_M_point_23 kc ks (l0 :: l1 :: l2 :: l3 :: some (.int x) :: l) (.int x :: st) h := gk_iload rfl
theorem s_M_point_23  {a1 : Value} : wps rm K Q c_M_point_23 kc ks loc (a1 :: st) h = (st.length ≤ 4 ∧ eg_Cs n_M_isNear [a1] h (fun v h9 => wps rm K Q c_M_point_26 kc ks loc (v.toList ++ st) h9)) := eg_c0_1
theorem s_M_point_26 {x : Int32} : wps rm K Q c_M_point_26 kc ks loc (.int x :: st) h = ((¬ x = 0 → K 37 kc ks loc st h) ∧ (x = 0 → wps rm K Q c_M_point_29 kc ks loc (st) h)) := gk_if1_ne
theorem s_M_point_29 {x : Nat} {l : eg_Lo} : wps rm K Q c_M_point_29 kc ks (some (.ref x) :: l) (st) h = wps rm K Q c_M_point_30 kc ks (some (.ref x) :: l) (.ref x :: st) h := gk_aload rfl
theorem s_M_point_30  : wps rm K Q c_M_point_30 kc ks loc (st) h = wps rm K Q c_M_point_33 kc ks loc (.long (-1000000000000000001) :: st) h := gk_lc (by decide)
theorem s_M_point_33  {a1 : Value} {x : Nat} : wps rm K Q c_M_point_33 kc ks loc (a1 :: .ref (x + 1) :: st) h = (eg_cls h x 12 ∧ st.length ≤ 4 ∧ eg_Cs n_M_finding (.ref (x + 1) :: [a1]) h (fun v h9 => wps rm K Q c_M_point_36 kc ks loc (v.toList ++ st) h9)) := eg_c1_1
theorem s_M_point_36 {x : Int64} : wps rm K Q c_M_point_36 kc ks loc ([.long x]) h = (kc = rm.cells ∧ Q (some (.long x)) h) := gk_lret
theorem s_M_point_37 {x : Nat} {l : eg_Lo} : wps rm K Q c_M_point_37 kc ks (some (.ref x) :: l) (st) h = wps rm K Q c_M_point_38 kc ks (some (.ref x) :: l) (.ref x :: st) h := gk_aload rfl
theorem s_M_point_38 {x : Nat} : wps rm K Q c_M_point_38 kc ks loc (.ref (x + 1) :: st) h = eg_gf h x 12 0 (fun v => wps rm K Q c_M_point_41 kc ks loc (v :: st) h) := gk_gf
theorem s_M_point_41 {x : Int32} {l0 : Option Value} {l : eg_Lo} : wps rm K Q c_M_point_41 kc ks (l0 :: some (.int x) :: l) (st) h = wps rm K Q c_M_point_42 kc ks (l0 :: some (.int x) :: l) (.int x :: st) h := gk_iload rfl
theorem s_M_point_42 {x : Nat} {i : Int32} : wps rm K Q c_M_point_42 kc ks loc (.int i :: .ref (x + 1) :: st) h = eg_ia h x i (fun v => wps rm K Q c_M_point_43 kc ks loc (.int v :: st) h) := gk_iaload
theorem s_M_point_43  : wps rm K Q c_M_point_43 kc ks loc (st) h = wps rm K Q c_M_point_45 kc ks loc (.int (16) :: st) h := gk_ic (by decide)
theorem s_M_point_45 {x y : Int32} : wps rm K Q c_M_point_45 kc ks loc (.int y :: .int x :: st) h = ((¬ x = y → K 56 kc ks loc st h) ∧ (x = y → wps rm K Q c_M_point_48 kc ks loc (st) h)) := gk_if2_ne
theorem s_M_point_48 {x : Nat} {l : eg_Lo} : wps rm K Q c_M_point_48 kc ks (some (.ref x) :: l) (st) h = wps rm K Q c_M_point_49 kc ks (some (.ref x) :: l) (.ref x :: st) h := gk_aload rfl
theorem s_M_point_49  : wps rm K Q c_M_point_49 kc ks loc (st) h = wps rm K Q c_M_point_52 kc ks loc (.long (-1000000000000000005) :: st) h := gk_lc (by decide)
theorem s_M_point_52  {a1 : Value} {x : Nat} : wps rm K Q c_M_point_52 kc ks loc (a1 :: .ref (x + 1) :: st) h = (eg_cls h x 12 ∧ st.length ≤ 4 ∧ eg_Cs n_M_finding (.ref (x + 1) :: [a1]) h (fun v h9 => wps rm K Q c_M_point_55 kc ks loc (v.toList ++ st) h9)) := eg_c1_1
theorem s_M_point_55 {x : Int64} : wps rm K Q c_M_point_55 kc ks loc ([.long x]) h = (kc = rm.cells ∧ Q (some (.long x)) h) := gk_lret
theorem s_M_point_56 {x : Nat} {l : eg_Lo} : wps rm K Q c_M_point_56 kc ks (some (.ref x) :: l) (st) h = wps rm K Q c_M_point_57 kc ks (some (.ref x) :: l) (.ref x :: st) h := gk_aload rfl
theorem s_M_point_57 {x : Int32} {l0 : Option Value} {l : eg_Lo} : wps rm K Q c_M_point_57 kc ks (l0 :: some (.int x) :: l) (st) h = wps rm K Q c_M_point_58 kc ks (l0 :: some (.int x) :: l) (.int x :: st) h := gk_iload rfl
theorem s_M_point_58 {x : Int32} {l0 l1 : Option Value} {l : eg_Lo} : wps rm K Q c_M_point_58 kc ks (l0 :: l1 :: some (.int x) :: l) (st) h = wps rm K Q c_M_point_59 kc ks (l0 :: l1 :: some (.int x) :: l) (.int x :: st) h := gk_iload rfl
theorem s_M_point_59 {x : Int32} {l0 l1 l2 : Option Value} {l : eg_Lo} : wps rm K Q c_M_point_59 kc ks (l0 :: l1 :: l2 :: some (.int x) :: l) (st) h = wps rm K Q c_M_point_60 kc ks (l0 :: l1 :: l2 :: some (.int x) :: l) (.int x :: st) h := gk_iload rfl
theorem s_M_point_60 {x : Int32} {l0 l1 l2 l3 : Option Value} {l : eg_Lo} : wps rm K Q c_M_point_60 kc ks (l0 :: l1 :: l2 :: l3 :: some (.int x) :: l) (st) h = wps rm K Q c_M_point_62 kc ks (l0 :: l1 :: l2 :: l3 :: some (.int x) :: l) (.int x :: st) h := gk_iload rfl
theorem s_M_point_62  : wps rm K Q c_M_point_62 kc ks loc (st) h = wps rm K Q c_M_point_63 kc ks loc (.int (0) :: st) h := gk_ic (by decide)
theorem s_M_point_63  {a1 : Value} {a2 : Value} {a3 : Value} {a4 : Value} {a5 : Value} {x : Nat} : wps rm K Q c_M_point_63 kc ks loc (a5 :: a4 :: a3 :: a2 :: a1 :: .ref (x + 1) :: st) h = (eg_cls h x 12 ∧ st.length ≤ 4 ∧ eg_Cs n_M_add (.ref (x + 1) :: [a1, a2, a3, a4, a5]) h (fun v h9 => wps rm K Q c_M_point_66 kc ks loc (v.toList ++ st) h9)) := eg_c1_5
theorem s_M_point_66 {x : Nat} {l : eg_Lo} : wps rm K Q c_M_point_66 kc ks (some (.ref x) :: l) (st) h = wps rm K Q c_M_point_67 kc ks (some (.ref x) :: l) (.ref x :: st) h := gk_aload rfl
theorem s_M_point_67 {x : Nat} : wps rm K Q c_M_point_67 kc ks loc (.ref (x + 1) :: st) h = eg_gf h x 12 0 (fun v => wps rm K Q c_M_point_70 kc ks loc (v :: st) h) := gk_gf
theorem s_M_point_70 {x : Int32} {l0 : Option Value} {l : eg_Lo} : wps rm K Q c_M_point_70 kc ks (l0 :: some (.int x) :: l) (st) h = wps rm K Q c_M_point_71 kc ks (l0 :: some (.int x) :: l) (.int x :: st) h := gk_iload rfl
theorem s_M_point_71 {x : Nat} {i : Int32} : wps rm K Q c_M_point_71 kc ks loc (.int i :: .ref (x + 1) :: st) h = eg_ia h x i (fun v => wps rm K Q c_M_point_72 kc ks loc (.int v :: st) h) := gk_iaload
theorem s_M_point_72 {x : Int32} : wps rm K Q c_M_point_72 kc ks loc (.int x :: st) h = wps rm K Q c_M_point_73 kc ks loc (.long (x.toInt64) :: st) h := gk_i2l
theorem s_M_point_73 {x : Int64} : wps rm K Q c_M_point_73 kc ks loc ([.long x]) h = (kc = rm.cells ∧ Q (some (.long x)) h) := gk_lret
def T_M_point : List (Nat × List eg_I) := [(29, c_M_point_29), (37, c_M_point_37), (56, c_M_point_56)]
theorem j_M_point_29 {R : Nat → Nat → Nat → eg_Lo → List Value → List eg_E → Prop} {f pc0 : Nat} : eg_run rm R Q T_M_point (f + 1) 29 kc ks loc st h = wps rm (eg_run rm R Q T_M_point f) Q c_M_point_29 kc ks loc st h := rfl
theorem j_M_point_37 {R : Nat → Nat → Nat → eg_Lo → List Value → List eg_E → Prop} {f pc0 : Nat} : eg_run rm R Q T_M_point (f + 1) 37 kc ks loc st h = wps rm (eg_run rm R Q T_M_point f) Q c_M_point_37 kc ks loc st h := rfl
theorem j_M_point_56 {R : Nat → Nat → Nat → eg_Lo → List Value → List eg_E → Prop} {f pc0 : Nat} : eg_run rm R Q T_M_point (f + 1) 56 kc ks loc st h = wps rm (eg_run rm R Q T_M_point f) Q c_M_point_56 kc ks loc st h := rfl
end
theorem y_M_point_0 : eg_seq m_M_point 0 c_M_point_0 = true := by decide +kernel
theorem y_M_point_37 : eg_seq m_M_point 37 c_M_point_37 = true := by decide +kernel
theorem y_M_point_56 : eg_seq m_M_point 56 c_M_point_56 = true := by decide +kernel
theorem q_M_point : ∀ q ∈ T_M_point, eg_seq m_M_point q.1 q.2 = true := by
  intro q hq
  simp only [T_M_point, List.mem_cons, List.not_mem_nil, or_false] at hq
  rcases hq with rfl | rfl | rfl
  · exact (eg_seq_drop y_M_point_0 12 : eg_seq m_M_point 29 c_M_point_29 = true)
  · exact y_M_point_37
  · exact y_M_point_56
theorem b_M_point {as : List Value} {h : List eg_E} {Q : Option Value → List eg_E → Prop} (hf : (eg_fl as).length ≤ 5) (hw : wps (eg_rm m_M_point) (eg_run (eg_rm m_M_point) (eg_R m_M_point Q (h.length + 0)) Q T_M_point 5) Q c_M_point_0 0 0 (eg_entry 5 as) [] h) : eg_Runs n_M_point as h Q := eg_begin2 (d := m_M_point) rfl (by decide) y_M_point_0 q_M_point hf hw
/-! ===== M_miss ===== -/
def c_M_miss_50 : List eg_I := .inl (50, 1, .lreturn, 0, 0) :: []
def c_M_miss_49 : List eg_I := .inl (49, 1, .i2l, 0, 0) :: c_M_miss_50
def c_M_miss_48 : List eg_I := .inl (48, 1, .iaload, 0, 0) :: c_M_miss_49
def c_M_miss_47 : List eg_I := .inl (47, 1, .iload 1, 0, 0) :: c_M_miss_48
def c_M_miss_44 : List eg_I := .inl (44, 3, .getfield 9, 12, 0) :: c_M_miss_47
def c_M_miss_43 : List eg_I := .inl (43, 1, .aload 0, 0, 0) :: c_M_miss_44
def c_M_miss_40 : List eg_I := .inr (40, 1, 118, n_M_add, 5, 12, 0, 0) :: c_M_miss_43
def c_M_miss_39 : List eg_I := .inl (39, 1, .iconst (1), 0, 0) :: c_M_miss_40
def c_M_miss_38 : List eg_I := .inl (38, 1, .iconst (0), 0, 0) :: c_M_miss_39
def c_M_miss_37 : List eg_I := .inl (37, 1, .iconst (0), 0, 0) :: c_M_miss_38
def c_M_miss_36 : List eg_I := .inl (36, 1, .iconst (0), 0, 0) :: c_M_miss_37
def c_M_miss_35 : List eg_I := .inl (35, 1, .iload 1, 0, 0) :: c_M_miss_36
def c_M_miss_34 : List eg_I := .inl (34, 1, .aload 0, 0, 0) :: c_M_miss_35
def c_M_miss_33 : List eg_I := .inl (33, 1, .lreturn, 0, 0) :: []
def c_M_miss_30 : List eg_I := .inr (30, 1, 112, n_M_finding, 1, 12, 0, 0) :: c_M_miss_33
def c_M_miss_27 : List eg_I := .inl (27, 3, .sipush (-1000000000000000005), 116, 0) :: c_M_miss_30
def c_M_miss_26 : List eg_I := .inl (26, 1, .aload 0, 0, 0) :: c_M_miss_27
def c_M_miss_23 : List eg_I := .inl (23, 3, .if_icmp .ne (11), 34, 0) :: c_M_miss_26
def c_M_miss_21 : List eg_I := .inl (21, 2, .iconst (16), 0, 0) :: c_M_miss_23
def c_M_miss_20 : List eg_I := .inl (20, 1, .iaload, 0, 0) :: c_M_miss_21
def c_M_miss_19 : List eg_I := .inl (19, 1, .iload 1, 0, 0) :: c_M_miss_20
def c_M_miss_16 : List eg_I := .inl (16, 3, .getfield 9, 12, 0) :: c_M_miss_19
def c_M_miss_15 : List eg_I := .inl (15, 1, .aload 0, 0, 0) :: c_M_miss_16
def c_M_miss_14 : List eg_I := .inl (14, 1, .lreturn, 0, 0) :: []
def c_M_miss_11 : List eg_I := .inr (11, 1, 112, n_M_finding, 1, 12, 0, 0) :: c_M_miss_14
def c_M_miss_8 : List eg_I := .inl (8, 3, .sipush (-1000000000000000001), 110, 0) :: c_M_miss_11
def c_M_miss_7 : List eg_I := .inl (7, 1, .aload 0, 0, 0) :: c_M_miss_8
def c_M_miss_4 : List eg_I := .inl (4, 3, .ifCond .ne (11), 15, 0) :: c_M_miss_7
def c_M_miss_1 : List eg_I := .inr (1, 0, 99, n_M_isPart, 1, 12, 0, 0) :: c_M_miss_4
def c_M_miss_0 : List eg_I := .inl (0, 1, .iload 1, 0, 0) :: c_M_miss_1
section
variable {rm : Room} {K : Nat → Nat → Nat → eg_Lo → List Value → List eg_E → Prop} {Q : Option Value → List eg_E → Prop} {kc ks : Nat} {loc : eg_Lo} {st : List Value} {h : List eg_E}
theorem s_M_miss_0 {x : Int32} {l0 : Option Value} {l : eg_Lo} : wps rm K Q c_M_miss_0 kc ks (l0 :: some (.int x) :: l) (st) h = wps rm K Q c_M_miss_1 kc ks (l0 :: some (.int x) :: l) (.int x :: st) h := gk_iload rfl
theorem s_M_miss_1  {a1 : Value} : wps rm K Q c_M_miss_1 kc ks loc (a1 :: st) h = (st.length ≤ 4 ∧ eg_Cs n_M_isPart [a1] h (fun v h9 => wps rm K Q c_M_miss_4 kc ks loc (v.toList ++ st) h9)) := eg_c0_1
theorem s_M_miss_4 {x : Int32} : wps rm K Q c_M_miss_4 kc ks loc (.int x :: st) h = ((¬ x = 0 → K 15 kc ks loc st h) ∧ (x = 0 → wps rm K Q c_M_miss_7 kc ks loc (st) h)) := gk_if1_ne
theorem s_M_miss_7 {x : Nat} {l : eg_Lo} : wps rm K Q c_M_miss_7 kc ks (some (.ref x) :: l) (st) h = wps rm K Q c_M_miss_8 kc ks (some (.ref x) :: l) (.ref x :: st) h := gk_aload rfl
theorem s_M_miss_8  : wps rm K Q c_M_miss_8 kc ks loc (st) h = wps rm K Q c_M_miss_11 kc ks loc (.long (-1000000000000000001) :: st) h := gk_lc (by decide)
theorem s_M_miss_11  {a1 : Value} {x : Nat} : wps rm K Q c_M_miss_11 kc ks loc (a1 :: .ref (x + 1) :: st) h = (eg_cls h x 12 ∧ st.length ≤ 4 ∧ eg_Cs n_M_finding (.ref (x + 1) :: [a1]) h (fun v h9 => wps rm K Q c_M_miss_14 kc ks loc (v.toList ++ st) h9)) := eg_c1_1
theorem s_M_miss_14 {x : Int64} : wps rm K Q c_M_miss_14 kc ks loc ([.long x]) h = (kc = rm.cells ∧ Q (some (.long x)) h) := gk_lret
theorem s_M_miss_15 {x : Nat} {l : eg_Lo} : wps rm K Q c_M_miss_15 kc ks (some (.ref x) :: l) (st) h = wps rm K Q c_M_miss_16 kc ks (some (.ref x) :: l) (.ref x :: st) h := gk_aload rfl
theorem s_M_miss_16 {x : Nat} : wps rm K Q c_M_miss_16 kc ks loc (.ref (x + 1) :: st) h = eg_gf h x 12 0 (fun v => wps rm K Q c_M_miss_19 kc ks loc (v :: st) h) := gk_gf
theorem s_M_miss_19 {x : Int32} {l0 : Option Value} {l : eg_Lo} : wps rm K Q c_M_miss_19 kc ks (l0 :: some (.int x) :: l) (st) h = wps rm K Q c_M_miss_20 kc ks (l0 :: some (.int x) :: l) (.int x :: st) h := gk_iload rfl
theorem s_M_miss_20 {x : Nat} {i : Int32} : wps rm K Q c_M_miss_20 kc ks loc (.int i :: .ref (x + 1) :: st) h = eg_ia h x i (fun v => wps rm K Q c_M_miss_21 kc ks loc (.int v :: st) h) := gk_iaload
theorem s_M_miss_21  : wps rm K Q c_M_miss_21 kc ks loc (st) h = wps rm K Q c_M_miss_23 kc ks loc (.int (16) :: st) h := gk_ic (by decide)
theorem s_M_miss_23 {x y : Int32} : wps rm K Q c_M_miss_23 kc ks loc (.int y :: .int x :: st) h = ((¬ x = y → K 34 kc ks loc st h) ∧ (x = y → wps rm K Q c_M_miss_26 kc ks loc (st) h)) := gk_if2_ne
theorem s_M_miss_26 {x : Nat} {l : eg_Lo} : wps rm K Q c_M_miss_26 kc ks (some (.ref x) :: l) (st) h = wps rm K Q c_M_miss_27 kc ks (some (.ref x) :: l) (.ref x :: st) h := gk_aload rfl
theorem s_M_miss_27  : wps rm K Q c_M_miss_27 kc ks loc (st) h = wps rm K Q c_M_miss_30 kc ks loc (.long (-1000000000000000005) :: st) h := gk_lc (by decide)
theorem s_M_miss_30  {a1 : Value} {x : Nat} : wps rm K Q c_M_miss_30 kc ks loc (a1 :: .ref (x + 1) :: st) h = (eg_cls h x 12 ∧ st.length ≤ 4 ∧ eg_Cs n_M_finding (.ref (x + 1) :: [a1]) h (fun v h9 => wps rm K Q c_M_miss_33 kc ks loc (v.toList ++ st) h9)) := eg_c1_1
theorem s_M_miss_33 {x : Int64} : wps rm K Q c_M_miss_33 kc ks loc ([.long x]) h = (kc = rm.cells ∧ Q (some (.long x)) h) := gk_lret
theorem s_M_miss_34 {x : Nat} {l : eg_Lo} : wps rm K Q c_M_miss_34 kc ks (some (.ref x) :: l) (st) h = wps rm K Q c_M_miss_35 kc ks (some (.ref x) :: l) (.ref x :: st) h := gk_aload rfl
theorem s_M_miss_35 {x : Int32} {l0 : Option Value} {l : eg_Lo} : wps rm K Q c_M_miss_35 kc ks (l0 :: some (.int x) :: l) (st) h = wps rm K Q c_M_miss_36 kc ks (l0 :: some (.int x) :: l) (.int x :: st) h := gk_iload rfl
theorem s_M_miss_36  : wps rm K Q c_M_miss_36 kc ks loc (st) h = wps rm K Q c_M_miss_37 kc ks loc (.int (0) :: st) h := gk_ic (by decide)
theorem s_M_miss_37  : wps rm K Q c_M_miss_37 kc ks loc (st) h = wps rm K Q c_M_miss_38 kc ks loc (.int (0) :: st) h := gk_ic (by decide)
theorem s_M_miss_38  : wps rm K Q c_M_miss_38 kc ks loc (st) h = wps rm K Q c_M_miss_39 kc ks loc (.int (0) :: st) h := gk_ic (by decide)
theorem s_M_miss_39  : wps rm K Q c_M_miss_39 kc ks loc (st) h = wps rm K Q c_M_miss_40 kc ks loc (.int (1) :: st) h := gk_ic (by decide)
theorem s_M_miss_40  {a1 : Value} {a2 : Value} {a3 : Value} {a4 : Value} {a5 : Value} {x : Nat} : wps rm K Q c_M_miss_40 kc ks loc (a5 :: a4 :: a3 :: a2 :: a1 :: .ref (x + 1) :: st) h = (eg_cls h x 12 ∧ st.length ≤ 4 ∧ eg_Cs n_M_add (.ref (x + 1) :: [a1, a2, a3, a4, a5]) h (fun v h9 => wps rm K Q c_M_miss_43 kc ks loc (v.toList ++ st) h9)) := eg_c1_5
theorem s_M_miss_43 {x : Nat} {l : eg_Lo} : wps rm K Q c_M_miss_43 kc ks (some (.ref x) :: l) (st) h = wps rm K Q c_M_miss_44 kc ks (some (.ref x) :: l) (.ref x :: st) h := gk_aload rfl
theorem s_M_miss_44 {x : Nat} : wps rm K Q c_M_miss_44 kc ks loc (.ref (x + 1) :: st) h = eg_gf h x 12 0 (fun v => wps rm K Q c_M_miss_47 kc ks loc (v :: st) h) := gk_gf
theorem s_M_miss_47 {x : Int32} {l0 : Option Value} {l : eg_Lo} : wps rm K Q c_M_miss_47 kc ks (l0 :: some (.int x) :: l) (st) h = wps rm K Q c_M_miss_48 kc ks (l0 :: some (.int x) :: l) (.int x :: st) h := gk_iload rfl
theorem s_M_miss_48 {x : Nat} {i : Int32} : wps rm K Q c_M_miss_48 kc ks loc (.int i :: .ref (x + 1) :: st) h = eg_ia h x i (fun v => wps rm K Q c_M_miss_49 kc ks loc (.int v :: st) h) := gk_iaload
theorem s_M_miss_49 {x : Int32} : wps rm K Q c_M_miss_49 kc ks loc (.int x :: st) h = wps rm K Q c_M_miss_50 kc ks loc (.long (x.toInt64) :: st) h := gk_i2l
theorem s_M_miss_50 {x : Int64} : wps rm K Q c_M_miss_50 kc ks loc ([.long x]) h = (kc = rm.cells ∧ Q (some (.long x)) h) := gk_lret
def T_M_miss : List (Nat × List eg_I) := [(15, c_M_miss_15), (34, c_M_miss_34)]
theorem j_M_miss_15 {R : Nat → Nat → Nat → eg_Lo → List Value → List eg_E → Prop} {f pc0 : Nat} : eg_run rm R Q T_M_miss (f + 1) 15 kc ks loc st h = wps rm (eg_run rm R Q T_M_miss f) Q c_M_miss_15 kc ks loc st h := rfl
theorem j_M_miss_34 {R : Nat → Nat → Nat → eg_Lo → List Value → List eg_E → Prop} {f pc0 : Nat} : eg_run rm R Q T_M_miss (f + 1) 34 kc ks loc st h = wps rm (eg_run rm R Q T_M_miss f) Q c_M_miss_34 kc ks loc st h := rfl
end
theorem y_M_miss_0 : eg_seq m_M_miss 0 c_M_miss_0 = true := by decide +kernel
theorem y_M_miss_15 : eg_seq m_M_miss 15 c_M_miss_15 = true := by decide +kernel
theorem y_M_miss_34 : eg_seq m_M_miss 34 c_M_miss_34 = true := by decide +kernel
theorem q_M_miss : ∀ q ∈ T_M_miss, eg_seq m_M_miss q.1 q.2 = true := by
  intro q hq
  simp only [T_M_miss, List.mem_cons, List.not_mem_nil, or_false] at hq
  rcases hq with rfl | rfl
  · exact y_M_miss_15
  · exact y_M_miss_34
theorem b_M_miss {as : List Value} {h : List eg_E} {Q : Option Value → List eg_E → Prop} (hf : (eg_fl as).length ≤ 2) (hw : wps (eg_rm m_M_miss) (eg_run (eg_rm m_M_miss) (eg_R m_M_miss Q (h.length + 0)) Q T_M_miss 4) Q c_M_miss_0 0 0 (eg_entry 2 as) [] h) : eg_Runs n_M_miss as h Q := eg_begin2 (d := m_M_miss) rfl (by decide) y_M_miss_0 q_M_miss hf hw
/-! ===== M_clear ===== -/
def c_M_clear_31 : List eg_I := .inl (31, 1, .lreturn, 0, 0) :: []
def c_M_clear_30 : List eg_I := .inl (30, 1, .i2l, 0, 0) :: c_M_clear_31
def c_M_clear_29 : List eg_I := .inl (29, 1, .iload 2, 0, 0) :: c_M_clear_30
def c_M_clear_28 : List eg_I := .inl (28, 1, .iastore, 0, 0) :: c_M_clear_29
def c_M_clear_27 : List eg_I := .inl (27, 1, .iconst (0), 0, 0) :: c_M_clear_28
def c_M_clear_26 : List eg_I := .inl (26, 1, .iload 1, 0, 0) :: c_M_clear_27
def c_M_clear_23 : List eg_I := .inl (23, 3, .getfield 9, 12, 0) :: c_M_clear_26
def c_M_clear_22 : List eg_I := .inl (22, 1, .aload 0, 0, 0) :: c_M_clear_23
def c_M_clear_21 : List eg_I := .inl (21, 1, .istore 2, 0, 0) :: c_M_clear_22
def c_M_clear_20 : List eg_I := .inl (20, 1, .iaload, 0, 0) :: c_M_clear_21
def c_M_clear_19 : List eg_I := .inl (19, 1, .iload 1, 0, 0) :: c_M_clear_20
def c_M_clear_16 : List eg_I := .inl (16, 3, .getfield 9, 12, 0) :: c_M_clear_19
def c_M_clear_15 : List eg_I := .inl (15, 1, .aload 0, 0, 0) :: c_M_clear_16
def c_M_clear_14 : List eg_I := .inl (14, 1, .lreturn, 0, 0) :: []
def c_M_clear_11 : List eg_I := .inr (11, 1, 112, n_M_finding, 1, 12, 0, 0) :: c_M_clear_14
def c_M_clear_8 : List eg_I := .inl (8, 3, .sipush (-1000000000000000001), 110, 0) :: c_M_clear_11
def c_M_clear_7 : List eg_I := .inl (7, 1, .aload 0, 0, 0) :: c_M_clear_8
def c_M_clear_4 : List eg_I := .inl (4, 3, .ifCond .ne (11), 15, 0) :: c_M_clear_7
def c_M_clear_1 : List eg_I := .inr (1, 0, 99, n_M_isPart, 1, 12, 0, 0) :: c_M_clear_4
def c_M_clear_0 : List eg_I := .inl (0, 1, .iload 1, 0, 0) :: c_M_clear_1
section
variable {rm : Room} {K : Nat → Nat → Nat → eg_Lo → List Value → List eg_E → Prop} {Q : Option Value → List eg_E → Prop} {kc ks : Nat} {loc : eg_Lo} {st : List Value} {h : List eg_E}
theorem s_M_clear_0 {x : Int32} {l0 : Option Value} {l : eg_Lo} : wps rm K Q c_M_clear_0 kc ks (l0 :: some (.int x) :: l) (st) h = wps rm K Q c_M_clear_1 kc ks (l0 :: some (.int x) :: l) (.int x :: st) h := gk_iload rfl
theorem s_M_clear_1  {a1 : Value} : wps rm K Q c_M_clear_1 kc ks loc (a1 :: st) h = (st.length ≤ 4 ∧ eg_Cs n_M_isPart [a1] h (fun v h9 => wps rm K Q c_M_clear_4 kc ks loc (v.toList ++ st) h9)) := eg_c0_1
theorem s_M_clear_4 {x : Int32} : wps rm K Q c_M_clear_4 kc ks loc (.int x :: st) h = ((¬ x = 0 → K 15 kc ks loc st h) ∧ (x = 0 → wps rm K Q c_M_clear_7 kc ks loc (st) h)) := gk_if1_ne
theorem s_M_clear_7 {x : Nat} {l : eg_Lo} : wps rm K Q c_M_clear_7 kc ks (some (.ref x) :: l) (st) h = wps rm K Q c_M_clear_8 kc ks (some (.ref x) :: l) (.ref x :: st) h := gk_aload rfl
theorem s_M_clear_8  : wps rm K Q c_M_clear_8 kc ks loc (st) h = wps rm K Q c_M_clear_11 kc ks loc (.long (-1000000000000000001) :: st) h := gk_lc (by decide)
theorem s_M_clear_11  {a1 : Value} {x : Nat} : wps rm K Q c_M_clear_11 kc ks loc (a1 :: .ref (x + 1) :: st) h = (eg_cls h x 12 ∧ st.length ≤ 4 ∧ eg_Cs n_M_finding (.ref (x + 1) :: [a1]) h (fun v h9 => wps rm K Q c_M_clear_14 kc ks loc (v.toList ++ st) h9)) := eg_c1_1
theorem s_M_clear_14 {x : Int64} : wps rm K Q c_M_clear_14 kc ks loc ([.long x]) h = (kc = rm.cells ∧ Q (some (.long x)) h) := gk_lret
theorem s_M_clear_15 {x : Nat} {l : eg_Lo} : wps rm K Q c_M_clear_15 kc ks (some (.ref x) :: l) (st) h = wps rm K Q c_M_clear_16 kc ks (some (.ref x) :: l) (.ref x :: st) h := gk_aload rfl
theorem s_M_clear_16 {x : Nat} : wps rm K Q c_M_clear_16 kc ks loc (.ref (x + 1) :: st) h = eg_gf h x 12 0 (fun v => wps rm K Q c_M_clear_19 kc ks loc (v :: st) h) := gk_gf
theorem s_M_clear_19 {x : Int32} {l0 : Option Value} {l : eg_Lo} : wps rm K Q c_M_clear_19 kc ks (l0 :: some (.int x) :: l) (st) h = wps rm K Q c_M_clear_20 kc ks (l0 :: some (.int x) :: l) (.int x :: st) h := gk_iload rfl
theorem s_M_clear_20 {x : Nat} {i : Int32} : wps rm K Q c_M_clear_20 kc ks loc (.int i :: .ref (x + 1) :: st) h = eg_ia h x i (fun v => wps rm K Q c_M_clear_21 kc ks loc (.int v :: st) h) := gk_iaload
theorem s_M_clear_21 {x : Int32} : wps rm K Q c_M_clear_21 kc ks loc (.int x :: st) h = wps rm K Q c_M_clear_22 kc ks (eg_set1 loc 2 (.int x)) (st) h := gk_istore
theorem s_M_clear_22 {x : Nat} {l : eg_Lo} : wps rm K Q c_M_clear_22 kc ks (some (.ref x) :: l) (st) h = wps rm K Q c_M_clear_23 kc ks (some (.ref x) :: l) (.ref x :: st) h := gk_aload rfl
theorem s_M_clear_23 {x : Nat} : wps rm K Q c_M_clear_23 kc ks loc (.ref (x + 1) :: st) h = eg_gf h x 12 0 (fun v => wps rm K Q c_M_clear_26 kc ks loc (v :: st) h) := gk_gf
theorem s_M_clear_26 {x : Int32} {l0 : Option Value} {l : eg_Lo} : wps rm K Q c_M_clear_26 kc ks (l0 :: some (.int x) :: l) (st) h = wps rm K Q c_M_clear_27 kc ks (l0 :: some (.int x) :: l) (.int x :: st) h := gk_iload rfl
theorem s_M_clear_27  : wps rm K Q c_M_clear_27 kc ks loc (st) h = wps rm K Q c_M_clear_28 kc ks loc (.int (0) :: st) h := gk_ic (by decide)
theorem s_M_clear_28 {x : Nat} {i : Int32} {v : Int32} : wps rm K Q c_M_clear_28 kc ks loc (.int v :: .int i :: .ref (x + 1) :: st) h = eg_is h x i v (fun h9 => wps rm K Q c_M_clear_29 kc ks loc (st) h9) := gk_iastore
theorem s_M_clear_29 {x : Int32} {l0 l1 : Option Value} {l : eg_Lo} : wps rm K Q c_M_clear_29 kc ks (l0 :: l1 :: some (.int x) :: l) (st) h = wps rm K Q c_M_clear_30 kc ks (l0 :: l1 :: some (.int x) :: l) (.int x :: st) h := gk_iload rfl
theorem s_M_clear_30 {x : Int32} : wps rm K Q c_M_clear_30 kc ks loc (.int x :: st) h = wps rm K Q c_M_clear_31 kc ks loc (.long (x.toInt64) :: st) h := gk_i2l
theorem s_M_clear_31 {x : Int64} : wps rm K Q c_M_clear_31 kc ks loc ([.long x]) h = (kc = rm.cells ∧ Q (some (.long x)) h) := gk_lret
def T_M_clear : List (Nat × List eg_I) := [(15, c_M_clear_15)]
theorem j_M_clear_15 {R : Nat → Nat → Nat → eg_Lo → List Value → List eg_E → Prop} {f pc0 : Nat} : eg_run rm R Q T_M_clear (f + 1) 15 kc ks loc st h = wps rm (eg_run rm R Q T_M_clear f) Q c_M_clear_15 kc ks loc st h := rfl
end
theorem y_M_clear_0 : eg_seq m_M_clear 0 c_M_clear_0 = true := by decide +kernel
theorem y_M_clear_15 : eg_seq m_M_clear 15 c_M_clear_15 = true := by decide +kernel
theorem q_M_clear : ∀ q ∈ T_M_clear, eg_seq m_M_clear q.1 q.2 = true := by
  intro q hq
  simp only [T_M_clear, List.mem_cons, List.not_mem_nil, or_false] at hq
  rcases hq with rfl
  · exact y_M_clear_15
theorem b_M_clear {as : List Value} {h : List eg_E} {Q : Option Value → List eg_E → Prop} (hf : (eg_fl as).length ≤ 3) (hw : wps (eg_rm m_M_clear) (eg_run (eg_rm m_M_clear) (eg_R m_M_clear Q (h.length + 0)) Q T_M_clear 3) Q c_M_clear_0 0 0 (eg_entry 3 as) [] h) : eg_Runs n_M_clear as h Q := eg_begin2 (d := m_M_clear) rfl (by decide) y_M_clear_0 q_M_clear hf hw
/-! ===== M_at_III ===== -/
def c_M_at_III_90 : List eg_I := .inl (90, 1, .lreturn, 0, 0) :: []
def c_M_at_III_89 : List eg_I := .inl (89, 1, .i2l, 0, 0) :: c_M_at_III_90
def c_M_at_III_88 : List eg_I := .inl (88, 1, .iaload, 0, 0) :: c_M_at_III_89
def c_M_at_III_86 : List eg_I := .inl (86, 2, .iload 4, 0, 0) :: c_M_at_III_88
def c_M_at_III_83 : List eg_I := .inl (83, 3, .getfield 19, 12, 3) :: c_M_at_III_86
def c_M_at_III_82 : List eg_I := .inl (82, 1, .aload 0, 0, 0) :: c_M_at_III_83
def c_M_at_III_79 : List eg_I := .inl (79, 3, .goto (11), 90, 0) :: []
def c_M_at_III_78 : List eg_I := .inl (78, 1, .i2l, 0, 0) :: c_M_at_III_79
def c_M_at_III_77 : List eg_I := .inl (77, 1, .iaload, 0, 0) :: c_M_at_III_78
def c_M_at_III_75 : List eg_I := .inl (75, 2, .iload 4, 0, 0) :: c_M_at_III_77
def c_M_at_III_72 : List eg_I := .inl (72, 3, .getfield 16, 12, 2) :: c_M_at_III_75
def c_M_at_III_71 : List eg_I := .inl (71, 1, .aload 0, 0, 0) :: c_M_at_III_72
def c_M_at_III_68 : List eg_I := .inl (68, 3, .if_icmp .ne (14), 82, 0) :: c_M_at_III_71
def c_M_at_III_67 : List eg_I := .inl (67, 1, .iconst (1), 0, 0) :: c_M_at_III_68
def c_M_at_III_66 : List eg_I := .inl (66, 1, .iload 3, 0, 0) :: c_M_at_III_67
def c_M_at_III_63 : List eg_I := .inl (63, 3, .goto (27), 90, 0) :: []
def c_M_at_III_62 : List eg_I := .inl (62, 1, .i2l, 0, 0) :: c_M_at_III_63
def c_M_at_III_61 : List eg_I := .inl (61, 1, .iaload, 0, 0) :: c_M_at_III_62
def c_M_at_III_59 : List eg_I := .inl (59, 2, .iload 4, 0, 0) :: c_M_at_III_61
def c_M_at_III_56 : List eg_I := .inl (56, 3, .getfield 13, 12, 1) :: c_M_at_III_59
def c_M_at_III_55 : List eg_I := .inl (55, 1, .aload 0, 0, 0) :: c_M_at_III_56
def c_M_at_III_52 : List eg_I := .inl (52, 3, .ifCond .ne (14), 66, 0) :: c_M_at_III_55
def c_M_at_III_51 : List eg_I := .inl (51, 1, .iload 3, 0, 0) :: c_M_at_III_52
def c_M_at_III_50 : List eg_I := .inl (50, 1, .lreturn, 0, 0) :: []
def c_M_at_III_47 : List eg_I := .inr (47, 1, 112, n_M_finding, 1, 12, 0, 0) :: c_M_at_III_50
def c_M_at_III_44 : List eg_I := .inl (44, 3, .sipush (-1000000000000000007), 126, 0) :: c_M_at_III_47
def c_M_at_III_43 : List eg_I := .inl (43, 1, .aload 0, 0, 0) :: c_M_at_III_44
def c_M_at_III_40 : List eg_I := .inl (40, 3, .ifCond .eq (11), 51, 0) :: c_M_at_III_43
def c_M_at_III_39 : List eg_I := .inl (39, 1, .baload, 0, 0) :: c_M_at_III_40
def c_M_at_III_37 : List eg_I := .inl (37, 2, .iload 4, 0, 0) :: c_M_at_III_39
def c_M_at_III_34 : List eg_I := .inl (34, 3, .getfield 22, 12, 4) :: c_M_at_III_37
def c_M_at_III_33 : List eg_I := .inl (33, 1, .aload 0, 0, 0) :: c_M_at_III_34
def c_M_at_III_31 : List eg_I := .inl (31, 2, .istore 4, 0, 0) :: c_M_at_III_33
def c_M_at_III_28 : List eg_I := .inr (28, 0, 103, n_M_at_II, 2, 12, 0, 0) :: c_M_at_III_31
def c_M_at_III_27 : List eg_I := .inl (27, 1, .iload 2, 0, 0) :: c_M_at_III_28
def c_M_at_III_26 : List eg_I := .inl (26, 1, .iload 1, 0, 0) :: c_M_at_III_27
def c_M_at_III_25 : List eg_I := .inl (25, 1, .lreturn, 0, 0) :: []
def c_M_at_III_22 : List eg_I := .inr (22, 1, 112, n_M_finding, 1, 12, 0, 0) :: c_M_at_III_25
def c_M_at_III_19 : List eg_I := .inl (19, 3, .sipush (-1000000000000000001), 110, 0) :: c_M_at_III_22
def c_M_at_III_18 : List eg_I := .inl (18, 1, .aload 0, 0, 0) :: c_M_at_III_19
def c_M_at_III_15 : List eg_I := .inl (15, 3, .ifCond .ne (11), 26, 0) :: c_M_at_III_18
def c_M_at_III_12 : List eg_I := .inr (12, 0, 95, n_M_isIn, 3, 12, 0, 0) :: c_M_at_III_15
def c_M_at_III_11 : List eg_I := .inl (11, 1, .iconst (2), 0, 0) :: c_M_at_III_12
def c_M_at_III_10 : List eg_I := .inl (10, 1, .iconst (0), 0, 0) :: c_M_at_III_11
def c_M_at_III_9 : List eg_I := .inl (9, 1, .iload 3, 0, 0) :: c_M_at_III_10
def c_M_at_III_6 : List eg_I := .inl (6, 3, .ifCond .eq (12), 18, 0) :: c_M_at_III_9
def c_M_at_III_3 : List eg_I := .inr (3, 1, 122, n_M_isPoint, 2, 12, 0, 0) :: c_M_at_III_6
def c_M_at_III_2 : List eg_I := .inl (2, 1, .iload 2, 0, 0) :: c_M_at_III_3
def c_M_at_III_1 : List eg_I := .inl (1, 1, .iload 1, 0, 0) :: c_M_at_III_2
def c_M_at_III_0 : List eg_I := .inl (0, 1, .aload 0, 0, 0) :: c_M_at_III_1
section
variable {rm : Room} {K : Nat → Nat → Nat → eg_Lo → List Value → List eg_E → Prop} {Q : Option Value → List eg_E → Prop} {kc ks : Nat} {loc : eg_Lo} {st : List Value} {h : List eg_E}
theorem s_M_at_III_0 {x : Nat} {l : eg_Lo} : wps rm K Q c_M_at_III_0 kc ks (some (.ref x) :: l) (st) h = wps rm K Q c_M_at_III_1 kc ks (some (.ref x) :: l) (.ref x :: st) h := gk_aload rfl
theorem s_M_at_III_1 {x : Int32} {l0 : Option Value} {l : eg_Lo} : wps rm K Q c_M_at_III_1 kc ks (l0 :: some (.int x) :: l) (st) h = wps rm K Q c_M_at_III_2 kc ks (l0 :: some (.int x) :: l) (.int x :: st) h := gk_iload rfl
theorem s_M_at_III_2 {x : Int32} {l0 l1 : Option Value} {l : eg_Lo} : wps rm K Q c_M_at_III_2 kc ks (l0 :: l1 :: some (.int x) :: l) (st) h = wps rm K Q c_M_at_III_3 kc ks (l0 :: l1 :: some (.int x) :: l) (.int x :: st) h := gk_iload rfl
theorem s_M_at_III_3  {a1 : Value} {a2 : Value} {x : Nat} : wps rm K Q c_M_at_III_3 kc ks loc (a2 :: a1 :: .ref (x + 1) :: st) h = (eg_cls h x 12 ∧ st.length ≤ 4 ∧ eg_Cs n_M_isPoint (.ref (x + 1) :: [a1, a2]) h (fun v h9 => wps rm K Q c_M_at_III_6 kc ks loc (v.toList ++ st) h9)) := eg_c1_2
theorem s_M_at_III_6 {x : Int32} : wps rm K Q c_M_at_III_6 kc ks loc (.int x :: st) h = ((x = 0 → K 18 kc ks loc st h) ∧ (¬ x = 0 → wps rm K Q c_M_at_III_9 kc ks loc (st) h)) := gk_if1_eq
theorem s_M_at_III_9 {x : Int32} {l0 l1 l2 : Option Value} {l : eg_Lo} : wps rm K Q c_M_at_III_9 kc ks (l0 :: l1 :: l2 :: some (.int x) :: l) (st) h = wps rm K Q c_M_at_III_10 kc ks (l0 :: l1 :: l2 :: some (.int x) :: l) (.int x :: st) h := gk_iload rfl
theorem s_M_at_III_10  : wps rm K Q c_M_at_III_10 kc ks loc (st) h = wps rm K Q c_M_at_III_11 kc ks loc (.int (0) :: st) h := gk_ic (by decide)
theorem s_M_at_III_11  : wps rm K Q c_M_at_III_11 kc ks loc (st) h = wps rm K Q c_M_at_III_12 kc ks loc (.int (2) :: st) h := gk_ic (by decide)
theorem s_M_at_III_12  {a1 : Value} {a2 : Value} {a3 : Value} : wps rm K Q c_M_at_III_12 kc ks loc (a3 :: a2 :: a1 :: st) h = (st.length ≤ 4 ∧ eg_Cs n_M_isIn [a1, a2, a3] h (fun v h9 => wps rm K Q c_M_at_III_15 kc ks loc (v.toList ++ st) h9)) := eg_c0_3
theorem s_M_at_III_15 {x : Int32} : wps rm K Q c_M_at_III_15 kc ks loc (.int x :: st) h = ((¬ x = 0 → K 26 kc ks loc st h) ∧ (x = 0 → wps rm K Q c_M_at_III_18 kc ks loc (st) h)) := gk_if1_ne
theorem s_M_at_III_18 {x : Nat} {l : eg_Lo} : wps rm K Q c_M_at_III_18 kc ks (some (.ref x) :: l) (st) h = wps rm K Q c_M_at_III_19 kc ks (some (.ref x) :: l) (.ref x :: st) h := gk_aload rfl
theorem s_M_at_III_19  : wps rm K Q c_M_at_III_19 kc ks loc (st) h = wps rm K Q c_M_at_III_22 kc ks loc (.long (-1000000000000000001) :: st) h := gk_lc (by decide)
theorem s_M_at_III_22  {a1 : Value} {x : Nat} : wps rm K Q c_M_at_III_22 kc ks loc (a1 :: .ref (x + 1) :: st) h = (eg_cls h x 12 ∧ st.length ≤ 4 ∧ eg_Cs n_M_finding (.ref (x + 1) :: [a1]) h (fun v h9 => wps rm K Q c_M_at_III_25 kc ks loc (v.toList ++ st) h9)) := eg_c1_1
theorem s_M_at_III_25 {x : Int64} : wps rm K Q c_M_at_III_25 kc ks loc ([.long x]) h = (kc = rm.cells ∧ Q (some (.long x)) h) := gk_lret
theorem s_M_at_III_26 {x : Int32} {l0 : Option Value} {l : eg_Lo} : wps rm K Q c_M_at_III_26 kc ks (l0 :: some (.int x) :: l) (st) h = wps rm K Q c_M_at_III_27 kc ks (l0 :: some (.int x) :: l) (.int x :: st) h := gk_iload rfl
theorem s_M_at_III_27 {x : Int32} {l0 l1 : Option Value} {l : eg_Lo} : wps rm K Q c_M_at_III_27 kc ks (l0 :: l1 :: some (.int x) :: l) (st) h = wps rm K Q c_M_at_III_28 kc ks (l0 :: l1 :: some (.int x) :: l) (.int x :: st) h := gk_iload rfl
theorem s_M_at_III_28  {a1 : Value} {a2 : Value} : wps rm K Q c_M_at_III_28 kc ks loc (a2 :: a1 :: st) h = (st.length ≤ 4 ∧ eg_Cs n_M_at_II [a1, a2] h (fun v h9 => wps rm K Q c_M_at_III_31 kc ks loc (v.toList ++ st) h9)) := eg_c0_2
theorem s_M_at_III_31 {x : Int32} : wps rm K Q c_M_at_III_31 kc ks loc (.int x :: st) h = wps rm K Q c_M_at_III_33 kc ks (eg_set1 loc 4 (.int x)) (st) h := gk_istore
theorem s_M_at_III_33 {x : Nat} {l : eg_Lo} : wps rm K Q c_M_at_III_33 kc ks (some (.ref x) :: l) (st) h = wps rm K Q c_M_at_III_34 kc ks (some (.ref x) :: l) (.ref x :: st) h := gk_aload rfl
theorem s_M_at_III_34 {x : Nat} : wps rm K Q c_M_at_III_34 kc ks loc (.ref (x + 1) :: st) h = eg_gf h x 12 4 (fun v => wps rm K Q c_M_at_III_37 kc ks loc (v :: st) h) := gk_gf
theorem s_M_at_III_37 {x : Int32} {l0 l1 l2 l3 : Option Value} {l : eg_Lo} : wps rm K Q c_M_at_III_37 kc ks (l0 :: l1 :: l2 :: l3 :: some (.int x) :: l) (st) h = wps rm K Q c_M_at_III_39 kc ks (l0 :: l1 :: l2 :: l3 :: some (.int x) :: l) (.int x :: st) h := gk_iload rfl
theorem s_M_at_III_39 {x : Nat} {i : Int32} : wps rm K Q c_M_at_III_39 kc ks loc (.int i :: .ref (x + 1) :: st) h = eg_ba h x i (fun v => wps rm K Q c_M_at_III_40 kc ks loc (.int v :: st) h) := gk_baload
theorem s_M_at_III_40 {x : Int32} : wps rm K Q c_M_at_III_40 kc ks loc (.int x :: st) h = ((x = 0 → K 51 kc ks loc st h) ∧ (¬ x = 0 → wps rm K Q c_M_at_III_43 kc ks loc (st) h)) := gk_if1_eq
theorem s_M_at_III_43 {x : Nat} {l : eg_Lo} : wps rm K Q c_M_at_III_43 kc ks (some (.ref x) :: l) (st) h = wps rm K Q c_M_at_III_44 kc ks (some (.ref x) :: l) (.ref x :: st) h := gk_aload rfl
theorem s_M_at_III_44  : wps rm K Q c_M_at_III_44 kc ks loc (st) h = wps rm K Q c_M_at_III_47 kc ks loc (.long (-1000000000000000007) :: st) h := gk_lc (by decide)
theorem s_M_at_III_47  {a1 : Value} {x : Nat} : wps rm K Q c_M_at_III_47 kc ks loc (a1 :: .ref (x + 1) :: st) h = (eg_cls h x 12 ∧ st.length ≤ 4 ∧ eg_Cs n_M_finding (.ref (x + 1) :: [a1]) h (fun v h9 => wps rm K Q c_M_at_III_50 kc ks loc (v.toList ++ st) h9)) := eg_c1_1
theorem s_M_at_III_50 {x : Int64} : wps rm K Q c_M_at_III_50 kc ks loc ([.long x]) h = (kc = rm.cells ∧ Q (some (.long x)) h) := gk_lret
theorem s_M_at_III_51 {x : Int32} {l0 l1 l2 : Option Value} {l : eg_Lo} : wps rm K Q c_M_at_III_51 kc ks (l0 :: l1 :: l2 :: some (.int x) :: l) (st) h = wps rm K Q c_M_at_III_52 kc ks (l0 :: l1 :: l2 :: some (.int x) :: l) (.int x :: st) h := gk_iload rfl
theorem s_M_at_III_52 {x : Int32} : wps rm K Q c_M_at_III_52 kc ks loc (.int x :: st) h = ((¬ x = 0 → K 66 kc ks loc st h) ∧ (x = 0 → wps rm K Q c_M_at_III_55 kc ks loc (st) h)) := gk_if1_ne
theorem s_M_at_III_55 {x : Nat} {l : eg_Lo} : wps rm K Q c_M_at_III_55 kc ks (some (.ref x) :: l) (st) h = wps rm K Q c_M_at_III_56 kc ks (some (.ref x) :: l) (.ref x :: st) h := gk_aload rfl
theorem s_M_at_III_56 {x : Nat} : wps rm K Q c_M_at_III_56 kc ks loc (.ref (x + 1) :: st) h = eg_gf h x 12 1 (fun v => wps rm K Q c_M_at_III_59 kc ks loc (v :: st) h) := gk_gf
theorem s_M_at_III_59 {x : Int32} {l0 l1 l2 l3 : Option Value} {l : eg_Lo} : wps rm K Q c_M_at_III_59 kc ks (l0 :: l1 :: l2 :: l3 :: some (.int x) :: l) (st) h = wps rm K Q c_M_at_III_61 kc ks (l0 :: l1 :: l2 :: l3 :: some (.int x) :: l) (.int x :: st) h := gk_iload rfl
theorem s_M_at_III_61 {x : Nat} {i : Int32} : wps rm K Q c_M_at_III_61 kc ks loc (.int i :: .ref (x + 1) :: st) h = eg_ia h x i (fun v => wps rm K Q c_M_at_III_62 kc ks loc (.int v :: st) h) := gk_iaload
theorem s_M_at_III_62 {x : Int32} : wps rm K Q c_M_at_III_62 kc ks loc (.int x :: st) h = wps rm K Q c_M_at_III_63 kc ks loc (.long (x.toInt64) :: st) h := gk_i2l
theorem s_M_at_III_63  : wps rm K Q c_M_at_III_63 kc ks loc (st) h = K 90 kc ks loc st h := gk_goto
theorem s_M_at_III_66 {x : Int32} {l0 l1 l2 : Option Value} {l : eg_Lo} : wps rm K Q c_M_at_III_66 kc ks (l0 :: l1 :: l2 :: some (.int x) :: l) (st) h = wps rm K Q c_M_at_III_67 kc ks (l0 :: l1 :: l2 :: some (.int x) :: l) (.int x :: st) h := gk_iload rfl
theorem s_M_at_III_67  : wps rm K Q c_M_at_III_67 kc ks loc (st) h = wps rm K Q c_M_at_III_68 kc ks loc (.int (1) :: st) h := gk_ic (by decide)
theorem s_M_at_III_68 {x y : Int32} : wps rm K Q c_M_at_III_68 kc ks loc (.int y :: .int x :: st) h = ((¬ x = y → K 82 kc ks loc st h) ∧ (x = y → wps rm K Q c_M_at_III_71 kc ks loc (st) h)) := gk_if2_ne
theorem s_M_at_III_71 {x : Nat} {l : eg_Lo} : wps rm K Q c_M_at_III_71 kc ks (some (.ref x) :: l) (st) h = wps rm K Q c_M_at_III_72 kc ks (some (.ref x) :: l) (.ref x :: st) h := gk_aload rfl
theorem s_M_at_III_72 {x : Nat} : wps rm K Q c_M_at_III_72 kc ks loc (.ref (x + 1) :: st) h = eg_gf h x 12 2 (fun v => wps rm K Q c_M_at_III_75 kc ks loc (v :: st) h) := gk_gf
theorem s_M_at_III_75 {x : Int32} {l0 l1 l2 l3 : Option Value} {l : eg_Lo} : wps rm K Q c_M_at_III_75 kc ks (l0 :: l1 :: l2 :: l3 :: some (.int x) :: l) (st) h = wps rm K Q c_M_at_III_77 kc ks (l0 :: l1 :: l2 :: l3 :: some (.int x) :: l) (.int x :: st) h := gk_iload rfl
theorem s_M_at_III_77 {x : Nat} {i : Int32} : wps rm K Q c_M_at_III_77 kc ks loc (.int i :: .ref (x + 1) :: st) h = eg_ia h x i (fun v => wps rm K Q c_M_at_III_78 kc ks loc (.int v :: st) h) := gk_iaload
theorem s_M_at_III_78 {x : Int32} : wps rm K Q c_M_at_III_78 kc ks loc (.int x :: st) h = wps rm K Q c_M_at_III_79 kc ks loc (.long (x.toInt64) :: st) h := gk_i2l
theorem s_M_at_III_79  : wps rm K Q c_M_at_III_79 kc ks loc (st) h = K 90 kc ks loc st h := gk_goto
theorem s_M_at_III_82 {x : Nat} {l : eg_Lo} : wps rm K Q c_M_at_III_82 kc ks (some (.ref x) :: l) (st) h = wps rm K Q c_M_at_III_83 kc ks (some (.ref x) :: l) (.ref x :: st) h := gk_aload rfl
theorem s_M_at_III_83 {x : Nat} : wps rm K Q c_M_at_III_83 kc ks loc (.ref (x + 1) :: st) h = eg_gf h x 12 3 (fun v => wps rm K Q c_M_at_III_86 kc ks loc (v :: st) h) := gk_gf
theorem s_M_at_III_86 {x : Int32} {l0 l1 l2 l3 : Option Value} {l : eg_Lo} : wps rm K Q c_M_at_III_86 kc ks (l0 :: l1 :: l2 :: l3 :: some (.int x) :: l) (st) h = wps rm K Q c_M_at_III_88 kc ks (l0 :: l1 :: l2 :: l3 :: some (.int x) :: l) (.int x :: st) h := gk_iload rfl
theorem s_M_at_III_88 {x : Nat} {i : Int32} : wps rm K Q c_M_at_III_88 kc ks loc (.int i :: .ref (x + 1) :: st) h = eg_ia h x i (fun v => wps rm K Q c_M_at_III_89 kc ks loc (.int v :: st) h) := gk_iaload
theorem s_M_at_III_89 {x : Int32} : wps rm K Q c_M_at_III_89 kc ks loc (.int x :: st) h = wps rm K Q c_M_at_III_90 kc ks loc (.long (x.toInt64) :: st) h := gk_i2l
theorem s_M_at_III_90 {x : Int64} : wps rm K Q c_M_at_III_90 kc ks loc ([.long x]) h = (kc = rm.cells ∧ Q (some (.long x)) h) := gk_lret
def T_M_at_III : List (Nat × List eg_I) := [(18, c_M_at_III_18), (26, c_M_at_III_26), (51, c_M_at_III_51), (66, c_M_at_III_66), (82, c_M_at_III_82), (90, c_M_at_III_90)]
theorem j_M_at_III_18 {R : Nat → Nat → Nat → eg_Lo → List Value → List eg_E → Prop} {f pc0 : Nat} : eg_run rm R Q T_M_at_III (f + 1) 18 kc ks loc st h = wps rm (eg_run rm R Q T_M_at_III f) Q c_M_at_III_18 kc ks loc st h := rfl
theorem j_M_at_III_26 {R : Nat → Nat → Nat → eg_Lo → List Value → List eg_E → Prop} {f pc0 : Nat} : eg_run rm R Q T_M_at_III (f + 1) 26 kc ks loc st h = wps rm (eg_run rm R Q T_M_at_III f) Q c_M_at_III_26 kc ks loc st h := rfl
theorem j_M_at_III_51 {R : Nat → Nat → Nat → eg_Lo → List Value → List eg_E → Prop} {f pc0 : Nat} : eg_run rm R Q T_M_at_III (f + 1) 51 kc ks loc st h = wps rm (eg_run rm R Q T_M_at_III f) Q c_M_at_III_51 kc ks loc st h := rfl
theorem j_M_at_III_66 {R : Nat → Nat → Nat → eg_Lo → List Value → List eg_E → Prop} {f pc0 : Nat} : eg_run rm R Q T_M_at_III (f + 1) 66 kc ks loc st h = wps rm (eg_run rm R Q T_M_at_III f) Q c_M_at_III_66 kc ks loc st h := rfl
theorem j_M_at_III_82 {R : Nat → Nat → Nat → eg_Lo → List Value → List eg_E → Prop} {f pc0 : Nat} : eg_run rm R Q T_M_at_III (f + 1) 82 kc ks loc st h = wps rm (eg_run rm R Q T_M_at_III f) Q c_M_at_III_82 kc ks loc st h := rfl
theorem j_M_at_III_90 {R : Nat → Nat → Nat → eg_Lo → List Value → List eg_E → Prop} {f pc0 : Nat} : eg_run rm R Q T_M_at_III (f + 1) 90 kc ks loc st h = wps rm (eg_run rm R Q T_M_at_III f) Q c_M_at_III_90 kc ks loc st h := rfl
end
theorem y_M_at_III_0 : eg_seq m_M_at_III 0 c_M_at_III_0 = true := by decide +kernel
theorem y_M_at_III_26 : eg_seq m_M_at_III 26 c_M_at_III_26 = true := by decide +kernel
theorem y_M_at_III_51 : eg_seq m_M_at_III 51 c_M_at_III_51 = true := by decide +kernel
theorem y_M_at_III_66 : eg_seq m_M_at_III 66 c_M_at_III_66 = true := by decide +kernel
theorem y_M_at_III_82 : eg_seq m_M_at_III 82 c_M_at_III_82 = true := by decide +kernel
theorem q_M_at_III : ∀ q ∈ T_M_at_III, eg_seq m_M_at_III q.1 q.2 = true := by
  intro q hq
  simp only [T_M_at_III, List.mem_cons, List.not_mem_nil, or_false] at hq
  rcases hq with rfl | rfl | rfl | rfl | rfl | rfl
  · exact (eg_seq_drop y_M_at_III_0 10 : eg_seq m_M_at_III 18 c_M_at_III_18 = true)
  · exact y_M_at_III_26
  · exact y_M_at_III_51
  · exact y_M_at_III_66
  · exact y_M_at_III_82
  · exact (eg_seq_drop y_M_at_III_82 5 : eg_seq m_M_at_III 90 c_M_at_III_90 = true)
theorem b_M_at_III {as : List Value} {h : List eg_E} {Q : Option Value → List eg_E → Prop} (hf : (eg_fl as).length ≤ 5) (hw : wps (eg_rm m_M_at_III) (eg_run (eg_rm m_M_at_III) (eg_R m_M_at_III Q (h.length + 0)) Q T_M_at_III 8) Q c_M_at_III_0 0 0 (eg_entry 5 as) [] h) : eg_Runs n_M_at_III as h Q := eg_begin2 (d := m_M_at_III) rfl (by decide) y_M_at_III_0 q_M_at_III hf hw
/-! ===== M_points ===== -/
def z_M_points_20 : List eg_I := [.inl (20, 0, .nop, 0, 0)]
def c_M_points_65 : List eg_I := .inl (65, 1, .lreturn, 0, 0) :: []
def c_M_points_64 : List eg_I := .inl (64, 1, .i2l, 0, 0) :: c_M_points_65
def c_M_points_63 : List eg_I := .inl (63, 1, .iload 3, 0, 0) :: c_M_points_64
def c_M_points_60 : List eg_I := .inl (60, 3, .goto (-40), 20, 0) :: []
def c_M_points_57 : List eg_I := .inl (57, 3, .iinc 4 (1), 0, 0) :: c_M_points_60
def c_M_points_56 : List eg_I := .inl (56, 1, .istore 3, 0, 0) :: c_M_points_57
def c_M_points_55 : List eg_I := .inl (55, 1, .iadd, 0, 0) :: c_M_points_56
def c_M_points_54 : List eg_I := .inl (54, 1, .iconst (1), 0, 0) :: c_M_points_55
def c_M_points_51 : List eg_I := .inl (51, 3, .goto (4), 55, 0) :: []
def c_M_points_50 : List eg_I := .inl (50, 1, .iconst (0), 0, 0) :: c_M_points_51
def c_M_points_47 : List eg_I := .inl (47, 3, .ifCond .eq (7), 54, 0) :: c_M_points_50
def c_M_points_46 : List eg_I := .inl (46, 1, .baload, 0, 0) :: c_M_points_47
def c_M_points_43 : List eg_I := .inr (43, 0, 103, n_M_at_II, 2, 12, 0, 0) :: c_M_points_46
def c_M_points_41 : List eg_I := .inl (41, 2, .iload 4, 0, 0) :: c_M_points_43
def c_M_points_40 : List eg_I := .inl (40, 1, .iload 1, 0, 0) :: c_M_points_41
def c_M_points_37 : List eg_I := .inl (37, 3, .getfield 22, 12, 4) :: c_M_points_40
def c_M_points_36 : List eg_I := .inl (36, 1, .aload 0, 0, 0) :: c_M_points_37
def c_M_points_33 : List eg_I := .inl (33, 3, .ifCond .eq (21), 54, 0) :: c_M_points_36
def c_M_points_32 : List eg_I := .inl (32, 1, .iload 2, 0, 0) :: c_M_points_33
def c_M_points_31 : List eg_I := .inl (31, 1, .iload 3, 0, 0) :: c_M_points_32
def c_M_points_28 : List eg_I := .inl (28, 3, .if_icmp .ge (35), 63, 0) :: c_M_points_31
def c_M_points_27 : List eg_I := .inl (27, 1, .iaload, 0, 0) :: c_M_points_28
def c_M_points_26 : List eg_I := .inl (26, 1, .iload 1, 0, 0) :: c_M_points_27
def c_M_points_23 : List eg_I := .inl (23, 3, .getfield 9, 12, 0) :: c_M_points_26
def c_M_points_22 : List eg_I := .inl (22, 1, .aload 0, 0, 0) :: c_M_points_23
def c_M_points_20 : List eg_I := .inl (20, 2, .iload 4, 0, 0) :: c_M_points_22
def c_M_points_18 : List eg_I := .inl (18, 2, .istore 4, 0, 0) :: z_M_points_20
def c_M_points_17 : List eg_I := .inl (17, 1, .iconst (0), 0, 0) :: c_M_points_18
def c_M_points_16 : List eg_I := .inl (16, 1, .istore 3, 0, 0) :: c_M_points_17
def c_M_points_15 : List eg_I := .inl (15, 1, .iconst (0), 0, 0) :: c_M_points_16
def c_M_points_14 : List eg_I := .inl (14, 1, .lreturn, 0, 0) :: []
def c_M_points_11 : List eg_I := .inr (11, 1, 112, n_M_finding, 1, 12, 0, 0) :: c_M_points_14
def c_M_points_8 : List eg_I := .inl (8, 3, .sipush (-1000000000000000001), 110, 0) :: c_M_points_11
def c_M_points_7 : List eg_I := .inl (7, 1, .aload 0, 0, 0) :: c_M_points_8
def c_M_points_4 : List eg_I := .inl (4, 3, .ifCond .ne (11), 15, 0) :: c_M_points_7
def c_M_points_1 : List eg_I := .inr (1, 0, 99, n_M_isPart, 1, 12, 0, 0) :: c_M_points_4
def c_M_points_0 : List eg_I := .inl (0, 1, .iload 1, 0, 0) :: c_M_points_1
section
variable {rm : Room} {K : Nat → Nat → Nat → eg_Lo → List Value → List eg_E → Prop} {Q : Option Value → List eg_E → Prop} {kc ks : Nat} {loc : eg_Lo} {st : List Value} {h : List eg_E}
theorem s_M_points_0 {x : Int32} {l0 : Option Value} {l : eg_Lo} : wps rm K Q c_M_points_0 kc ks (l0 :: some (.int x) :: l) (st) h = wps rm K Q c_M_points_1 kc ks (l0 :: some (.int x) :: l) (.int x :: st) h := gk_iload rfl
theorem s_M_points_1  {a1 : Value} : wps rm K Q c_M_points_1 kc ks loc (a1 :: st) h = (st.length ≤ 4 ∧ eg_Cs n_M_isPart [a1] h (fun v h9 => wps rm K Q c_M_points_4 kc ks loc (v.toList ++ st) h9)) := eg_c0_1
theorem s_M_points_4 {x : Int32} : wps rm K Q c_M_points_4 kc ks loc (.int x :: st) h = ((¬ x = 0 → K 15 kc ks loc st h) ∧ (x = 0 → wps rm K Q c_M_points_7 kc ks loc (st) h)) := gk_if1_ne
theorem s_M_points_7 {x : Nat} {l : eg_Lo} : wps rm K Q c_M_points_7 kc ks (some (.ref x) :: l) (st) h = wps rm K Q c_M_points_8 kc ks (some (.ref x) :: l) (.ref x :: st) h := gk_aload rfl
theorem s_M_points_8  : wps rm K Q c_M_points_8 kc ks loc (st) h = wps rm K Q c_M_points_11 kc ks loc (.long (-1000000000000000001) :: st) h := gk_lc (by decide)
theorem s_M_points_11  {a1 : Value} {x : Nat} : wps rm K Q c_M_points_11 kc ks loc (a1 :: .ref (x + 1) :: st) h = (eg_cls h x 12 ∧ st.length ≤ 4 ∧ eg_Cs n_M_finding (.ref (x + 1) :: [a1]) h (fun v h9 => wps rm K Q c_M_points_14 kc ks loc (v.toList ++ st) h9)) := eg_c1_1
theorem s_M_points_14 {x : Int64} : wps rm K Q c_M_points_14 kc ks loc ([.long x]) h = (kc = rm.cells ∧ Q (some (.long x)) h) := gk_lret
theorem s_M_points_15  : wps rm K Q c_M_points_15 kc ks loc (st) h = wps rm K Q c_M_points_16 kc ks loc (.int (0) :: st) h := gk_ic (by decide)
theorem s_M_points_16 {x : Int32} : wps rm K Q c_M_points_16 kc ks loc (.int x :: st) h = wps rm K Q c_M_points_17 kc ks (eg_set1 loc 3 (.int x)) (st) h := gk_istore
theorem s_M_points_17  : wps rm K Q c_M_points_17 kc ks loc (st) h = wps rm K Q c_M_points_18 kc ks loc (.int (0) :: st) h := gk_ic (by decide)
theorem s_M_points_18 {x : Int32} : wps rm K Q c_M_points_18 kc ks loc (.int x :: st) h = wps rm K Q z_M_points_20 kc ks (eg_set1 loc 4 (.int x)) (st) h := gk_istore
theorem s_M_points_20 {x : Int32} {l0 l1 l2 l3 : Option Value} {l : eg_Lo} : wps rm K Q c_M_points_20 kc ks (l0 :: l1 :: l2 :: l3 :: some (.int x) :: l) (st) h = wps rm K Q c_M_points_22 kc ks (l0 :: l1 :: l2 :: l3 :: some (.int x) :: l) (.int x :: st) h := gk_iload rfl
theorem s_M_points_22 {x : Nat} {l : eg_Lo} : wps rm K Q c_M_points_22 kc ks (some (.ref x) :: l) (st) h = wps rm K Q c_M_points_23 kc ks (some (.ref x) :: l) (.ref x :: st) h := gk_aload rfl
theorem s_M_points_23 {x : Nat} : wps rm K Q c_M_points_23 kc ks loc (.ref (x + 1) :: st) h = eg_gf h x 12 0 (fun v => wps rm K Q c_M_points_26 kc ks loc (v :: st) h) := gk_gf
theorem s_M_points_26 {x : Int32} {l0 : Option Value} {l : eg_Lo} : wps rm K Q c_M_points_26 kc ks (l0 :: some (.int x) :: l) (st) h = wps rm K Q c_M_points_27 kc ks (l0 :: some (.int x) :: l) (.int x :: st) h := gk_iload rfl
theorem s_M_points_27 {x : Nat} {i : Int32} : wps rm K Q c_M_points_27 kc ks loc (.int i :: .ref (x + 1) :: st) h = eg_ia h x i (fun v => wps rm K Q c_M_points_28 kc ks loc (.int v :: st) h) := gk_iaload
theorem s_M_points_28 {x y : Int32} : wps rm K Q c_M_points_28 kc ks loc (.int y :: .int x :: st) h = ((y ≤ x → K 63 kc ks loc st h) ∧ (¬ y ≤ x → wps rm K Q c_M_points_31 kc ks loc (st) h)) := gk_if2_ge
theorem s_M_points_31 {x : Int32} {l0 l1 l2 : Option Value} {l : eg_Lo} : wps rm K Q c_M_points_31 kc ks (l0 :: l1 :: l2 :: some (.int x) :: l) (st) h = wps rm K Q c_M_points_32 kc ks (l0 :: l1 :: l2 :: some (.int x) :: l) (.int x :: st) h := gk_iload rfl
theorem s_M_points_32 {x : Int32} {l0 l1 : Option Value} {l : eg_Lo} : wps rm K Q c_M_points_32 kc ks (l0 :: l1 :: some (.int x) :: l) (st) h = wps rm K Q c_M_points_33 kc ks (l0 :: l1 :: some (.int x) :: l) (.int x :: st) h := gk_iload rfl
theorem s_M_points_33 {x : Int32} : wps rm K Q c_M_points_33 kc ks loc (.int x :: st) h = ((x = 0 → K 54 kc ks loc st h) ∧ (¬ x = 0 → wps rm K Q c_M_points_36 kc ks loc (st) h)) := gk_if1_eq
theorem s_M_points_36 {x : Nat} {l : eg_Lo} : wps rm K Q c_M_points_36 kc ks (some (.ref x) :: l) (st) h = wps rm K Q c_M_points_37 kc ks (some (.ref x) :: l) (.ref x :: st) h := gk_aload rfl
theorem s_M_points_37 {x : Nat} : wps rm K Q c_M_points_37 kc ks loc (.ref (x + 1) :: st) h = eg_gf h x 12 4 (fun v => wps rm K Q c_M_points_40 kc ks loc (v :: st) h) := gk_gf
theorem s_M_points_40 {x : Int32} {l0 : Option Value} {l : eg_Lo} : wps rm K Q c_M_points_40 kc ks (l0 :: some (.int x) :: l) (st) h = wps rm K Q c_M_points_41 kc ks (l0 :: some (.int x) :: l) (.int x :: st) h := gk_iload rfl
theorem s_M_points_41 {x : Int32} {l0 l1 l2 l3 : Option Value} {l : eg_Lo} : wps rm K Q c_M_points_41 kc ks (l0 :: l1 :: l2 :: l3 :: some (.int x) :: l) (st) h = wps rm K Q c_M_points_43 kc ks (l0 :: l1 :: l2 :: l3 :: some (.int x) :: l) (.int x :: st) h := gk_iload rfl
theorem s_M_points_43  {a1 : Value} {a2 : Value} : wps rm K Q c_M_points_43 kc ks loc (a2 :: a1 :: st) h = (st.length ≤ 4 ∧ eg_Cs n_M_at_II [a1, a2] h (fun v h9 => wps rm K Q c_M_points_46 kc ks loc (v.toList ++ st) h9)) := eg_c0_2
theorem s_M_points_46 {x : Nat} {i : Int32} : wps rm K Q c_M_points_46 kc ks loc (.int i :: .ref (x + 1) :: st) h = eg_ba h x i (fun v => wps rm K Q c_M_points_47 kc ks loc (.int v :: st) h) := gk_baload
theorem s_M_points_47 {x : Int32} : wps rm K Q c_M_points_47 kc ks loc (.int x :: st) h = ((x = 0 → K 54 kc ks loc st h) ∧ (¬ x = 0 → wps rm K Q c_M_points_50 kc ks loc (st) h)) := gk_if1_eq
theorem s_M_points_50  : wps rm K Q c_M_points_50 kc ks loc (st) h = wps rm K Q c_M_points_51 kc ks loc (.int (0) :: st) h := gk_ic (by decide)
theorem s_M_points_51  : wps rm K Q c_M_points_51 kc ks loc (st) h = K 55 kc ks loc st h := gk_goto
theorem s_M_points_54  : wps rm K Q c_M_points_54 kc ks loc (st) h = wps rm K Q c_M_points_55 kc ks loc (.int (1) :: st) h := gk_ic (by decide)
theorem s_M_points_55 {x y : Int32} : wps rm K Q c_M_points_55 kc ks loc (.int y :: .int x :: st) h = wps rm K Q c_M_points_56 kc ks loc (.int (x + y) :: st) h := gk_iadd
theorem s_M_points_56 {x : Int32} : wps rm K Q c_M_points_56 kc ks loc (.int x :: st) h = wps rm K Q c_M_points_57 kc ks (eg_set1 loc 3 (.int x)) (st) h := gk_istore
theorem s_M_points_57 {x : Int32} {l0 l1 l2 l3 : Option Value} {lz : eg_Lo} : wps rm K Q c_M_points_57 kc ks (l0 :: l1 :: l2 :: l3 :: some (.int x) :: lz) (st) h = wps rm K Q c_M_points_60 kc ks (eg_set1 (l0 :: l1 :: l2 :: l3 :: some (.int x) :: lz) 4 (.int (x + (1)))) (st) h := gk_iinc rfl (by decide)
theorem s_M_points_60  : wps rm K Q c_M_points_60 kc ks loc (st) h = K 20 kc ks loc st h := gk_goto
theorem s_M_points_63 {x : Int32} {l0 l1 l2 : Option Value} {l : eg_Lo} : wps rm K Q c_M_points_63 kc ks (l0 :: l1 :: l2 :: some (.int x) :: l) (st) h = wps rm K Q c_M_points_64 kc ks (l0 :: l1 :: l2 :: some (.int x) :: l) (.int x :: st) h := gk_iload rfl
theorem s_M_points_64 {x : Int32} : wps rm K Q c_M_points_64 kc ks loc (.int x :: st) h = wps rm K Q c_M_points_65 kc ks loc (.long (x.toInt64) :: st) h := gk_i2l
theorem s_M_points_65 {x : Int64} : wps rm K Q c_M_points_65 kc ks loc ([.long x]) h = (kc = rm.cells ∧ Q (some (.long x)) h) := gk_lret
theorem sz_M_points_20 : wps rm K Q z_M_points_20 kc ks loc st h = K 20 kc ks loc st h := gk_nop
def T_M_points : List (Nat × List eg_I) := [(15, c_M_points_15), (54, c_M_points_54), (55, c_M_points_55), (63, c_M_points_63)]
theorem j_M_points_15 {R : Nat → Nat → Nat → eg_Lo → List Value → List eg_E → Prop} {f pc0 : Nat} : eg_run rm R Q T_M_points (f + 1) 15 kc ks loc st h = wps rm (eg_run rm R Q T_M_points f) Q c_M_points_15 kc ks loc st h := rfl
theorem j_M_points_54 {R : Nat → Nat → Nat → eg_Lo → List Value → List eg_E → Prop} {f pc0 : Nat} : eg_run rm R Q T_M_points (f + 1) 54 kc ks loc st h = wps rm (eg_run rm R Q T_M_points f) Q c_M_points_54 kc ks loc st h := rfl
theorem j_M_points_55 {R : Nat → Nat → Nat → eg_Lo → List Value → List eg_E → Prop} {f pc0 : Nat} : eg_run rm R Q T_M_points (f + 1) 55 kc ks loc st h = wps rm (eg_run rm R Q T_M_points f) Q c_M_points_55 kc ks loc st h := rfl
theorem j_M_points_63 {R : Nat → Nat → Nat → eg_Lo → List Value → List eg_E → Prop} {f pc0 : Nat} : eg_run rm R Q T_M_points (f + 1) 63 kc ks loc st h = wps rm (eg_run rm R Q T_M_points f) Q c_M_points_63 kc ks loc st h := rfl
theorem j_M_points_20 {R : Nat → Nat → Nat → eg_Lo → List Value → List eg_E → Prop} {f pc0 : Nat} : eg_run rm R Q T_M_points (f + 1) 20 kc ks loc st h = R 20 kc ks loc st h := rfl
end
theorem y_M_points_0 : eg_seq m_M_points 0 c_M_points_0 = true := by decide +kernel
theorem y_M_points_15 : eg_seq m_M_points 15 c_M_points_15 = true := by decide +kernel
theorem y_M_points_20 : eg_seq m_M_points 20 c_M_points_20 = true := by decide +kernel
theorem y_M_points_54 : eg_seq m_M_points 54 c_M_points_54 = true := by decide +kernel
theorem y_M_points_63 : eg_seq m_M_points 63 c_M_points_63 = true := by decide +kernel
theorem q_M_points : ∀ q ∈ T_M_points, eg_seq m_M_points q.1 q.2 = true := by
  intro q hq
  simp only [T_M_points, List.mem_cons, List.not_mem_nil, or_false] at hq
  rcases hq with rfl | rfl | rfl | rfl
  · exact y_M_points_15
  · exact y_M_points_54
  · exact (eg_seq_drop y_M_points_54 1 : eg_seq m_M_points 55 c_M_points_55 = true)
  · exact y_M_points_63
theorem b_M_points {as : List Value} {h : List eg_E} {Q : Option Value → List eg_E → Prop} (hf : (eg_fl as).length ≤ 5) (hw : wps (eg_rm m_M_points) (eg_run (eg_rm m_M_points) (eg_R m_M_points Q (h.length + 0)) Q T_M_points 6) Q c_M_points_0 0 0 (eg_entry 5 as) [] h) : eg_Runs n_M_points as h Q := eg_begin2 (d := m_M_points) rfl (by decide) y_M_points_0 q_M_points hf hw
theorem p_M_points_20 {Q : Option Value → List eg_E → Prop} {n0 kc ks : Nat} {loc : eg_Lo} {st : List Value} {h : List eg_E} (hw : wps (eg_rm m_M_points) (eg_run (eg_rm m_M_points) (eg_R m_M_points Q n0) Q T_M_points 6) Q c_M_points_20 kc ks loc st h) : eg_R m_M_points Q n0 20 kc ks loc st h := eg_go2 y_M_points_20 q_M_points hw
/-! ===== M_offOf ===== -/
def c_M_offOf_154 : List eg_I := .inl (154, 1, .ireturn, 0, 0) :: []
def c_M_offOf_152 : List eg_I := .inl (152, 2, .iload 10, 0, 0) :: c_M_offOf_154
def c_M_offOf_149 : List eg_I := .inl (149, 3, .goto (5), 154, 0) :: []
def c_M_offOf_148 : List eg_I := .inl (148, 1, .isub, 0, 0) :: c_M_offOf_149
def c_M_offOf_147 : List eg_I := .inl (147, 1, .iconst (1), 0, 0) :: c_M_offOf_148
def c_M_offOf_145 : List eg_I := .inl (145, 2, .iload 10, 0, 0) :: c_M_offOf_147
def c_M_offOf_142 : List eg_I := .inl (142, 3, .ifCond .ge (10), 152, 0) :: c_M_offOf_145
def c_M_offOf_141 : List eg_I := .inl (141, 1, .irem, 0, 0) :: c_M_offOf_142
def c_M_offOf_139 : List eg_I := .inl (139, 2, .iconst (90000), 128, 0) :: c_M_offOf_141
def c_M_offOf_137 : List eg_I := .inl (137, 2, .iload 9, 0, 0) :: c_M_offOf_139
def c_M_offOf_135 : List eg_I := .inl (135, 2, .istore 10, 0, 0) :: c_M_offOf_137
def c_M_offOf_134 : List eg_I := .inl (134, 1, .idiv, 0, 0) :: c_M_offOf_135
def c_M_offOf_132 : List eg_I := .inl (132, 2, .iconst (90000), 128, 0) :: c_M_offOf_134
def c_M_offOf_130 : List eg_I := .inl (130, 2, .iload 9, 0, 0) :: c_M_offOf_132
def c_M_offOf_128 : List eg_I := .inl (128, 2, .istore 9, 0, 0) :: c_M_offOf_130
def c_M_offOf_127 : List eg_I := .inl (127, 1, .iadd, 0, 0) :: c_M_offOf_128
def c_M_offOf_126 : List eg_I := .inl (126, 1, .imul, 0, 0) :: c_M_offOf_127
def c_M_offOf_125 : List eg_I := .inl (125, 1, .iaload, 0, 0) :: c_M_offOf_126
def c_M_offOf_124 : List eg_I := .inl (124, 1, .iadd, 0, 0) :: c_M_offOf_125
def c_M_offOf_123 : List eg_I := .inl (123, 1, .iconst (4), 0, 0) :: c_M_offOf_124
def c_M_offOf_121 : List eg_I := .inl (121, 2, .iload 8, 0, 0) :: c_M_offOf_123
def c_M_offOf_120 : List eg_I := .inl (120, 1, .aload 3, 0, 0) :: c_M_offOf_121
def c_M_offOf_119 : List eg_I := .inl (119, 1, .imul, 0, 0) :: c_M_offOf_120
def c_M_offOf_117 : List eg_I := .inl (117, 2, .iload 7, 0, 0) :: c_M_offOf_119
def c_M_offOf_115 : List eg_I := .inl (115, 2, .iload 6, 0, 0) :: c_M_offOf_117
def c_M_offOf_114 : List eg_I := .inl (114, 1, .iadd, 0, 0) :: c_M_offOf_115
def c_M_offOf_113 : List eg_I := .inl (113, 1, .imul, 0, 0) :: c_M_offOf_114
def c_M_offOf_112 : List eg_I := .inl (112, 1, .iaload, 0, 0) :: c_M_offOf_113
def c_M_offOf_111 : List eg_I := .inl (111, 1, .iadd, 0, 0) :: c_M_offOf_112
def c_M_offOf_110 : List eg_I := .inl (110, 1, .iconst (3), 0, 0) :: c_M_offOf_111
def c_M_offOf_108 : List eg_I := .inl (108, 2, .iload 8, 0, 0) :: c_M_offOf_110
def c_M_offOf_107 : List eg_I := .inl (107, 1, .aload 3, 0, 0) :: c_M_offOf_108
def c_M_offOf_106 : List eg_I := .inl (106, 1, .imul, 0, 0) :: c_M_offOf_107
def c_M_offOf_104 : List eg_I := .inl (104, 2, .iload 7, 0, 0) :: c_M_offOf_106
def c_M_offOf_103 : List eg_I := .inl (103, 1, .isub, 0, 0) :: c_M_offOf_104
def c_M_offOf_101 : List eg_I := .inl (101, 2, .iload 6, 0, 0) :: c_M_offOf_103
def c_M_offOf_98 : List eg_I := .inl (98, 3, .iconst (300), 0, 0) :: c_M_offOf_101
def c_M_offOf_97 : List eg_I := .inl (97, 1, .iadd, 0, 0) :: c_M_offOf_98
def c_M_offOf_96 : List eg_I := .inl (96, 1, .imul, 0, 0) :: c_M_offOf_97
def c_M_offOf_95 : List eg_I := .inl (95, 1, .iaload, 0, 0) :: c_M_offOf_96
def c_M_offOf_94 : List eg_I := .inl (94, 1, .iadd, 0, 0) :: c_M_offOf_95
def c_M_offOf_93 : List eg_I := .inl (93, 1, .iconst (1), 0, 0) :: c_M_offOf_94
def c_M_offOf_91 : List eg_I := .inl (91, 2, .iload 8, 0, 0) :: c_M_offOf_93
def c_M_offOf_90 : List eg_I := .inl (90, 1, .aload 3, 0, 0) :: c_M_offOf_91
def c_M_offOf_89 : List eg_I := .inl (89, 1, .imul, 0, 0) :: c_M_offOf_90
def c_M_offOf_88 : List eg_I := .inl (88, 1, .isub, 0, 0) :: c_M_offOf_89
def c_M_offOf_86 : List eg_I := .inl (86, 2, .iload 7, 0, 0) :: c_M_offOf_88
def c_M_offOf_83 : List eg_I := .inl (83, 3, .iconst (300), 0, 0) :: c_M_offOf_86
def c_M_offOf_81 : List eg_I := .inl (81, 2, .iload 6, 0, 0) :: c_M_offOf_83
def c_M_offOf_80 : List eg_I := .inl (80, 1, .imul, 0, 0) :: c_M_offOf_81
def c_M_offOf_79 : List eg_I := .inl (79, 1, .iaload, 0, 0) :: c_M_offOf_80
def c_M_offOf_77 : List eg_I := .inl (77, 2, .iload 8, 0, 0) :: c_M_offOf_79
def c_M_offOf_76 : List eg_I := .inl (76, 1, .aload 3, 0, 0) :: c_M_offOf_77
def c_M_offOf_75 : List eg_I := .inl (75, 1, .imul, 0, 0) :: c_M_offOf_76
def c_M_offOf_74 : List eg_I := .inl (74, 1, .isub, 0, 0) :: c_M_offOf_75
def c_M_offOf_72 : List eg_I := .inl (72, 2, .iload 7, 0, 0) :: c_M_offOf_74
def c_M_offOf_69 : List eg_I := .inl (69, 3, .iconst (300), 0, 0) :: c_M_offOf_72
def c_M_offOf_68 : List eg_I := .inl (68, 1, .isub, 0, 0) :: c_M_offOf_69
def c_M_offOf_66 : List eg_I := .inl (66, 2, .iload 6, 0, 0) :: c_M_offOf_68
def c_M_offOf_63 : List eg_I := .inl (63, 3, .iconst (300), 0, 0) :: c_M_offOf_66
def c_M_offOf_61 : List eg_I := .inl (61, 2, .istore 8, 0, 0) :: c_M_offOf_63
def c_M_offOf_60 : List eg_I := .inl (60, 1, .iadd, 0, 0) :: c_M_offOf_61
def c_M_offOf_58 : List eg_I := .inl (58, 2, .iload 4, 0, 0) :: c_M_offOf_60
def c_M_offOf_57 : List eg_I := .inl (57, 1, .imul, 0, 0) :: c_M_offOf_58
def c_M_offOf_55 : List eg_I := .inl (55, 2, .iload 5, 0, 0) :: c_M_offOf_57
def c_M_offOf_54 : List eg_I := .inl (54, 1, .iconst (3), 0, 0) :: c_M_offOf_55
def c_M_offOf_52 : List eg_I := .inl (52, 2, .istore 7, 0, 0) :: c_M_offOf_54
def c_M_offOf_51 : List eg_I := .inl (51, 1, .iload 2, 0, 0) :: c_M_offOf_52
def c_M_offOf_48 : List eg_I := .inl (48, 3, .goto (4), 52, 0) :: []
def c_M_offOf_47 : List eg_I := .inl (47, 1, .iadd, 0, 0) :: c_M_offOf_48
def c_M_offOf_44 : List eg_I := .inl (44, 3, .iconst (300), 0, 0) :: c_M_offOf_47
def c_M_offOf_43 : List eg_I := .inl (43, 1, .iload 2, 0, 0) :: c_M_offOf_44
def c_M_offOf_40 : List eg_I := .inl (40, 3, .ifCond .ne (11), 51, 0) :: c_M_offOf_43
def c_M_offOf_38 : List eg_I := .inl (38, 2, .iload 5, 0, 0) :: c_M_offOf_40
def c_M_offOf_36 : List eg_I := .inl (36, 2, .istore 6, 0, 0) :: c_M_offOf_38
def c_M_offOf_35 : List eg_I := .inl (35, 1, .iload 1, 0, 0) :: c_M_offOf_36
def c_M_offOf_32 : List eg_I := .inl (32, 3, .goto (4), 36, 0) :: []
def c_M_offOf_31 : List eg_I := .inl (31, 1, .iadd, 0, 0) :: c_M_offOf_32
def c_M_offOf_28 : List eg_I := .inl (28, 3, .iconst (300), 0, 0) :: c_M_offOf_31
def c_M_offOf_27 : List eg_I := .inl (27, 1, .iload 1, 0, 0) :: c_M_offOf_28
def c_M_offOf_24 : List eg_I := .inl (24, 3, .ifCond .ne (11), 35, 0) :: c_M_offOf_27
def c_M_offOf_22 : List eg_I := .inl (22, 2, .iload 4, 0, 0) :: c_M_offOf_24
def c_M_offOf_20 : List eg_I := .inl (20, 2, .istore 5, 0, 0) :: c_M_offOf_22
def c_M_offOf_19 : List eg_I := .inl (19, 1, .iconst (1), 0, 0) :: c_M_offOf_20
def c_M_offOf_16 : List eg_I := .inl (16, 3, .goto (4), 20, 0) :: []
def c_M_offOf_15 : List eg_I := .inl (15, 1, .iconst (0), 0, 0) :: c_M_offOf_16
def c_M_offOf_12 : List eg_I := .inl (12, 3, .ifCond .ge (7), 19, 0) :: c_M_offOf_15
def c_M_offOf_11 : List eg_I := .inl (11, 1, .iload 2, 0, 0) :: c_M_offOf_12
def c_M_offOf_9 : List eg_I := .inl (9, 2, .istore 4, 0, 0) :: c_M_offOf_11
def c_M_offOf_8 : List eg_I := .inl (8, 1, .iconst (1), 0, 0) :: c_M_offOf_9
def c_M_offOf_5 : List eg_I := .inl (5, 3, .goto (4), 9, 0) :: []
def c_M_offOf_4 : List eg_I := .inl (4, 1, .iconst (0), 0, 0) :: c_M_offOf_5
def c_M_offOf_1 : List eg_I := .inl (1, 3, .ifCond .ge (7), 8, 0) :: c_M_offOf_4
def c_M_offOf_0 : List eg_I := .inl (0, 1, .iload 1, 0, 0) :: c_M_offOf_1
section
variable {rm : Room} {K : Nat → Nat → Nat → eg_Lo → List Value → List eg_E → Prop} {Q : Option Value → List eg_E → Prop} {kc ks : Nat} {loc : eg_Lo} {st : List Value} {h : List eg_E}
theorem s_M_offOf_0 {x : Int32} {l0 : Option Value} {l : eg_Lo} : wps rm K Q c_M_offOf_0 kc ks (l0 :: some (.int x) :: l) (st) h = wps rm K Q c_M_offOf_1 kc ks (l0 :: some (.int x) :: l) (.int x :: st) h := gk_iload rfl
theorem s_M_offOf_1 {x : Int32} : wps rm K Q c_M_offOf_1 kc ks loc (.int x :: st) h = ((0 ≤ x → K 8 kc ks loc st h) ∧ (¬ 0 ≤ x → wps rm K Q c_M_offOf_4 kc ks loc (st) h)) := gk_if1_ge
theorem s_M_offOf_4  : wps rm K Q c_M_offOf_4 kc ks loc (st) h = wps rm K Q c_M_offOf_5 kc ks loc (.int (0) :: st) h := gk_ic (by decide)
theorem s_M_offOf_5  : wps rm K Q c_M_offOf_5 kc ks loc (st) h = K 9 kc ks loc st h := gk_goto
theorem s_M_offOf_8  : wps rm K Q c_M_offOf_8 kc ks loc (st) h = wps rm K Q c_M_offOf_9 kc ks loc (.int (1) :: st) h := gk_ic (by decide)
theorem s_M_offOf_9 {x : Int32} : wps rm K Q c_M_offOf_9 kc ks loc (.int x :: st) h = wps rm K Q c_M_offOf_11 kc ks (eg_set1 loc 4 (.int x)) (st) h := gk_istore
theorem s_M_offOf_11 {x : Int32} {l0 l1 : Option Value} {l : eg_Lo} : wps rm K Q c_M_offOf_11 kc ks (l0 :: l1 :: some (.int x) :: l) (st) h = wps rm K Q c_M_offOf_12 kc ks (l0 :: l1 :: some (.int x) :: l) (.int x :: st) h := gk_iload rfl
theorem s_M_offOf_12 {x : Int32} : wps rm K Q c_M_offOf_12 kc ks loc (.int x :: st) h = ((0 ≤ x → K 19 kc ks loc st h) ∧ (¬ 0 ≤ x → wps rm K Q c_M_offOf_15 kc ks loc (st) h)) := gk_if1_ge
theorem s_M_offOf_15  : wps rm K Q c_M_offOf_15 kc ks loc (st) h = wps rm K Q c_M_offOf_16 kc ks loc (.int (0) :: st) h := gk_ic (by decide)
theorem s_M_offOf_16  : wps rm K Q c_M_offOf_16 kc ks loc (st) h = K 20 kc ks loc st h := gk_goto
theorem s_M_offOf_19  : wps rm K Q c_M_offOf_19 kc ks loc (st) h = wps rm K Q c_M_offOf_20 kc ks loc (.int (1) :: st) h := gk_ic (by decide)
theorem s_M_offOf_20 {x : Int32} : wps rm K Q c_M_offOf_20 kc ks loc (.int x :: st) h = wps rm K Q c_M_offOf_22 kc ks (eg_set1 loc 5 (.int x)) (st) h := gk_istore
theorem s_M_offOf_22 {x : Int32} {l0 l1 l2 l3 : Option Value} {l : eg_Lo} : wps rm K Q c_M_offOf_22 kc ks (l0 :: l1 :: l2 :: l3 :: some (.int x) :: l) (st) h = wps rm K Q c_M_offOf_24 kc ks (l0 :: l1 :: l2 :: l3 :: some (.int x) :: l) (.int x :: st) h := gk_iload rfl
theorem s_M_offOf_24 {x : Int32} : wps rm K Q c_M_offOf_24 kc ks loc (.int x :: st) h = ((¬ x = 0 → K 35 kc ks loc st h) ∧ (x = 0 → wps rm K Q c_M_offOf_27 kc ks loc (st) h)) := gk_if1_ne
theorem s_M_offOf_27 {x : Int32} {l0 : Option Value} {l : eg_Lo} : wps rm K Q c_M_offOf_27 kc ks (l0 :: some (.int x) :: l) (st) h = wps rm K Q c_M_offOf_28 kc ks (l0 :: some (.int x) :: l) (.int x :: st) h := gk_iload rfl
theorem s_M_offOf_28  : wps rm K Q c_M_offOf_28 kc ks loc (st) h = wps rm K Q c_M_offOf_31 kc ks loc (.int (300) :: st) h := gk_ic (by decide)
theorem s_M_offOf_31 {x y : Int32} : wps rm K Q c_M_offOf_31 kc ks loc (.int y :: .int x :: st) h = wps rm K Q c_M_offOf_32 kc ks loc (.int (x + y) :: st) h := gk_iadd
theorem s_M_offOf_32  : wps rm K Q c_M_offOf_32 kc ks loc (st) h = K 36 kc ks loc st h := gk_goto
theorem s_M_offOf_35 {x : Int32} {l0 : Option Value} {l : eg_Lo} : wps rm K Q c_M_offOf_35 kc ks (l0 :: some (.int x) :: l) (st) h = wps rm K Q c_M_offOf_36 kc ks (l0 :: some (.int x) :: l) (.int x :: st) h := gk_iload rfl
theorem s_M_offOf_36 {x : Int32} : wps rm K Q c_M_offOf_36 kc ks loc (.int x :: st) h = wps rm K Q c_M_offOf_38 kc ks (eg_set1 loc 6 (.int x)) (st) h := gk_istore
theorem s_M_offOf_38 {x : Int32} {l0 l1 l2 l3 l4 : Option Value} {l : eg_Lo} : wps rm K Q c_M_offOf_38 kc ks (l0 :: l1 :: l2 :: l3 :: l4 :: some (.int x) :: l) (st) h = wps rm K Q c_M_offOf_40 kc ks (l0 :: l1 :: l2 :: l3 :: l4 :: some (.int x) :: l) (.int x :: st) h := gk_iload rfl
theorem s_M_offOf_40 {x : Int32} : wps rm K Q c_M_offOf_40 kc ks loc (.int x :: st) h = ((¬ x = 0 → K 51 kc ks loc st h) ∧ (x = 0 → wps rm K Q c_M_offOf_43 kc ks loc (st) h)) := gk_if1_ne
theorem s_M_offOf_43 {x : Int32} {l0 l1 : Option Value} {l : eg_Lo} : wps rm K Q c_M_offOf_43 kc ks (l0 :: l1 :: some (.int x) :: l) (st) h = wps rm K Q c_M_offOf_44 kc ks (l0 :: l1 :: some (.int x) :: l) (.int x :: st) h := gk_iload rfl
theorem s_M_offOf_44  : wps rm K Q c_M_offOf_44 kc ks loc (st) h = wps rm K Q c_M_offOf_47 kc ks loc (.int (300) :: st) h := gk_ic (by decide)
theorem s_M_offOf_47 {x y : Int32} : wps rm K Q c_M_offOf_47 kc ks loc (.int y :: .int x :: st) h = wps rm K Q c_M_offOf_48 kc ks loc (.int (x + y) :: st) h := gk_iadd
theorem s_M_offOf_48  : wps rm K Q c_M_offOf_48 kc ks loc (st) h = K 52 kc ks loc st h := gk_goto
theorem s_M_offOf_51 {x : Int32} {l0 l1 : Option Value} {l : eg_Lo} : wps rm K Q c_M_offOf_51 kc ks (l0 :: l1 :: some (.int x) :: l) (st) h = wps rm K Q c_M_offOf_52 kc ks (l0 :: l1 :: some (.int x) :: l) (.int x :: st) h := gk_iload rfl
theorem s_M_offOf_52 {x : Int32} : wps rm K Q c_M_offOf_52 kc ks loc (.int x :: st) h = wps rm K Q c_M_offOf_54 kc ks (eg_set1 loc 7 (.int x)) (st) h := gk_istore
theorem s_M_offOf_54  : wps rm K Q c_M_offOf_54 kc ks loc (st) h = wps rm K Q c_M_offOf_55 kc ks loc (.int (3) :: st) h := gk_ic (by decide)
theorem s_M_offOf_55 {x : Int32} {l0 l1 l2 l3 l4 : Option Value} {l : eg_Lo} : wps rm K Q c_M_offOf_55 kc ks (l0 :: l1 :: l2 :: l3 :: l4 :: some (.int x) :: l) (st) h = wps rm K Q c_M_offOf_57 kc ks (l0 :: l1 :: l2 :: l3 :: l4 :: some (.int x) :: l) (.int x :: st) h := gk_iload rfl
theorem s_M_offOf_57 {x y : Int32} : wps rm K Q c_M_offOf_57 kc ks loc (.int y :: .int x :: st) h = wps rm K Q c_M_offOf_58 kc ks loc (.int (x * y) :: st) h := gk_imul
theorem s_M_offOf_58 {x : Int32} {l0 l1 l2 l3 : Option Value} {l : eg_Lo} : wps rm K Q c_M_offOf_58 kc ks (l0 :: l1 :: l2 :: l3 :: some (.int x) :: l) (st) h = wps rm K Q c_M_offOf_60 kc ks (l0 :: l1 :: l2 :: l3 :: some (.int x) :: l) (.int x :: st) h := gk_iload rfl
theorem s_M_offOf_60 {x y : Int32} : wps rm K Q c_M_offOf_60 kc ks loc (.int y :: .int x :: st) h = wps rm K Q c_M_offOf_61 kc ks loc (.int (x + y) :: st) h := gk_iadd
theorem s_M_offOf_61 {x : Int32} : wps rm K Q c_M_offOf_61 kc ks loc (.int x :: st) h = wps rm K Q c_M_offOf_63 kc ks (eg_set1 loc 8 (.int x)) (st) h := gk_istore
theorem s_M_offOf_63  : wps rm K Q c_M_offOf_63 kc ks loc (st) h = wps rm K Q c_M_offOf_66 kc ks loc (.int (300) :: st) h := gk_ic (by decide)
theorem s_M_offOf_66 {x : Int32} {l0 l1 l2 l3 l4 l5 : Option Value} {l : eg_Lo} : wps rm K Q c_M_offOf_66 kc ks (l0 :: l1 :: l2 :: l3 :: l4 :: l5 :: some (.int x) :: l) (st) h = wps rm K Q c_M_offOf_68 kc ks (l0 :: l1 :: l2 :: l3 :: l4 :: l5 :: some (.int x) :: l) (.int x :: st) h := gk_iload rfl
theorem s_M_offOf_68 {x y : Int32} : wps rm K Q c_M_offOf_68 kc ks loc (.int y :: .int x :: st) h = wps rm K Q c_M_offOf_69 kc ks loc (.int (x - y) :: st) h := gk_isub
theorem s_M_offOf_69  : wps rm K Q c_M_offOf_69 kc ks loc (st) h = wps rm K Q c_M_offOf_72 kc ks loc (.int (300) :: st) h := gk_ic (by decide)
theorem s_M_offOf_72 {x : Int32} {l0 l1 l2 l3 l4 l5 l6 : Option Value} {l : eg_Lo} : wps rm K Q c_M_offOf_72 kc ks (l0 :: l1 :: l2 :: l3 :: l4 :: l5 :: l6 :: some (.int x) :: l) (st) h = wps rm K Q c_M_offOf_74 kc ks (l0 :: l1 :: l2 :: l3 :: l4 :: l5 :: l6 :: some (.int x) :: l) (.int x :: st) h := gk_iload rfl
theorem s_M_offOf_74 {x y : Int32} : wps rm K Q c_M_offOf_74 kc ks loc (.int y :: .int x :: st) h = wps rm K Q c_M_offOf_75 kc ks loc (.int (x - y) :: st) h := gk_isub
theorem s_M_offOf_75 {x y : Int32} : wps rm K Q c_M_offOf_75 kc ks loc (.int y :: .int x :: st) h = wps rm K Q c_M_offOf_76 kc ks loc (.int (x * y) :: st) h := gk_imul
theorem s_M_offOf_76 {x : Nat} {l0 l1 l2 : Option Value} {l : eg_Lo} : wps rm K Q c_M_offOf_76 kc ks (l0 :: l1 :: l2 :: some (.ref x) :: l) (st) h = wps rm K Q c_M_offOf_77 kc ks (l0 :: l1 :: l2 :: some (.ref x) :: l) (.ref x :: st) h := gk_aload rfl
theorem s_M_offOf_77 {x : Int32} {l0 l1 l2 l3 l4 l5 l6 l7 : Option Value} {l : eg_Lo} : wps rm K Q c_M_offOf_77 kc ks (l0 :: l1 :: l2 :: l3 :: l4 :: l5 :: l6 :: l7 :: some (.int x) :: l) (st) h = wps rm K Q c_M_offOf_79 kc ks (l0 :: l1 :: l2 :: l3 :: l4 :: l5 :: l6 :: l7 :: some (.int x) :: l) (.int x :: st) h := gk_iload rfl
theorem s_M_offOf_79 {x : Nat} {i : Int32} : wps rm K Q c_M_offOf_79 kc ks loc (.int i :: .ref (x + 1) :: st) h = eg_ia h x i (fun v => wps rm K Q c_M_offOf_80 kc ks loc (.int v :: st) h) := gk_iaload
theorem s_M_offOf_80 {x y : Int32} : wps rm K Q c_M_offOf_80 kc ks loc (.int y :: .int x :: st) h = wps rm K Q c_M_offOf_81 kc ks loc (.int (x * y) :: st) h := gk_imul
theorem s_M_offOf_81 {x : Int32} {l0 l1 l2 l3 l4 l5 : Option Value} {l : eg_Lo} : wps rm K Q c_M_offOf_81 kc ks (l0 :: l1 :: l2 :: l3 :: l4 :: l5 :: some (.int x) :: l) (st) h = wps rm K Q c_M_offOf_83 kc ks (l0 :: l1 :: l2 :: l3 :: l4 :: l5 :: some (.int x) :: l) (.int x :: st) h := gk_iload rfl
theorem s_M_offOf_83  : wps rm K Q c_M_offOf_83 kc ks loc (st) h = wps rm K Q c_M_offOf_86 kc ks loc (.int (300) :: st) h := gk_ic (by decide)
theorem s_M_offOf_86 {x : Int32} {l0 l1 l2 l3 l4 l5 l6 : Option Value} {l : eg_Lo} : wps rm K Q c_M_offOf_86 kc ks (l0 :: l1 :: l2 :: l3 :: l4 :: l5 :: l6 :: some (.int x) :: l) (st) h = wps rm K Q c_M_offOf_88 kc ks (l0 :: l1 :: l2 :: l3 :: l4 :: l5 :: l6 :: some (.int x) :: l) (.int x :: st) h := gk_iload rfl
theorem s_M_offOf_88 {x y : Int32} : wps rm K Q c_M_offOf_88 kc ks loc (.int y :: .int x :: st) h = wps rm K Q c_M_offOf_89 kc ks loc (.int (x - y) :: st) h := gk_isub
theorem s_M_offOf_89 {x y : Int32} : wps rm K Q c_M_offOf_89 kc ks loc (.int y :: .int x :: st) h = wps rm K Q c_M_offOf_90 kc ks loc (.int (x * y) :: st) h := gk_imul
theorem s_M_offOf_90 {x : Nat} {l0 l1 l2 : Option Value} {l : eg_Lo} : wps rm K Q c_M_offOf_90 kc ks (l0 :: l1 :: l2 :: some (.ref x) :: l) (st) h = wps rm K Q c_M_offOf_91 kc ks (l0 :: l1 :: l2 :: some (.ref x) :: l) (.ref x :: st) h := gk_aload rfl
theorem s_M_offOf_91 {x : Int32} {l0 l1 l2 l3 l4 l5 l6 l7 : Option Value} {l : eg_Lo} : wps rm K Q c_M_offOf_91 kc ks (l0 :: l1 :: l2 :: l3 :: l4 :: l5 :: l6 :: l7 :: some (.int x) :: l) (st) h = wps rm K Q c_M_offOf_93 kc ks (l0 :: l1 :: l2 :: l3 :: l4 :: l5 :: l6 :: l7 :: some (.int x) :: l) (.int x :: st) h := gk_iload rfl
theorem s_M_offOf_93  : wps rm K Q c_M_offOf_93 kc ks loc (st) h = wps rm K Q c_M_offOf_94 kc ks loc (.int (1) :: st) h := gk_ic (by decide)
theorem s_M_offOf_94 {x y : Int32} : wps rm K Q c_M_offOf_94 kc ks loc (.int y :: .int x :: st) h = wps rm K Q c_M_offOf_95 kc ks loc (.int (x + y) :: st) h := gk_iadd
theorem s_M_offOf_95 {x : Nat} {i : Int32} : wps rm K Q c_M_offOf_95 kc ks loc (.int i :: .ref (x + 1) :: st) h = eg_ia h x i (fun v => wps rm K Q c_M_offOf_96 kc ks loc (.int v :: st) h) := gk_iaload
theorem s_M_offOf_96 {x y : Int32} : wps rm K Q c_M_offOf_96 kc ks loc (.int y :: .int x :: st) h = wps rm K Q c_M_offOf_97 kc ks loc (.int (x * y) :: st) h := gk_imul
theorem s_M_offOf_97 {x y : Int32} : wps rm K Q c_M_offOf_97 kc ks loc (.int y :: .int x :: st) h = wps rm K Q c_M_offOf_98 kc ks loc (.int (x + y) :: st) h := gk_iadd
theorem s_M_offOf_98  : wps rm K Q c_M_offOf_98 kc ks loc (st) h = wps rm K Q c_M_offOf_101 kc ks loc (.int (300) :: st) h := gk_ic (by decide)
theorem s_M_offOf_101 {x : Int32} {l0 l1 l2 l3 l4 l5 : Option Value} {l : eg_Lo} : wps rm K Q c_M_offOf_101 kc ks (l0 :: l1 :: l2 :: l3 :: l4 :: l5 :: some (.int x) :: l) (st) h = wps rm K Q c_M_offOf_103 kc ks (l0 :: l1 :: l2 :: l3 :: l4 :: l5 :: some (.int x) :: l) (.int x :: st) h := gk_iload rfl
theorem s_M_offOf_103 {x y : Int32} : wps rm K Q c_M_offOf_103 kc ks loc (.int y :: .int x :: st) h = wps rm K Q c_M_offOf_104 kc ks loc (.int (x - y) :: st) h := gk_isub
theorem s_M_offOf_104 {x : Int32} {l0 l1 l2 l3 l4 l5 l6 : Option Value} {l : eg_Lo} : wps rm K Q c_M_offOf_104 kc ks (l0 :: l1 :: l2 :: l3 :: l4 :: l5 :: l6 :: some (.int x) :: l) (st) h = wps rm K Q c_M_offOf_106 kc ks (l0 :: l1 :: l2 :: l3 :: l4 :: l5 :: l6 :: some (.int x) :: l) (.int x :: st) h := gk_iload rfl
theorem s_M_offOf_106 {x y : Int32} : wps rm K Q c_M_offOf_106 kc ks loc (.int y :: .int x :: st) h = wps rm K Q c_M_offOf_107 kc ks loc (.int (x * y) :: st) h := gk_imul
theorem s_M_offOf_107 {x : Nat} {l0 l1 l2 : Option Value} {l : eg_Lo} : wps rm K Q c_M_offOf_107 kc ks (l0 :: l1 :: l2 :: some (.ref x) :: l) (st) h = wps rm K Q c_M_offOf_108 kc ks (l0 :: l1 :: l2 :: some (.ref x) :: l) (.ref x :: st) h := gk_aload rfl
theorem s_M_offOf_108 {x : Int32} {l0 l1 l2 l3 l4 l5 l6 l7 : Option Value} {l : eg_Lo} : wps rm K Q c_M_offOf_108 kc ks (l0 :: l1 :: l2 :: l3 :: l4 :: l5 :: l6 :: l7 :: some (.int x) :: l) (st) h = wps rm K Q c_M_offOf_110 kc ks (l0 :: l1 :: l2 :: l3 :: l4 :: l5 :: l6 :: l7 :: some (.int x) :: l) (.int x :: st) h := gk_iload rfl
theorem s_M_offOf_110  : wps rm K Q c_M_offOf_110 kc ks loc (st) h = wps rm K Q c_M_offOf_111 kc ks loc (.int (3) :: st) h := gk_ic (by decide)
theorem s_M_offOf_111 {x y : Int32} : wps rm K Q c_M_offOf_111 kc ks loc (.int y :: .int x :: st) h = wps rm K Q c_M_offOf_112 kc ks loc (.int (x + y) :: st) h := gk_iadd
theorem s_M_offOf_112 {x : Nat} {i : Int32} : wps rm K Q c_M_offOf_112 kc ks loc (.int i :: .ref (x + 1) :: st) h = eg_ia h x i (fun v => wps rm K Q c_M_offOf_113 kc ks loc (.int v :: st) h) := gk_iaload
theorem s_M_offOf_113 {x y : Int32} : wps rm K Q c_M_offOf_113 kc ks loc (.int y :: .int x :: st) h = wps rm K Q c_M_offOf_114 kc ks loc (.int (x * y) :: st) h := gk_imul
theorem s_M_offOf_114 {x y : Int32} : wps rm K Q c_M_offOf_114 kc ks loc (.int y :: .int x :: st) h = wps rm K Q c_M_offOf_115 kc ks loc (.int (x + y) :: st) h := gk_iadd
theorem s_M_offOf_115 {x : Int32} {l0 l1 l2 l3 l4 l5 : Option Value} {l : eg_Lo} : wps rm K Q c_M_offOf_115 kc ks (l0 :: l1 :: l2 :: l3 :: l4 :: l5 :: some (.int x) :: l) (st) h = wps rm K Q c_M_offOf_117 kc ks (l0 :: l1 :: l2 :: l3 :: l4 :: l5 :: some (.int x) :: l) (.int x :: st) h := gk_iload rfl
theorem s_M_offOf_117 {x : Int32} {l0 l1 l2 l3 l4 l5 l6 : Option Value} {l : eg_Lo} : wps rm K Q c_M_offOf_117 kc ks (l0 :: l1 :: l2 :: l3 :: l4 :: l5 :: l6 :: some (.int x) :: l) (st) h = wps rm K Q c_M_offOf_119 kc ks (l0 :: l1 :: l2 :: l3 :: l4 :: l5 :: l6 :: some (.int x) :: l) (.int x :: st) h := gk_iload rfl
theorem s_M_offOf_119 {x y : Int32} : wps rm K Q c_M_offOf_119 kc ks loc (.int y :: .int x :: st) h = wps rm K Q c_M_offOf_120 kc ks loc (.int (x * y) :: st) h := gk_imul
theorem s_M_offOf_120 {x : Nat} {l0 l1 l2 : Option Value} {l : eg_Lo} : wps rm K Q c_M_offOf_120 kc ks (l0 :: l1 :: l2 :: some (.ref x) :: l) (st) h = wps rm K Q c_M_offOf_121 kc ks (l0 :: l1 :: l2 :: some (.ref x) :: l) (.ref x :: st) h := gk_aload rfl
theorem s_M_offOf_121 {x : Int32} {l0 l1 l2 l3 l4 l5 l6 l7 : Option Value} {l : eg_Lo} : wps rm K Q c_M_offOf_121 kc ks (l0 :: l1 :: l2 :: l3 :: l4 :: l5 :: l6 :: l7 :: some (.int x) :: l) (st) h = wps rm K Q c_M_offOf_123 kc ks (l0 :: l1 :: l2 :: l3 :: l4 :: l5 :: l6 :: l7 :: some (.int x) :: l) (.int x :: st) h := gk_iload rfl
theorem s_M_offOf_123  : wps rm K Q c_M_offOf_123 kc ks loc (st) h = wps rm K Q c_M_offOf_124 kc ks loc (.int (4) :: st) h := gk_ic (by decide)
theorem s_M_offOf_124 {x y : Int32} : wps rm K Q c_M_offOf_124 kc ks loc (.int y :: .int x :: st) h = wps rm K Q c_M_offOf_125 kc ks loc (.int (x + y) :: st) h := gk_iadd
theorem s_M_offOf_125 {x : Nat} {i : Int32} : wps rm K Q c_M_offOf_125 kc ks loc (.int i :: .ref (x + 1) :: st) h = eg_ia h x i (fun v => wps rm K Q c_M_offOf_126 kc ks loc (.int v :: st) h) := gk_iaload
theorem s_M_offOf_126 {x y : Int32} : wps rm K Q c_M_offOf_126 kc ks loc (.int y :: .int x :: st) h = wps rm K Q c_M_offOf_127 kc ks loc (.int (x * y) :: st) h := gk_imul
theorem s_M_offOf_127 {x y : Int32} : wps rm K Q c_M_offOf_127 kc ks loc (.int y :: .int x :: st) h = wps rm K Q c_M_offOf_128 kc ks loc (.int (x + y) :: st) h := gk_iadd
theorem s_M_offOf_128 {x : Int32} : wps rm K Q c_M_offOf_128 kc ks loc (.int x :: st) h = wps rm K Q c_M_offOf_130 kc ks (eg_set1 loc 9 (.int x)) (st) h := gk_istore
theorem s_M_offOf_130 {x : Int32} {l0 l1 l2 l3 l4 l5 l6 l7 l8 : Option Value} {l : eg_Lo} : wps rm K Q c_M_offOf_130 kc ks (l0 :: l1 :: l2 :: l3 :: l4 :: l5 :: l6 :: l7 :: l8 :: some (.int x) :: l) (st) h = wps rm K Q c_M_offOf_132 kc ks (l0 :: l1 :: l2 :: l3 :: l4 :: l5 :: l6 :: l7 :: l8 :: some (.int x) :: l) (.int x :: st) h := gk_iload rfl
theorem s_M_offOf_132  : wps rm K Q c_M_offOf_132 kc ks loc (st) h = wps rm K Q c_M_offOf_134 kc ks loc (.int (90000) :: st) h := gk_ic (by decide)
theorem s_M_offOf_134 {x y : Int32} : wps rm K Q c_M_offOf_134 kc ks loc (.int y :: .int x :: st) h = (¬ y = 0 ∧ wps rm K Q c_M_offOf_135 kc ks loc (.int (x / y) :: st) h) := gk_idiv
theorem s_M_offOf_135 {x : Int32} : wps rm K Q c_M_offOf_135 kc ks loc (.int x :: st) h = wps rm K Q c_M_offOf_137 kc ks (eg_set1 loc 10 (.int x)) (st) h := gk_istore
theorem s_M_offOf_137 {x : Int32} {l0 l1 l2 l3 l4 l5 l6 l7 l8 : Option Value} {l : eg_Lo} : wps rm K Q c_M_offOf_137 kc ks (l0 :: l1 :: l2 :: l3 :: l4 :: l5 :: l6 :: l7 :: l8 :: some (.int x) :: l) (st) h = wps rm K Q c_M_offOf_139 kc ks (l0 :: l1 :: l2 :: l3 :: l4 :: l5 :: l6 :: l7 :: l8 :: some (.int x) :: l) (.int x :: st) h := gk_iload rfl
theorem s_M_offOf_139  : wps rm K Q c_M_offOf_139 kc ks loc (st) h = wps rm K Q c_M_offOf_141 kc ks loc (.int (90000) :: st) h := gk_ic (by decide)
theorem s_M_offOf_141 {x y : Int32} : wps rm K Q c_M_offOf_141 kc ks loc (.int y :: .int x :: st) h = (¬ y = 0 ∧ wps rm K Q c_M_offOf_142 kc ks loc (.int (x - x / y * y) :: st) h) := gk_irem
theorem s_M_offOf_142 {x : Int32} : wps rm K Q c_M_offOf_142 kc ks loc (.int x :: st) h = ((0 ≤ x → K 152 kc ks loc st h) ∧ (¬ 0 ≤ x → wps rm K Q c_M_offOf_145 kc ks loc (st) h)) := gk_if1_ge
theorem s_M_offOf_145 {x : Int32} {l0 l1 l2 l3 l4 l5 l6 l7 l8 l9 : Option Value} {l : eg_Lo} : wps rm K Q c_M_offOf_145 kc ks (l0 :: l1 :: l2 :: l3 :: l4 :: l5 :: l6 :: l7 :: l8 :: l9 :: some (.int x) :: l) (st) h = wps rm K Q c_M_offOf_147 kc ks (l0 :: l1 :: l2 :: l3 :: l4 :: l5 :: l6 :: l7 :: l8 :: l9 :: some (.int x) :: l) (.int x :: st) h := gk_iload rfl
theorem s_M_offOf_147  : wps rm K Q c_M_offOf_147 kc ks loc (st) h = wps rm K Q c_M_offOf_148 kc ks loc (.int (1) :: st) h := gk_ic (by decide)
theorem s_M_offOf_148 {x y : Int32} : wps rm K Q c_M_offOf_148 kc ks loc (.int y :: .int x :: st) h = wps rm K Q c_M_offOf_149 kc ks loc (.int (x - y) :: st) h := gk_isub
theorem s_M_offOf_149  : wps rm K Q c_M_offOf_149 kc ks loc (st) h = K 154 kc ks loc st h := gk_goto
theorem s_M_offOf_152 {x : Int32} {l0 l1 l2 l3 l4 l5 l6 l7 l8 l9 : Option Value} {l : eg_Lo} : wps rm K Q c_M_offOf_152 kc ks (l0 :: l1 :: l2 :: l3 :: l4 :: l5 :: l6 :: l7 :: l8 :: l9 :: some (.int x) :: l) (st) h = wps rm K Q c_M_offOf_154 kc ks (l0 :: l1 :: l2 :: l3 :: l4 :: l5 :: l6 :: l7 :: l8 :: l9 :: some (.int x) :: l) (.int x :: st) h := gk_iload rfl
theorem s_M_offOf_154 {x : Int32} : wps rm K Q c_M_offOf_154 kc ks loc ([.int x]) h = (kc = rm.cells ∧ (0 = 1 → x = 0 ∨ x = 1) ∧ Q (some (.int x)) h) := gk_iret
def T_M_offOf : List (Nat × List eg_I) := [(8, c_M_offOf_8), (9, c_M_offOf_9), (19, c_M_offOf_19), (20, c_M_offOf_20), (35, c_M_offOf_35), (36, c_M_offOf_36), (51, c_M_offOf_51), (52, c_M_offOf_52), (152, c_M_offOf_152), (154, c_M_offOf_154)]
theorem j_M_offOf_8 {R : Nat → Nat → Nat → eg_Lo → List Value → List eg_E → Prop} {f pc0 : Nat} : eg_run rm R Q T_M_offOf (f + 1) 8 kc ks loc st h = wps rm (eg_run rm R Q T_M_offOf f) Q c_M_offOf_8 kc ks loc st h := rfl
theorem j_M_offOf_9 {R : Nat → Nat → Nat → eg_Lo → List Value → List eg_E → Prop} {f pc0 : Nat} : eg_run rm R Q T_M_offOf (f + 1) 9 kc ks loc st h = wps rm (eg_run rm R Q T_M_offOf f) Q c_M_offOf_9 kc ks loc st h := rfl
theorem j_M_offOf_19 {R : Nat → Nat → Nat → eg_Lo → List Value → List eg_E → Prop} {f pc0 : Nat} : eg_run rm R Q T_M_offOf (f + 1) 19 kc ks loc st h = wps rm (eg_run rm R Q T_M_offOf f) Q c_M_offOf_19 kc ks loc st h := rfl
theorem j_M_offOf_20 {R : Nat → Nat → Nat → eg_Lo → List Value → List eg_E → Prop} {f pc0 : Nat} : eg_run rm R Q T_M_offOf (f + 1) 20 kc ks loc st h = wps rm (eg_run rm R Q T_M_offOf f) Q c_M_offOf_20 kc ks loc st h := rfl
theorem j_M_offOf_35 {R : Nat → Nat → Nat → eg_Lo → List Value → List eg_E → Prop} {f pc0 : Nat} : eg_run rm R Q T_M_offOf (f + 1) 35 kc ks loc st h = wps rm (eg_run rm R Q T_M_offOf f) Q c_M_offOf_35 kc ks loc st h := rfl
theorem j_M_offOf_36 {R : Nat → Nat → Nat → eg_Lo → List Value → List eg_E → Prop} {f pc0 : Nat} : eg_run rm R Q T_M_offOf (f + 1) 36 kc ks loc st h = wps rm (eg_run rm R Q T_M_offOf f) Q c_M_offOf_36 kc ks loc st h := rfl
theorem j_M_offOf_51 {R : Nat → Nat → Nat → eg_Lo → List Value → List eg_E → Prop} {f pc0 : Nat} : eg_run rm R Q T_M_offOf (f + 1) 51 kc ks loc st h = wps rm (eg_run rm R Q T_M_offOf f) Q c_M_offOf_51 kc ks loc st h := rfl
theorem j_M_offOf_52 {R : Nat → Nat → Nat → eg_Lo → List Value → List eg_E → Prop} {f pc0 : Nat} : eg_run rm R Q T_M_offOf (f + 1) 52 kc ks loc st h = wps rm (eg_run rm R Q T_M_offOf f) Q c_M_offOf_52 kc ks loc st h := rfl
theorem j_M_offOf_152 {R : Nat → Nat → Nat → eg_Lo → List Value → List eg_E → Prop} {f pc0 : Nat} : eg_run rm R Q T_M_offOf (f + 1) 152 kc ks loc st h = wps rm (eg_run rm R Q T_M_offOf f) Q c_M_offOf_152 kc ks loc st h := rfl
theorem j_M_offOf_154 {R : Nat → Nat → Nat → eg_Lo → List Value → List eg_E → Prop} {f pc0 : Nat} : eg_run rm R Q T_M_offOf (f + 1) 154 kc ks loc st h = wps rm (eg_run rm R Q T_M_offOf f) Q c_M_offOf_154 kc ks loc st h := rfl
end
theorem y_M_offOf_0 : eg_seq m_M_offOf 0 c_M_offOf_0 = true := by decide +kernel
theorem y_M_offOf_8 : eg_seq m_M_offOf 8 c_M_offOf_8 = true := by decide +kernel
theorem y_M_offOf_19 : eg_seq m_M_offOf 19 c_M_offOf_19 = true := by decide +kernel
theorem y_M_offOf_35 : eg_seq m_M_offOf 35 c_M_offOf_35 = true := by decide +kernel
theorem y_M_offOf_51 : eg_seq m_M_offOf 51 c_M_offOf_51 = true := by decide +kernel
theorem y_M_offOf_152 : eg_seq m_M_offOf 152 c_M_offOf_152 = true := by decide +kernel
theorem q_M_offOf : ∀ q ∈ T_M_offOf, eg_seq m_M_offOf q.1 q.2 = true := by
  intro q hq
  simp only [T_M_offOf, List.mem_cons, List.not_mem_nil, or_false] at hq
  rcases hq with rfl | rfl | rfl | rfl | rfl | rfl | rfl | rfl | rfl | rfl
  · exact y_M_offOf_8
  · exact (eg_seq_drop y_M_offOf_8 1 : eg_seq m_M_offOf 9 c_M_offOf_9 = true)
  · exact y_M_offOf_19
  · exact (eg_seq_drop y_M_offOf_19 1 : eg_seq m_M_offOf 20 c_M_offOf_20 = true)
  · exact y_M_offOf_35
  · exact (eg_seq_drop y_M_offOf_35 1 : eg_seq m_M_offOf 36 c_M_offOf_36 = true)
  · exact y_M_offOf_51
  · exact (eg_seq_drop y_M_offOf_51 1 : eg_seq m_M_offOf 52 c_M_offOf_52 = true)
  · exact y_M_offOf_152
  · exact (eg_seq_drop y_M_offOf_152 1 : eg_seq m_M_offOf 154 c_M_offOf_154 = true)
theorem b_M_offOf {as : List Value} {h : List eg_E} {Q : Option Value → List eg_E → Prop} (hf : (eg_fl as).length ≤ 11) (hw : wps (eg_rm m_M_offOf) (eg_run (eg_rm m_M_offOf) (eg_R m_M_offOf Q (h.length + 0)) Q T_M_offOf 12) Q c_M_offOf_0 0 0 (eg_entry 11 as) [] h) : eg_Runs n_M_offOf as h Q := eg_begin2 (d := m_M_offOf) rfl (by decide) y_M_offOf_0 q_M_offOf hf hw
/-! ===== M_held_I ===== -/
def c_M_held_I_27 : List eg_I := .inl (27, 1, .ireturn, 0, 0) :: []
def c_M_held_I_26 : List eg_I := .inl (26, 1, .iload 0, 0, 0) :: c_M_held_I_27
def c_M_held_I_23 : List eg_I := .inl (23, 3, .goto (4), 27, 0) :: []
def c_M_held_I_20 : List eg_I := .inl (20, 3, .iconst (300), 0, 0) :: c_M_held_I_23
def c_M_held_I_17 : List eg_I := .inl (17, 3, .if_icmp .le (9), 26, 0) :: c_M_held_I_20
def c_M_held_I_14 : List eg_I := .inl (14, 3, .iconst (300), 0, 0) :: c_M_held_I_17
def c_M_held_I_13 : List eg_I := .inl (13, 1, .iload 0, 0, 0) :: c_M_held_I_14
def c_M_held_I_10 : List eg_I := .inl (10, 3, .goto (17), 27, 0) :: []
def c_M_held_I_7 : List eg_I := .inl (7, 3, .iconst (-300), 0, 0) :: c_M_held_I_10
def c_M_held_I_4 : List eg_I := .inl (4, 3, .if_icmp .ge (9), 13, 0) :: c_M_held_I_7
def c_M_held_I_1 : List eg_I := .inl (1, 3, .iconst (-300), 0, 0) :: c_M_held_I_4
def c_M_held_I_0 : List eg_I := .inl (0, 1, .iload 0, 0, 0) :: c_M_held_I_1
section
variable {rm : Room} {K : Nat → Nat → Nat → eg_Lo → List Value → List eg_E → Prop} {Q : Option Value → List eg_E → Prop} {kc ks : Nat} {loc : eg_Lo} {st : List Value} {h : List eg_E}
theorem s_M_held_I_0 {x : Int32} {l : eg_Lo} : wps rm K Q c_M_held_I_0 kc ks (some (.int x) :: l) (st) h = wps rm K Q c_M_held_I_1 kc ks (some (.int x) :: l) (.int x :: st) h := gk_iload rfl
theorem s_M_held_I_1  : wps rm K Q c_M_held_I_1 kc ks loc (st) h = wps rm K Q c_M_held_I_4 kc ks loc (.int (-300) :: st) h := gk_ic (by decide)
theorem s_M_held_I_4 {x y : Int32} : wps rm K Q c_M_held_I_4 kc ks loc (.int y :: .int x :: st) h = ((y ≤ x → K 13 kc ks loc st h) ∧ (¬ y ≤ x → wps rm K Q c_M_held_I_7 kc ks loc (st) h)) := gk_if2_ge
theorem s_M_held_I_7  : wps rm K Q c_M_held_I_7 kc ks loc (st) h = wps rm K Q c_M_held_I_10 kc ks loc (.int (-300) :: st) h := gk_ic (by decide)
theorem s_M_held_I_10  : wps rm K Q c_M_held_I_10 kc ks loc (st) h = K 27 kc ks loc st h := gk_goto
theorem s_M_held_I_13 {x : Int32} {l : eg_Lo} : wps rm K Q c_M_held_I_13 kc ks (some (.int x) :: l) (st) h = wps rm K Q c_M_held_I_14 kc ks (some (.int x) :: l) (.int x :: st) h := gk_iload rfl
theorem s_M_held_I_14  : wps rm K Q c_M_held_I_14 kc ks loc (st) h = wps rm K Q c_M_held_I_17 kc ks loc (.int (300) :: st) h := gk_ic (by decide)
theorem s_M_held_I_17 {x y : Int32} : wps rm K Q c_M_held_I_17 kc ks loc (.int y :: .int x :: st) h = ((x ≤ y → K 26 kc ks loc st h) ∧ (¬ x ≤ y → wps rm K Q c_M_held_I_20 kc ks loc (st) h)) := gk_if2_le
theorem s_M_held_I_20  : wps rm K Q c_M_held_I_20 kc ks loc (st) h = wps rm K Q c_M_held_I_23 kc ks loc (.int (300) :: st) h := gk_ic (by decide)
theorem s_M_held_I_23  : wps rm K Q c_M_held_I_23 kc ks loc (st) h = K 27 kc ks loc st h := gk_goto
theorem s_M_held_I_26 {x : Int32} {l : eg_Lo} : wps rm K Q c_M_held_I_26 kc ks (some (.int x) :: l) (st) h = wps rm K Q c_M_held_I_27 kc ks (some (.int x) :: l) (.int x :: st) h := gk_iload rfl
theorem s_M_held_I_27 {x : Int32} : wps rm K Q c_M_held_I_27 kc ks loc ([.int x]) h = (kc = rm.cells ∧ (0 = 1 → x = 0 ∨ x = 1) ∧ Q (some (.int x)) h) := gk_iret
def T_M_held_I : List (Nat × List eg_I) := [(13, c_M_held_I_13), (26, c_M_held_I_26), (27, c_M_held_I_27)]
theorem j_M_held_I_13 {R : Nat → Nat → Nat → eg_Lo → List Value → List eg_E → Prop} {f pc0 : Nat} : eg_run rm R Q T_M_held_I (f + 1) 13 kc ks loc st h = wps rm (eg_run rm R Q T_M_held_I f) Q c_M_held_I_13 kc ks loc st h := rfl
theorem j_M_held_I_26 {R : Nat → Nat → Nat → eg_Lo → List Value → List eg_E → Prop} {f pc0 : Nat} : eg_run rm R Q T_M_held_I (f + 1) 26 kc ks loc st h = wps rm (eg_run rm R Q T_M_held_I f) Q c_M_held_I_26 kc ks loc st h := rfl
theorem j_M_held_I_27 {R : Nat → Nat → Nat → eg_Lo → List Value → List eg_E → Prop} {f pc0 : Nat} : eg_run rm R Q T_M_held_I (f + 1) 27 kc ks loc st h = wps rm (eg_run rm R Q T_M_held_I f) Q c_M_held_I_27 kc ks loc st h := rfl
end
theorem y_M_held_I_0 : eg_seq m_M_held_I 0 c_M_held_I_0 = true := by decide +kernel
theorem y_M_held_I_13 : eg_seq m_M_held_I 13 c_M_held_I_13 = true := by decide +kernel
theorem y_M_held_I_26 : eg_seq m_M_held_I 26 c_M_held_I_26 = true := by decide +kernel
theorem q_M_held_I : ∀ q ∈ T_M_held_I, eg_seq m_M_held_I q.1 q.2 = true := by
  intro q hq
  simp only [T_M_held_I, List.mem_cons, List.not_mem_nil, or_false] at hq
  rcases hq with rfl | rfl | rfl
  · exact y_M_held_I_13
  · exact y_M_held_I_26
  · exact (eg_seq_drop y_M_held_I_26 1 : eg_seq m_M_held_I 27 c_M_held_I_27 = true)
theorem b_M_held_I {as : List Value} {h : List eg_E} {Q : Option Value → List eg_E → Prop} (hf : (eg_fl as).length ≤ 1) (hw : wps (eg_rm m_M_held_I) (eg_run (eg_rm m_M_held_I) (eg_R m_M_held_I Q (h.length + 0)) Q T_M_held_I 5) Q c_M_held_I_0 0 0 (eg_entry 1 as) [] h) : eg_Runs n_M_held_I as h Q := eg_begin2 (d := m_M_held_I) rfl (by decide) y_M_held_I_0 q_M_held_I hf hw
/-! ===== M_mend ===== -/
def z_M_mend_19 : List eg_I := [.inl (19, 0, .nop, 0, 0)]
def c_M_mend_174 : List eg_I := .inl (174, 1, .lreturn, 0, 0) :: []
def c_M_mend_173 : List eg_I := .inl (173, 1, .i2l, 0, 0) :: c_M_mend_174
def c_M_mend_172 : List eg_I := .inl (172, 1, .iload 2, 0, 0) :: c_M_mend_173
def c_M_mend_169 : List eg_I := .inl (169, 3, .goto (-150), 19, 0) :: []
def c_M_mend_166 : List eg_I := .inl (166, 3, .iinc 3 (1), 0, 0) :: c_M_mend_169
def c_M_mend_165 : List eg_I := .inl (165, 1, .iastore, 0, 0) :: c_M_mend_166
def c_M_mend_163 : List eg_I := .inl (163, 2, .iload 6, 0, 0) :: c_M_mend_165
def c_M_mend_161 : List eg_I := .inl (161, 2, .iload 4, 0, 0) :: c_M_mend_163
def c_M_mend_158 : List eg_I := .inl (158, 3, .getfield 16, 12, 2) :: c_M_mend_161
def c_M_mend_157 : List eg_I := .inl (157, 1, .aload 0, 0, 0) :: c_M_mend_158
def c_M_mend_156 : List eg_I := .inl (156, 1, .iastore, 0, 0) :: c_M_mend_157
def c_M_mend_154 : List eg_I := .inl (154, 2, .iload 5, 0, 0) :: c_M_mend_156
def c_M_mend_152 : List eg_I := .inl (152, 2, .iload 4, 0, 0) :: c_M_mend_154
def c_M_mend_149 : List eg_I := .inl (149, 3, .getfield 13, 12, 1) :: c_M_mend_152
def c_M_mend_148 : List eg_I := .inl (148, 1, .aload 0, 0, 0) :: c_M_mend_149
def c_M_mend_147 : List eg_I := .inl (147, 1, .istore 2, 0, 0) :: c_M_mend_148
def c_M_mend_146 : List eg_I := .inl (146, 1, .iadd, 0, 0) :: c_M_mend_147
def c_M_mend_145 : List eg_I := .inl (145, 1, .iconst (0), 0, 0) :: c_M_mend_146
def c_M_mend_142 : List eg_I := .inl (142, 3, .goto (4), 146, 0) :: []
def c_M_mend_141 : List eg_I := .inl (141, 1, .iconst (1), 0, 0) :: c_M_mend_142
def c_M_mend_138 : List eg_I := .inl (138, 3, .if_icmp .eq (7), 145, 0) :: c_M_mend_141
def c_M_mend_137 : List eg_I := .inl (137, 1, .iaload, 0, 0) :: c_M_mend_138
def c_M_mend_135 : List eg_I := .inl (135, 2, .iload 4, 0, 0) :: c_M_mend_137
def c_M_mend_132 : List eg_I := .inl (132, 3, .getfield 16, 12, 2) :: c_M_mend_135
def c_M_mend_131 : List eg_I := .inl (131, 1, .aload 0, 0, 0) :: c_M_mend_132
def c_M_mend_129 : List eg_I := .inl (129, 2, .iload 6, 0, 0) :: c_M_mend_131
def c_M_mend_126 : List eg_I := .inl (126, 3, .if_icmp .ne (15), 141, 0) :: c_M_mend_129
def c_M_mend_125 : List eg_I := .inl (125, 1, .iaload, 0, 0) :: c_M_mend_126
def c_M_mend_123 : List eg_I := .inl (123, 2, .iload 4, 0, 0) :: c_M_mend_125
def c_M_mend_120 : List eg_I := .inl (120, 3, .getfield 13, 12, 1) :: c_M_mend_123
def c_M_mend_119 : List eg_I := .inl (119, 1, .aload 0, 0, 0) :: c_M_mend_120
def c_M_mend_117 : List eg_I := .inl (117, 2, .iload 5, 0, 0) :: c_M_mend_119
def c_M_mend_116 : List eg_I := .inl (116, 1, .iload 2, 0, 0) :: c_M_mend_117
def c_M_mend_114 : List eg_I := .inl (114, 2, .istore 6, 0, 0) :: c_M_mend_116
def c_M_mend_111 : List eg_I := .inr (111, 0, 133, n_M_held_I, 1, 12, 0, 0) :: c_M_mend_114
def c_M_mend_110 : List eg_I := .inl (110, 1, .isub, 0, 0) :: c_M_mend_111
def c_M_mend_107 : List eg_I := .inr (107, 1, 129, n_M_offOf, 3, 12, 0, 0) :: c_M_mend_110
def c_M_mend_104 : List eg_I := .inl (104, 3, .getfield 29, 12, 6) :: c_M_mend_107
def c_M_mend_103 : List eg_I := .inl (103, 1, .aload 0, 0, 0) :: c_M_mend_104
def c_M_mend_102 : List eg_I := .inl (102, 1, .iaload, 0, 0) :: c_M_mend_103
def c_M_mend_100 : List eg_I := .inl (100, 2, .iload 4, 0, 0) :: c_M_mend_102
def c_M_mend_97 : List eg_I := .inl (97, 3, .getfield 16, 12, 2) :: c_M_mend_100
def c_M_mend_96 : List eg_I := .inl (96, 1, .aload 0, 0, 0) :: c_M_mend_97
def c_M_mend_95 : List eg_I := .inl (95, 1, .iaload, 0, 0) :: c_M_mend_96
def c_M_mend_93 : List eg_I := .inl (93, 2, .iload 4, 0, 0) :: c_M_mend_95
def c_M_mend_90 : List eg_I := .inl (90, 3, .getfield 13, 12, 1) :: c_M_mend_93
def c_M_mend_89 : List eg_I := .inl (89, 1, .aload 0, 0, 0) :: c_M_mend_90
def c_M_mend_88 : List eg_I := .inl (88, 1, .aload 0, 0, 0) :: c_M_mend_89
def c_M_mend_87 : List eg_I := .inl (87, 1, .iaload, 0, 0) :: c_M_mend_88
def c_M_mend_85 : List eg_I := .inl (85, 2, .iload 4, 0, 0) :: c_M_mend_87
def c_M_mend_82 : List eg_I := .inl (82, 3, .getfield 16, 12, 2) :: c_M_mend_85
def c_M_mend_81 : List eg_I := .inl (81, 1, .aload 0, 0, 0) :: c_M_mend_82
def c_M_mend_79 : List eg_I := .inl (79, 2, .istore 5, 0, 0) :: c_M_mend_81
def c_M_mend_76 : List eg_I := .inr (76, 0, 133, n_M_held_I, 1, 12, 0, 0) :: c_M_mend_79
def c_M_mend_75 : List eg_I := .inl (75, 1, .isub, 0, 0) :: c_M_mend_76
def c_M_mend_72 : List eg_I := .inr (72, 1, 129, n_M_offOf, 3, 12, 0, 0) :: c_M_mend_75
def c_M_mend_69 : List eg_I := .inl (69, 3, .getfield 26, 12, 5) :: c_M_mend_72
def c_M_mend_68 : List eg_I := .inl (68, 1, .aload 0, 0, 0) :: c_M_mend_69
def c_M_mend_67 : List eg_I := .inl (67, 1, .iaload, 0, 0) :: c_M_mend_68
def c_M_mend_65 : List eg_I := .inl (65, 2, .iload 4, 0, 0) :: c_M_mend_67
def c_M_mend_62 : List eg_I := .inl (62, 3, .getfield 16, 12, 2) :: c_M_mend_65
def c_M_mend_61 : List eg_I := .inl (61, 1, .aload 0, 0, 0) :: c_M_mend_62
def c_M_mend_60 : List eg_I := .inl (60, 1, .iaload, 0, 0) :: c_M_mend_61
def c_M_mend_58 : List eg_I := .inl (58, 2, .iload 4, 0, 0) :: c_M_mend_60
def c_M_mend_55 : List eg_I := .inl (55, 3, .getfield 13, 12, 1) :: c_M_mend_58
def c_M_mend_54 : List eg_I := .inl (54, 1, .aload 0, 0, 0) :: c_M_mend_55
def c_M_mend_53 : List eg_I := .inl (53, 1, .aload 0, 0, 0) :: c_M_mend_54
def c_M_mend_52 : List eg_I := .inl (52, 1, .iaload, 0, 0) :: c_M_mend_53
def c_M_mend_50 : List eg_I := .inl (50, 2, .iload 4, 0, 0) :: c_M_mend_52
def c_M_mend_47 : List eg_I := .inl (47, 3, .getfield 13, 12, 1) :: c_M_mend_50
def c_M_mend_46 : List eg_I := .inl (46, 1, .aload 0, 0, 0) :: c_M_mend_47
def c_M_mend_43 : List eg_I := .inl (43, 3, .ifCond .ne (123), 166, 0) :: c_M_mend_46
def c_M_mend_42 : List eg_I := .inl (42, 1, .baload, 0, 0) :: c_M_mend_43
def c_M_mend_40 : List eg_I := .inl (40, 2, .iload 4, 0, 0) :: c_M_mend_42
def c_M_mend_37 : List eg_I := .inl (37, 3, .getfield 22, 12, 4) :: c_M_mend_40
def c_M_mend_36 : List eg_I := .inl (36, 1, .aload 0, 0, 0) :: c_M_mend_37
def c_M_mend_34 : List eg_I := .inl (34, 2, .istore 4, 0, 0) :: c_M_mend_36
def c_M_mend_31 : List eg_I := .inr (31, 0, 103, n_M_at_II, 2, 12, 0, 0) :: c_M_mend_34
def c_M_mend_30 : List eg_I := .inl (30, 1, .iload 3, 0, 0) :: c_M_mend_31
def c_M_mend_29 : List eg_I := .inl (29, 1, .iload 1, 0, 0) :: c_M_mend_30
def c_M_mend_26 : List eg_I := .inl (26, 3, .if_icmp .ge (146), 172, 0) :: c_M_mend_29
def c_M_mend_25 : List eg_I := .inl (25, 1, .iaload, 0, 0) :: c_M_mend_26
def c_M_mend_24 : List eg_I := .inl (24, 1, .iload 1, 0, 0) :: c_M_mend_25
def c_M_mend_21 : List eg_I := .inl (21, 3, .getfield 9, 12, 0) :: c_M_mend_24
def c_M_mend_20 : List eg_I := .inl (20, 1, .aload 0, 0, 0) :: c_M_mend_21
def c_M_mend_19 : List eg_I := .inl (19, 1, .iload 3, 0, 0) :: c_M_mend_20
def c_M_mend_18 : List eg_I := .inl (18, 1, .istore 3, 0, 0) :: z_M_mend_19
def c_M_mend_17 : List eg_I := .inl (17, 1, .iconst (0), 0, 0) :: c_M_mend_18
def c_M_mend_16 : List eg_I := .inl (16, 1, .istore 2, 0, 0) :: c_M_mend_17
def c_M_mend_15 : List eg_I := .inl (15, 1, .iconst (0), 0, 0) :: c_M_mend_16
def c_M_mend_14 : List eg_I := .inl (14, 1, .lreturn, 0, 0) :: []
def c_M_mend_11 : List eg_I := .inr (11, 1, 112, n_M_finding, 1, 12, 0, 0) :: c_M_mend_14
def c_M_mend_8 : List eg_I := .inl (8, 3, .sipush (-1000000000000000001), 110, 0) :: c_M_mend_11
def c_M_mend_7 : List eg_I := .inl (7, 1, .aload 0, 0, 0) :: c_M_mend_8
def c_M_mend_4 : List eg_I := .inl (4, 3, .ifCond .ne (11), 15, 0) :: c_M_mend_7
def c_M_mend_1 : List eg_I := .inr (1, 0, 99, n_M_isPart, 1, 12, 0, 0) :: c_M_mend_4
def c_M_mend_0 : List eg_I := .inl (0, 1, .iload 1, 0, 0) :: c_M_mend_1
section
variable {rm : Room} {K : Nat → Nat → Nat → eg_Lo → List Value → List eg_E → Prop} {Q : Option Value → List eg_E → Prop} {kc ks : Nat} {loc : eg_Lo} {st : List Value} {h : List eg_E}
theorem s_M_mend_0 {x : Int32} {l0 : Option Value} {l : eg_Lo} : wps rm K Q c_M_mend_0 kc ks (l0 :: some (.int x) :: l) (st) h = wps rm K Q c_M_mend_1 kc ks (l0 :: some (.int x) :: l) (.int x :: st) h := gk_iload rfl
theorem s_M_mend_1  {a1 : Value} : wps rm K Q c_M_mend_1 kc ks loc (a1 :: st) h = (st.length ≤ 4 ∧ eg_Cs n_M_isPart [a1] h (fun v h9 => wps rm K Q c_M_mend_4 kc ks loc (v.toList ++ st) h9)) := eg_c0_1
theorem s_M_mend_4 {x : Int32} : wps rm K Q c_M_mend_4 kc ks loc (.int x :: st) h = ((¬ x = 0 → K 15 kc ks loc st h) ∧ (x = 0 → wps rm K Q c_M_mend_7 kc ks loc (st) h)) := gk_if1_ne
theorem s_M_mend_7 {x : Nat} {l : eg_Lo} : wps rm K Q c_M_mend_7 kc ks (some (.ref x) :: l) (st) h = wps rm K Q c_M_mend_8 kc ks (some (.ref x) :: l) (.ref x :: st) h := gk_aload rfl
theorem s_M_mend_8  : wps rm K Q c_M_mend_8 kc ks loc (st) h = wps rm K Q c_M_mend_11 kc ks loc (.long (-1000000000000000001) :: st) h := gk_lc (by decide)
theorem s_M_mend_11  {a1 : Value} {x : Nat} : wps rm K Q c_M_mend_11 kc ks loc (a1 :: .ref (x + 1) :: st) h = (eg_cls h x 12 ∧ st.length ≤ 4 ∧ eg_Cs n_M_finding (.ref (x + 1) :: [a1]) h (fun v h9 => wps rm K Q c_M_mend_14 kc ks loc (v.toList ++ st) h9)) := eg_c1_1
theorem s_M_mend_14 {x : Int64} : wps rm K Q c_M_mend_14 kc ks loc ([.long x]) h = (kc = rm.cells ∧ Q (some (.long x)) h) := gk_lret
theorem s_M_mend_15  : wps rm K Q c_M_mend_15 kc ks loc (st) h = wps rm K Q c_M_mend_16 kc ks loc (.int (0) :: st) h := gk_ic (by decide)
theorem s_M_mend_16 {x : Int32} : wps rm K Q c_M_mend_16 kc ks loc (.int x :: st) h = wps rm K Q c_M_mend_17 kc ks (eg_set1 loc 2 (.int x)) (st) h := gk_istore
theorem s_M_mend_17  : wps rm K Q c_M_mend_17 kc ks loc (st) h = wps rm K Q c_M_mend_18 kc ks loc (.int (0) :: st) h := gk_ic (by decide)
theorem s_M_mend_18 {x : Int32} : wps rm K Q c_M_mend_18 kc ks loc (.int x :: st) h = wps rm K Q z_M_mend_19 kc ks (eg_set1 loc 3 (.int x)) (st) h := gk_istore
theorem s_M_mend_19 {x : Int32} {l0 l1 l2 : Option Value} {l : eg_Lo} : wps rm K Q c_M_mend_19 kc ks (l0 :: l1 :: l2 :: some (.int x) :: l) (st) h = wps rm K Q c_M_mend_20 kc ks (l0 :: l1 :: l2 :: some (.int x) :: l) (.int x :: st) h := gk_iload rfl
theorem s_M_mend_20 {x : Nat} {l : eg_Lo} : wps rm K Q c_M_mend_20 kc ks (some (.ref x) :: l) (st) h = wps rm K Q c_M_mend_21 kc ks (some (.ref x) :: l) (.ref x :: st) h := gk_aload rfl
theorem s_M_mend_21 {x : Nat} : wps rm K Q c_M_mend_21 kc ks loc (.ref (x + 1) :: st) h = eg_gf h x 12 0 (fun v => wps rm K Q c_M_mend_24 kc ks loc (v :: st) h) := gk_gf
theorem s_M_mend_24 {x : Int32} {l0 : Option Value} {l : eg_Lo} : wps rm K Q c_M_mend_24 kc ks (l0 :: some (.int x) :: l) (st) h = wps rm K Q c_M_mend_25 kc ks (l0 :: some (.int x) :: l) (.int x :: st) h := gk_iload rfl
theorem s_M_mend_25 {x : Nat} {i : Int32} : wps rm K Q c_M_mend_25 kc ks loc (.int i :: .ref (x + 1) :: st) h = eg_ia h x i (fun v => wps rm K Q c_M_mend_26 kc ks loc (.int v :: st) h) := gk_iaload
theorem s_M_mend_26 {x y : Int32} : wps rm K Q c_M_mend_26 kc ks loc (.int y :: .int x :: st) h = ((y ≤ x → K 172 kc ks loc st h) ∧ (¬ y ≤ x → wps rm K Q c_M_mend_29 kc ks loc (st) h)) := gk_if2_ge
theorem s_M_mend_29 {x : Int32} {l0 : Option Value} {l : eg_Lo} : wps rm K Q c_M_mend_29 kc ks (l0 :: some (.int x) :: l) (st) h = wps rm K Q c_M_mend_30 kc ks (l0 :: some (.int x) :: l) (.int x :: st) h := gk_iload rfl
theorem s_M_mend_30 {x : Int32} {l0 l1 l2 : Option Value} {l : eg_Lo} : wps rm K Q c_M_mend_30 kc ks (l0 :: l1 :: l2 :: some (.int x) :: l) (st) h = wps rm K Q c_M_mend_31 kc ks (l0 :: l1 :: l2 :: some (.int x) :: l) (.int x :: st) h := gk_iload rfl
theorem s_M_mend_31  {a1 : Value} {a2 : Value} : wps rm K Q c_M_mend_31 kc ks loc (a2 :: a1 :: st) h = (st.length ≤ 4 ∧ eg_Cs n_M_at_II [a1, a2] h (fun v h9 => wps rm K Q c_M_mend_34 kc ks loc (v.toList ++ st) h9)) := eg_c0_2
theorem s_M_mend_34 {x : Int32} : wps rm K Q c_M_mend_34 kc ks loc (.int x :: st) h = wps rm K Q c_M_mend_36 kc ks (eg_set1 loc 4 (.int x)) (st) h := gk_istore
theorem s_M_mend_36 {x : Nat} {l : eg_Lo} : wps rm K Q c_M_mend_36 kc ks (some (.ref x) :: l) (st) h = wps rm K Q c_M_mend_37 kc ks (some (.ref x) :: l) (.ref x :: st) h := gk_aload rfl
theorem s_M_mend_37 {x : Nat} : wps rm K Q c_M_mend_37 kc ks loc (.ref (x + 1) :: st) h = eg_gf h x 12 4 (fun v => wps rm K Q c_M_mend_40 kc ks loc (v :: st) h) := gk_gf
theorem s_M_mend_40 {x : Int32} {l0 l1 l2 l3 : Option Value} {l : eg_Lo} : wps rm K Q c_M_mend_40 kc ks (l0 :: l1 :: l2 :: l3 :: some (.int x) :: l) (st) h = wps rm K Q c_M_mend_42 kc ks (l0 :: l1 :: l2 :: l3 :: some (.int x) :: l) (.int x :: st) h := gk_iload rfl
theorem s_M_mend_42 {x : Nat} {i : Int32} : wps rm K Q c_M_mend_42 kc ks loc (.int i :: .ref (x + 1) :: st) h = eg_ba h x i (fun v => wps rm K Q c_M_mend_43 kc ks loc (.int v :: st) h) := gk_baload
theorem s_M_mend_43 {x : Int32} : wps rm K Q c_M_mend_43 kc ks loc (.int x :: st) h = ((¬ x = 0 → K 166 kc ks loc st h) ∧ (x = 0 → wps rm K Q c_M_mend_46 kc ks loc (st) h)) := gk_if1_ne
theorem s_M_mend_46 {x : Nat} {l : eg_Lo} : wps rm K Q c_M_mend_46 kc ks (some (.ref x) :: l) (st) h = wps rm K Q c_M_mend_47 kc ks (some (.ref x) :: l) (.ref x :: st) h := gk_aload rfl
theorem s_M_mend_47 {x : Nat} : wps rm K Q c_M_mend_47 kc ks loc (.ref (x + 1) :: st) h = eg_gf h x 12 1 (fun v => wps rm K Q c_M_mend_50 kc ks loc (v :: st) h) := gk_gf
theorem s_M_mend_50 {x : Int32} {l0 l1 l2 l3 : Option Value} {l : eg_Lo} : wps rm K Q c_M_mend_50 kc ks (l0 :: l1 :: l2 :: l3 :: some (.int x) :: l) (st) h = wps rm K Q c_M_mend_52 kc ks (l0 :: l1 :: l2 :: l3 :: some (.int x) :: l) (.int x :: st) h := gk_iload rfl
theorem s_M_mend_52 {x : Nat} {i : Int32} : wps rm K Q c_M_mend_52 kc ks loc (.int i :: .ref (x + 1) :: st) h = eg_ia h x i (fun v => wps rm K Q c_M_mend_53 kc ks loc (.int v :: st) h) := gk_iaload
theorem s_M_mend_53 {x : Nat} {l : eg_Lo} : wps rm K Q c_M_mend_53 kc ks (some (.ref x) :: l) (st) h = wps rm K Q c_M_mend_54 kc ks (some (.ref x) :: l) (.ref x :: st) h := gk_aload rfl
theorem s_M_mend_54 {x : Nat} {l : eg_Lo} : wps rm K Q c_M_mend_54 kc ks (some (.ref x) :: l) (st) h = wps rm K Q c_M_mend_55 kc ks (some (.ref x) :: l) (.ref x :: st) h := gk_aload rfl
theorem s_M_mend_55 {x : Nat} : wps rm K Q c_M_mend_55 kc ks loc (.ref (x + 1) :: st) h = eg_gf h x 12 1 (fun v => wps rm K Q c_M_mend_58 kc ks loc (v :: st) h) := gk_gf
theorem s_M_mend_58 {x : Int32} {l0 l1 l2 l3 : Option Value} {l : eg_Lo} : wps rm K Q c_M_mend_58 kc ks (l0 :: l1 :: l2 :: l3 :: some (.int x) :: l) (st) h = wps rm K Q c_M_mend_60 kc ks (l0 :: l1 :: l2 :: l3 :: some (.int x) :: l) (.int x :: st) h := gk_iload rfl
theorem s_M_mend_60 {x : Nat} {i : Int32} : wps rm K Q c_M_mend_60 kc ks loc (.int i :: .ref (x + 1) :: st) h = eg_ia h x i (fun v => wps rm K Q c_M_mend_61 kc ks loc (.int v :: st) h) := gk_iaload
theorem s_M_mend_61 {x : Nat} {l : eg_Lo} : wps rm K Q c_M_mend_61 kc ks (some (.ref x) :: l) (st) h = wps rm K Q c_M_mend_62 kc ks (some (.ref x) :: l) (.ref x :: st) h := gk_aload rfl
theorem s_M_mend_62 {x : Nat} : wps rm K Q c_M_mend_62 kc ks loc (.ref (x + 1) :: st) h = eg_gf h x 12 2 (fun v => wps rm K Q c_M_mend_65 kc ks loc (v :: st) h) := gk_gf
theorem s_M_mend_65 {x : Int32} {l0 l1 l2 l3 : Option Value} {l : eg_Lo} : wps rm K Q c_M_mend_65 kc ks (l0 :: l1 :: l2 :: l3 :: some (.int x) :: l) (st) h = wps rm K Q c_M_mend_67 kc ks (l0 :: l1 :: l2 :: l3 :: some (.int x) :: l) (.int x :: st) h := gk_iload rfl
theorem s_M_mend_67 {x : Nat} {i : Int32} : wps rm K Q c_M_mend_67 kc ks loc (.int i :: .ref (x + 1) :: st) h = eg_ia h x i (fun v => wps rm K Q c_M_mend_68 kc ks loc (.int v :: st) h) := gk_iaload
theorem s_M_mend_68 {x : Nat} {l : eg_Lo} : wps rm K Q c_M_mend_68 kc ks (some (.ref x) :: l) (st) h = wps rm K Q c_M_mend_69 kc ks (some (.ref x) :: l) (.ref x :: st) h := gk_aload rfl
theorem s_M_mend_69 {x : Nat} : wps rm K Q c_M_mend_69 kc ks loc (.ref (x + 1) :: st) h = eg_gf h x 12 5 (fun v => wps rm K Q c_M_mend_72 kc ks loc (v :: st) h) := gk_gf
theorem s_M_mend_72  {a1 : Value} {a2 : Value} {a3 : Value} {x : Nat} : wps rm K Q c_M_mend_72 kc ks loc (a3 :: a2 :: a1 :: .ref (x + 1) :: st) h = (eg_cls h x 12 ∧ st.length ≤ 4 ∧ eg_Cs n_M_offOf (.ref (x + 1) :: [a1, a2, a3]) h (fun v h9 => wps rm K Q c_M_mend_75 kc ks loc (v.toList ++ st) h9)) := eg_c1_3
theorem s_M_mend_75 {x y : Int32} : wps rm K Q c_M_mend_75 kc ks loc (.int y :: .int x :: st) h = wps rm K Q c_M_mend_76 kc ks loc (.int (x - y) :: st) h := gk_isub
theorem s_M_mend_76  {a1 : Value} : wps rm K Q c_M_mend_76 kc ks loc (a1 :: st) h = (st.length ≤ 4 ∧ eg_Cs n_M_held_I [a1] h (fun v h9 => wps rm K Q c_M_mend_79 kc ks loc (v.toList ++ st) h9)) := eg_c0_1
theorem s_M_mend_79 {x : Int32} : wps rm K Q c_M_mend_79 kc ks loc (.int x :: st) h = wps rm K Q c_M_mend_81 kc ks (eg_set1 loc 5 (.int x)) (st) h := gk_istore
theorem s_M_mend_81 {x : Nat} {l : eg_Lo} : wps rm K Q c_M_mend_81 kc ks (some (.ref x) :: l) (st) h = wps rm K Q c_M_mend_82 kc ks (some (.ref x) :: l) (.ref x :: st) h := gk_aload rfl
theorem s_M_mend_82 {x : Nat} : wps rm K Q c_M_mend_82 kc ks loc (.ref (x + 1) :: st) h = eg_gf h x 12 2 (fun v => wps rm K Q c_M_mend_85 kc ks loc (v :: st) h) := gk_gf
theorem s_M_mend_85 {x : Int32} {l0 l1 l2 l3 : Option Value} {l : eg_Lo} : wps rm K Q c_M_mend_85 kc ks (l0 :: l1 :: l2 :: l3 :: some (.int x) :: l) (st) h = wps rm K Q c_M_mend_87 kc ks (l0 :: l1 :: l2 :: l3 :: some (.int x) :: l) (.int x :: st) h := gk_iload rfl
theorem s_M_mend_87 {x : Nat} {i : Int32} : wps rm K Q c_M_mend_87 kc ks loc (.int i :: .ref (x + 1) :: st) h = eg_ia h x i (fun v => wps rm K Q c_M_mend_88 kc ks loc (.int v :: st) h) := gk_iaload
theorem s_M_mend_88 {x : Nat} {l : eg_Lo} : wps rm K Q c_M_mend_88 kc ks (some (.ref x) :: l) (st) h = wps rm K Q c_M_mend_89 kc ks (some (.ref x) :: l) (.ref x :: st) h := gk_aload rfl
theorem s_M_mend_89 {x : Nat} {l : eg_Lo} : wps rm K Q c_M_mend_89 kc ks (some (.ref x) :: l) (st) h = wps rm K Q c_M_mend_90 kc ks (some (.ref x) :: l) (.ref x :: st) h := gk_aload rfl
theorem s_M_mend_90 {x : Nat} : wps rm K Q c_M_mend_90 kc ks loc (.ref (x + 1) :: st) h = eg_gf h x 12 1 (fun v => wps rm K Q c_M_mend_93 kc ks loc (v :: st) h) := gk_gf
theorem s_M_mend_93 {x : Int32} {l0 l1 l2 l3 : Option Value} {l : eg_Lo} : wps rm K Q c_M_mend_93 kc ks (l0 :: l1 :: l2 :: l3 :: some (.int x) :: l) (st) h = wps rm K Q c_M_mend_95 kc ks (l0 :: l1 :: l2 :: l3 :: some (.int x) :: l) (.int x :: st) h := gk_iload rfl
theorem s_M_mend_95 {x : Nat} {i : Int32} : wps rm K Q c_M_mend_95 kc ks loc (.int i :: .ref (x + 1) :: st) h = eg_ia h x i (fun v => wps rm K Q c_M_mend_96 kc ks loc (.int v :: st) h) := gk_iaload
theorem s_M_mend_96 {x : Nat} {l : eg_Lo} : wps rm K Q c_M_mend_96 kc ks (some (.ref x) :: l) (st) h = wps rm K Q c_M_mend_97 kc ks (some (.ref x) :: l) (.ref x :: st) h := gk_aload rfl
theorem s_M_mend_97 {x : Nat} : wps rm K Q c_M_mend_97 kc ks loc (.ref (x + 1) :: st) h = eg_gf h x 12 2 (fun v => wps rm K Q c_M_mend_100 kc ks loc (v :: st) h) := gk_gf
theorem s_M_mend_100 {x : Int32} {l0 l1 l2 l3 : Option Value} {l : eg_Lo} : wps rm K Q c_M_mend_100 kc ks (l0 :: l1 :: l2 :: l3 :: some (.int x) :: l) (st) h = wps rm K Q c_M_mend_102 kc ks (l0 :: l1 :: l2 :: l3 :: some (.int x) :: l) (.int x :: st) h := gk_iload rfl
theorem s_M_mend_102 {x : Nat} {i : Int32} : wps rm K Q c_M_mend_102 kc ks loc (.int i :: .ref (x + 1) :: st) h = eg_ia h x i (fun v => wps rm K Q c_M_mend_103 kc ks loc (.int v :: st) h) := gk_iaload
theorem s_M_mend_103 {x : Nat} {l : eg_Lo} : wps rm K Q c_M_mend_103 kc ks (some (.ref x) :: l) (st) h = wps rm K Q c_M_mend_104 kc ks (some (.ref x) :: l) (.ref x :: st) h := gk_aload rfl
theorem s_M_mend_104 {x : Nat} : wps rm K Q c_M_mend_104 kc ks loc (.ref (x + 1) :: st) h = eg_gf h x 12 6 (fun v => wps rm K Q c_M_mend_107 kc ks loc (v :: st) h) := gk_gf
theorem s_M_mend_107  {a1 : Value} {a2 : Value} {a3 : Value} {x : Nat} : wps rm K Q c_M_mend_107 kc ks loc (a3 :: a2 :: a1 :: .ref (x + 1) :: st) h = (eg_cls h x 12 ∧ st.length ≤ 4 ∧ eg_Cs n_M_offOf (.ref (x + 1) :: [a1, a2, a3]) h (fun v h9 => wps rm K Q c_M_mend_110 kc ks loc (v.toList ++ st) h9)) := eg_c1_3
theorem s_M_mend_110 {x y : Int32} : wps rm K Q c_M_mend_110 kc ks loc (.int y :: .int x :: st) h = wps rm K Q c_M_mend_111 kc ks loc (.int (x - y) :: st) h := gk_isub
theorem s_M_mend_111  {a1 : Value} : wps rm K Q c_M_mend_111 kc ks loc (a1 :: st) h = (st.length ≤ 4 ∧ eg_Cs n_M_held_I [a1] h (fun v h9 => wps rm K Q c_M_mend_114 kc ks loc (v.toList ++ st) h9)) := eg_c0_1
theorem s_M_mend_114 {x : Int32} : wps rm K Q c_M_mend_114 kc ks loc (.int x :: st) h = wps rm K Q c_M_mend_116 kc ks (eg_set1 loc 6 (.int x)) (st) h := gk_istore
theorem s_M_mend_116 {x : Int32} {l0 l1 : Option Value} {l : eg_Lo} : wps rm K Q c_M_mend_116 kc ks (l0 :: l1 :: some (.int x) :: l) (st) h = wps rm K Q c_M_mend_117 kc ks (l0 :: l1 :: some (.int x) :: l) (.int x :: st) h := gk_iload rfl
theorem s_M_mend_117 {x : Int32} {l0 l1 l2 l3 l4 : Option Value} {l : eg_Lo} : wps rm K Q c_M_mend_117 kc ks (l0 :: l1 :: l2 :: l3 :: l4 :: some (.int x) :: l) (st) h = wps rm K Q c_M_mend_119 kc ks (l0 :: l1 :: l2 :: l3 :: l4 :: some (.int x) :: l) (.int x :: st) h := gk_iload rfl
theorem s_M_mend_119 {x : Nat} {l : eg_Lo} : wps rm K Q c_M_mend_119 kc ks (some (.ref x) :: l) (st) h = wps rm K Q c_M_mend_120 kc ks (some (.ref x) :: l) (.ref x :: st) h := gk_aload rfl
theorem s_M_mend_120 {x : Nat} : wps rm K Q c_M_mend_120 kc ks loc (.ref (x + 1) :: st) h = eg_gf h x 12 1 (fun v => wps rm K Q c_M_mend_123 kc ks loc (v :: st) h) := gk_gf
theorem s_M_mend_123 {x : Int32} {l0 l1 l2 l3 : Option Value} {l : eg_Lo} : wps rm K Q c_M_mend_123 kc ks (l0 :: l1 :: l2 :: l3 :: some (.int x) :: l) (st) h = wps rm K Q c_M_mend_125 kc ks (l0 :: l1 :: l2 :: l3 :: some (.int x) :: l) (.int x :: st) h := gk_iload rfl
theorem s_M_mend_125 {x : Nat} {i : Int32} : wps rm K Q c_M_mend_125 kc ks loc (.int i :: .ref (x + 1) :: st) h = eg_ia h x i (fun v => wps rm K Q c_M_mend_126 kc ks loc (.int v :: st) h) := gk_iaload
theorem s_M_mend_126 {x y : Int32} : wps rm K Q c_M_mend_126 kc ks loc (.int y :: .int x :: st) h = ((¬ x = y → K 141 kc ks loc st h) ∧ (x = y → wps rm K Q c_M_mend_129 kc ks loc (st) h)) := gk_if2_ne
theorem s_M_mend_129 {x : Int32} {l0 l1 l2 l3 l4 l5 : Option Value} {l : eg_Lo} : wps rm K Q c_M_mend_129 kc ks (l0 :: l1 :: l2 :: l3 :: l4 :: l5 :: some (.int x) :: l) (st) h = wps rm K Q c_M_mend_131 kc ks (l0 :: l1 :: l2 :: l3 :: l4 :: l5 :: some (.int x) :: l) (.int x :: st) h := gk_iload rfl
theorem s_M_mend_131 {x : Nat} {l : eg_Lo} : wps rm K Q c_M_mend_131 kc ks (some (.ref x) :: l) (st) h = wps rm K Q c_M_mend_132 kc ks (some (.ref x) :: l) (.ref x :: st) h := gk_aload rfl
theorem s_M_mend_132 {x : Nat} : wps rm K Q c_M_mend_132 kc ks loc (.ref (x + 1) :: st) h = eg_gf h x 12 2 (fun v => wps rm K Q c_M_mend_135 kc ks loc (v :: st) h) := gk_gf
theorem s_M_mend_135 {x : Int32} {l0 l1 l2 l3 : Option Value} {l : eg_Lo} : wps rm K Q c_M_mend_135 kc ks (l0 :: l1 :: l2 :: l3 :: some (.int x) :: l) (st) h = wps rm K Q c_M_mend_137 kc ks (l0 :: l1 :: l2 :: l3 :: some (.int x) :: l) (.int x :: st) h := gk_iload rfl
theorem s_M_mend_137 {x : Nat} {i : Int32} : wps rm K Q c_M_mend_137 kc ks loc (.int i :: .ref (x + 1) :: st) h = eg_ia h x i (fun v => wps rm K Q c_M_mend_138 kc ks loc (.int v :: st) h) := gk_iaload
theorem s_M_mend_138 {x y : Int32} : wps rm K Q c_M_mend_138 kc ks loc (.int y :: .int x :: st) h = ((x = y → K 145 kc ks loc st h) ∧ (¬ x = y → wps rm K Q c_M_mend_141 kc ks loc (st) h)) := gk_if2_eq
theorem s_M_mend_141  : wps rm K Q c_M_mend_141 kc ks loc (st) h = wps rm K Q c_M_mend_142 kc ks loc (.int (1) :: st) h := gk_ic (by decide)
theorem s_M_mend_142  : wps rm K Q c_M_mend_142 kc ks loc (st) h = K 146 kc ks loc st h := gk_goto
theorem s_M_mend_145  : wps rm K Q c_M_mend_145 kc ks loc (st) h = wps rm K Q c_M_mend_146 kc ks loc (.int (0) :: st) h := gk_ic (by decide)
theorem s_M_mend_146 {x y : Int32} : wps rm K Q c_M_mend_146 kc ks loc (.int y :: .int x :: st) h = wps rm K Q c_M_mend_147 kc ks loc (.int (x + y) :: st) h := gk_iadd
theorem s_M_mend_147 {x : Int32} : wps rm K Q c_M_mend_147 kc ks loc (.int x :: st) h = wps rm K Q c_M_mend_148 kc ks (eg_set1 loc 2 (.int x)) (st) h := gk_istore
theorem s_M_mend_148 {x : Nat} {l : eg_Lo} : wps rm K Q c_M_mend_148 kc ks (some (.ref x) :: l) (st) h = wps rm K Q c_M_mend_149 kc ks (some (.ref x) :: l) (.ref x :: st) h := gk_aload rfl
theorem s_M_mend_149 {x : Nat} : wps rm K Q c_M_mend_149 kc ks loc (.ref (x + 1) :: st) h = eg_gf h x 12 1 (fun v => wps rm K Q c_M_mend_152 kc ks loc (v :: st) h) := gk_gf
theorem s_M_mend_152 {x : Int32} {l0 l1 l2 l3 : Option Value} {l : eg_Lo} : wps rm K Q c_M_mend_152 kc ks (l0 :: l1 :: l2 :: l3 :: some (.int x) :: l) (st) h = wps rm K Q c_M_mend_154 kc ks (l0 :: l1 :: l2 :: l3 :: some (.int x) :: l) (.int x :: st) h := gk_iload rfl
theorem s_M_mend_154 {x : Int32} {l0 l1 l2 l3 l4 : Option Value} {l : eg_Lo} : wps rm K Q c_M_mend_154 kc ks (l0 :: l1 :: l2 :: l3 :: l4 :: some (.int x) :: l) (st) h = wps rm K Q c_M_mend_156 kc ks (l0 :: l1 :: l2 :: l3 :: l4 :: some (.int x) :: l) (.int x :: st) h := gk_iload rfl
theorem s_M_mend_156 {x : Nat} {i : Int32} {v : Int32} : wps rm K Q c_M_mend_156 kc ks loc (.int v :: .int i :: .ref (x + 1) :: st) h = eg_is h x i v (fun h9 => wps rm K Q c_M_mend_157 kc ks loc (st) h9) := gk_iastore
theorem s_M_mend_157 {x : Nat} {l : eg_Lo} : wps rm K Q c_M_mend_157 kc ks (some (.ref x) :: l) (st) h = wps rm K Q c_M_mend_158 kc ks (some (.ref x) :: l) (.ref x :: st) h := gk_aload rfl
theorem s_M_mend_158 {x : Nat} : wps rm K Q c_M_mend_158 kc ks loc (.ref (x + 1) :: st) h = eg_gf h x 12 2 (fun v => wps rm K Q c_M_mend_161 kc ks loc (v :: st) h) := gk_gf
theorem s_M_mend_161 {x : Int32} {l0 l1 l2 l3 : Option Value} {l : eg_Lo} : wps rm K Q c_M_mend_161 kc ks (l0 :: l1 :: l2 :: l3 :: some (.int x) :: l) (st) h = wps rm K Q c_M_mend_163 kc ks (l0 :: l1 :: l2 :: l3 :: some (.int x) :: l) (.int x :: st) h := gk_iload rfl
theorem s_M_mend_163 {x : Int32} {l0 l1 l2 l3 l4 l5 : Option Value} {l : eg_Lo} : wps rm K Q c_M_mend_163 kc ks (l0 :: l1 :: l2 :: l3 :: l4 :: l5 :: some (.int x) :: l) (st) h = wps rm K Q c_M_mend_165 kc ks (l0 :: l1 :: l2 :: l3 :: l4 :: l5 :: some (.int x) :: l) (.int x :: st) h := gk_iload rfl
theorem s_M_mend_165 {x : Nat} {i : Int32} {v : Int32} : wps rm K Q c_M_mend_165 kc ks loc (.int v :: .int i :: .ref (x + 1) :: st) h = eg_is h x i v (fun h9 => wps rm K Q c_M_mend_166 kc ks loc (st) h9) := gk_iastore
theorem s_M_mend_166 {x : Int32} {l0 l1 l2 : Option Value} {lz : eg_Lo} : wps rm K Q c_M_mend_166 kc ks (l0 :: l1 :: l2 :: some (.int x) :: lz) (st) h = wps rm K Q c_M_mend_169 kc ks (eg_set1 (l0 :: l1 :: l2 :: some (.int x) :: lz) 3 (.int (x + (1)))) (st) h := gk_iinc rfl (by decide)
theorem s_M_mend_169  : wps rm K Q c_M_mend_169 kc ks loc (st) h = K 19 kc ks loc st h := gk_goto
theorem s_M_mend_172 {x : Int32} {l0 l1 : Option Value} {l : eg_Lo} : wps rm K Q c_M_mend_172 kc ks (l0 :: l1 :: some (.int x) :: l) (st) h = wps rm K Q c_M_mend_173 kc ks (l0 :: l1 :: some (.int x) :: l) (.int x :: st) h := gk_iload rfl
theorem s_M_mend_173 {x : Int32} : wps rm K Q c_M_mend_173 kc ks loc (.int x :: st) h = wps rm K Q c_M_mend_174 kc ks loc (.long (x.toInt64) :: st) h := gk_i2l
theorem s_M_mend_174 {x : Int64} : wps rm K Q c_M_mend_174 kc ks loc ([.long x]) h = (kc = rm.cells ∧ Q (some (.long x)) h) := gk_lret
theorem sz_M_mend_19 : wps rm K Q z_M_mend_19 kc ks loc st h = K 19 kc ks loc st h := gk_nop
def T_M_mend : List (Nat × List eg_I) := [(15, c_M_mend_15), (141, c_M_mend_141), (145, c_M_mend_145), (146, c_M_mend_146), (166, c_M_mend_166), (172, c_M_mend_172)]
theorem j_M_mend_15 {R : Nat → Nat → Nat → eg_Lo → List Value → List eg_E → Prop} {f pc0 : Nat} : eg_run rm R Q T_M_mend (f + 1) 15 kc ks loc st h = wps rm (eg_run rm R Q T_M_mend f) Q c_M_mend_15 kc ks loc st h := rfl
theorem j_M_mend_141 {R : Nat → Nat → Nat → eg_Lo → List Value → List eg_E → Prop} {f pc0 : Nat} : eg_run rm R Q T_M_mend (f + 1) 141 kc ks loc st h = wps rm (eg_run rm R Q T_M_mend f) Q c_M_mend_141 kc ks loc st h := rfl
theorem j_M_mend_145 {R : Nat → Nat → Nat → eg_Lo → List Value → List eg_E → Prop} {f pc0 : Nat} : eg_run rm R Q T_M_mend (f + 1) 145 kc ks loc st h = wps rm (eg_run rm R Q T_M_mend f) Q c_M_mend_145 kc ks loc st h := rfl
theorem j_M_mend_146 {R : Nat → Nat → Nat → eg_Lo → List Value → List eg_E → Prop} {f pc0 : Nat} : eg_run rm R Q T_M_mend (f + 1) 146 kc ks loc st h = wps rm (eg_run rm R Q T_M_mend f) Q c_M_mend_146 kc ks loc st h := rfl
theorem j_M_mend_166 {R : Nat → Nat → Nat → eg_Lo → List Value → List eg_E → Prop} {f pc0 : Nat} : eg_run rm R Q T_M_mend (f + 1) 166 kc ks loc st h = wps rm (eg_run rm R Q T_M_mend f) Q c_M_mend_166 kc ks loc st h := rfl
theorem j_M_mend_172 {R : Nat → Nat → Nat → eg_Lo → List Value → List eg_E → Prop} {f pc0 : Nat} : eg_run rm R Q T_M_mend (f + 1) 172 kc ks loc st h = wps rm (eg_run rm R Q T_M_mend f) Q c_M_mend_172 kc ks loc st h := rfl
theorem j_M_mend_19 {R : Nat → Nat → Nat → eg_Lo → List Value → List eg_E → Prop} {f pc0 : Nat} : eg_run rm R Q T_M_mend (f + 1) 19 kc ks loc st h = R 19 kc ks loc st h := rfl
end
theorem y_M_mend_0 : eg_seq m_M_mend 0 c_M_mend_0 = true := by decide +kernel
theorem y_M_mend_15 : eg_seq m_M_mend 15 c_M_mend_15 = true := by decide +kernel
theorem y_M_mend_19 : eg_seq m_M_mend 19 c_M_mend_19 = true := by decide +kernel
theorem y_M_mend_145 : eg_seq m_M_mend 145 c_M_mend_145 = true := by decide +kernel
theorem y_M_mend_172 : eg_seq m_M_mend 172 c_M_mend_172 = true := by decide +kernel
theorem q_M_mend : ∀ q ∈ T_M_mend, eg_seq m_M_mend q.1 q.2 = true := by
  intro q hq
  simp only [T_M_mend, List.mem_cons, List.not_mem_nil, or_false] at hq
  rcases hq with rfl | rfl | rfl | rfl | rfl | rfl
  · exact y_M_mend_15
  · exact (eg_seq_drop y_M_mend_19 66 : eg_seq m_M_mend 141 c_M_mend_141 = true)
  · exact y_M_mend_145
  · exact (eg_seq_drop y_M_mend_145 1 : eg_seq m_M_mend 146 c_M_mend_146 = true)
  · exact (eg_seq_drop y_M_mend_145 13 : eg_seq m_M_mend 166 c_M_mend_166 = true)
  · exact y_M_mend_172
theorem b_M_mend {as : List Value} {h : List eg_E} {Q : Option Value → List eg_E → Prop} (hf : (eg_fl as).length ≤ 7) (hw : wps (eg_rm m_M_mend) (eg_run (eg_rm m_M_mend) (eg_R m_M_mend Q (h.length + 0)) Q T_M_mend 8) Q c_M_mend_0 0 0 (eg_entry 7 as) [] h) : eg_Runs n_M_mend as h Q := eg_begin2 (d := m_M_mend) rfl (by decide) y_M_mend_0 q_M_mend hf hw
theorem p_M_mend_19 {Q : Option Value → List eg_E → Prop} {n0 kc ks : Nat} {loc : eg_Lo} {st : List Value} {h : List eg_E} (hw : wps (eg_rm m_M_mend) (eg_run (eg_rm m_M_mend) (eg_R m_M_mend Q n0) Q T_M_mend 8) Q c_M_mend_19 kc ks loc st h) : eg_R m_M_mend Q n0 19 kc ks loc st h := eg_go2 y_M_mend_19 q_M_mend hw
