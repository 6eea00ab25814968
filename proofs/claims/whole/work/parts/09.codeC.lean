/-! ===== Flat_crossOf ===== -/
def c_Flat_crossOf_83 : List eg_I := .inl (83, 1, .lreturn, 0, 0) :: []
def c_Flat_crossOf_82 : List eg_I := .inl (82, 1, .ladd, 0, 0) :: c_Flat_crossOf_83
def c_Flat_crossOf_81 : List eg_I := .inl (81, 1, .lmul, 0, 0) :: c_Flat_crossOf_82
def c_Flat_crossOf_80 : List eg_I := .inl (80, 1, .i2l, 0, 0) :: c_Flat_crossOf_81
def c_Flat_crossOf_79 : List eg_I := .inl (79, 1, .isub, 0, 0) :: c_Flat_crossOf_80
def c_Flat_crossOf_78 : List eg_I := .inl (78, 1, .iaload, 0, 0) :: c_Flat_crossOf_79
def c_Flat_crossOf_77 : List eg_I := .inl (77, 1, .iload 1, 0, 0) :: c_Flat_crossOf_78
def c_Flat_crossOf_74 : List eg_I := .inl (74, 3, .getfield 76, 10, 2) :: c_Flat_crossOf_77
def c_Flat_crossOf_71 : List eg_I := .inl (71, 3, .getfield 12, 3, 0) :: c_Flat_crossOf_74
def c_Flat_crossOf_70 : List eg_I := .inl (70, 1, .aload 0, 0, 0) :: c_Flat_crossOf_71
def c_Flat_crossOf_69 : List eg_I := .inl (69, 1, .iaload, 0, 0) :: c_Flat_crossOf_70
def c_Flat_crossOf_68 : List eg_I := .inl (68, 1, .iload 2, 0, 0) :: c_Flat_crossOf_69
def c_Flat_crossOf_65 : List eg_I := .inl (65, 3, .getfield 76, 10, 2) :: c_Flat_crossOf_68
def c_Flat_crossOf_62 : List eg_I := .inl (62, 3, .getfield 12, 3, 0) :: c_Flat_crossOf_65
def c_Flat_crossOf_61 : List eg_I := .inl (61, 1, .aload 0, 0, 0) :: c_Flat_crossOf_62
def c_Flat_crossOf_60 : List eg_I := .inl (60, 1, .laload, 0, 0) :: c_Flat_crossOf_61
def c_Flat_crossOf_59 : List eg_I := .inl (59, 1, .iconst (2), 0, 0) :: c_Flat_crossOf_60
def c_Flat_crossOf_56 : List eg_I := .inl (56, 3, .getfield 18, 3, 1) :: c_Flat_crossOf_59
def c_Flat_crossOf_55 : List eg_I := .inl (55, 1, .aload 0, 0, 0) :: c_Flat_crossOf_56
def c_Flat_crossOf_54 : List eg_I := .inl (54, 1, .ladd, 0, 0) :: c_Flat_crossOf_55
def c_Flat_crossOf_53 : List eg_I := .inl (53, 1, .lmul, 0, 0) :: c_Flat_crossOf_54
def c_Flat_crossOf_52 : List eg_I := .inl (52, 1, .i2l, 0, 0) :: c_Flat_crossOf_53
def c_Flat_crossOf_51 : List eg_I := .inl (51, 1, .isub, 0, 0) :: c_Flat_crossOf_52
def c_Flat_crossOf_50 : List eg_I := .inl (50, 1, .iaload, 0, 0) :: c_Flat_crossOf_51
def c_Flat_crossOf_49 : List eg_I := .inl (49, 1, .iload 1, 0, 0) :: c_Flat_crossOf_50
def c_Flat_crossOf_46 : List eg_I := .inl (46, 3, .getfield 37, 10, 1) :: c_Flat_crossOf_49
def c_Flat_crossOf_43 : List eg_I := .inl (43, 3, .getfield 12, 3, 0) :: c_Flat_crossOf_46
def c_Flat_crossOf_42 : List eg_I := .inl (42, 1, .aload 0, 0, 0) :: c_Flat_crossOf_43
def c_Flat_crossOf_41 : List eg_I := .inl (41, 1, .iaload, 0, 0) :: c_Flat_crossOf_42
def c_Flat_crossOf_40 : List eg_I := .inl (40, 1, .iload 2, 0, 0) :: c_Flat_crossOf_41
def c_Flat_crossOf_37 : List eg_I := .inl (37, 3, .getfield 37, 10, 1) :: c_Flat_crossOf_40
def c_Flat_crossOf_34 : List eg_I := .inl (34, 3, .getfield 12, 3, 0) :: c_Flat_crossOf_37
def c_Flat_crossOf_33 : List eg_I := .inl (33, 1, .aload 0, 0, 0) :: c_Flat_crossOf_34
def c_Flat_crossOf_32 : List eg_I := .inl (32, 1, .laload, 0, 0) :: c_Flat_crossOf_33
def c_Flat_crossOf_31 : List eg_I := .inl (31, 1, .iconst (1), 0, 0) :: c_Flat_crossOf_32
def c_Flat_crossOf_28 : List eg_I := .inl (28, 3, .getfield 18, 3, 1) :: c_Flat_crossOf_31
def c_Flat_crossOf_27 : List eg_I := .inl (27, 1, .aload 0, 0, 0) :: c_Flat_crossOf_28
def c_Flat_crossOf_26 : List eg_I := .inl (26, 1, .lmul, 0, 0) :: c_Flat_crossOf_27
def c_Flat_crossOf_25 : List eg_I := .inl (25, 1, .i2l, 0, 0) :: c_Flat_crossOf_26
def c_Flat_crossOf_24 : List eg_I := .inl (24, 1, .isub, 0, 0) :: c_Flat_crossOf_25
def c_Flat_crossOf_23 : List eg_I := .inl (23, 1, .iaload, 0, 0) :: c_Flat_crossOf_24
def c_Flat_crossOf_22 : List eg_I := .inl (22, 1, .iload 1, 0, 0) :: c_Flat_crossOf_23
def c_Flat_crossOf_19 : List eg_I := .inl (19, 3, .getfield 40, 10, 0) :: c_Flat_crossOf_22
def c_Flat_crossOf_16 : List eg_I := .inl (16, 3, .getfield 12, 3, 0) :: c_Flat_crossOf_19
def c_Flat_crossOf_15 : List eg_I := .inl (15, 1, .aload 0, 0, 0) :: c_Flat_crossOf_16
def c_Flat_crossOf_14 : List eg_I := .inl (14, 1, .iaload, 0, 0) :: c_Flat_crossOf_15
def c_Flat_crossOf_13 : List eg_I := .inl (13, 1, .iload 2, 0, 0) :: c_Flat_crossOf_14
def c_Flat_crossOf_10 : List eg_I := .inl (10, 3, .getfield 40, 10, 0) :: c_Flat_crossOf_13
def c_Flat_crossOf_7 : List eg_I := .inl (7, 3, .getfield 12, 3, 0) :: c_Flat_crossOf_10
def c_Flat_crossOf_6 : List eg_I := .inl (6, 1, .aload 0, 0, 0) :: c_Flat_crossOf_7
def c_Flat_crossOf_5 : List eg_I := .inl (5, 1, .laload, 0, 0) :: c_Flat_crossOf_6
def c_Flat_crossOf_4 : List eg_I := .inl (4, 1, .iconst (0), 0, 0) :: c_Flat_crossOf_5
def c_Flat_crossOf_1 : List eg_I := .inl (1, 3, .getfield 18, 3, 1) :: c_Flat_crossOf_4
def c_Flat_crossOf_0 : List eg_I := .inl (0, 1, .aload 0, 0, 0) :: c_Flat_crossOf_1
section
variable {rm : Room} {K : Nat → Nat → Nat → eg_Lo → List Value → List eg_E → Prop} {Q : Option Value → List eg_E → Prop} {kc ks : Nat} {loc : eg_Lo} {st : List Value} {h : List eg_E}
theorem s_Flat_crossOf_0 {x : Nat} {l : eg_Lo} : wps rm K Q c_Flat_crossOf_0 kc ks (some (.ref x) :: l) (st) h = wps rm K Q c_Flat_crossOf_1 kc ks (some (.ref x) :: l) (.ref x :: st) h := gk_aload rfl
theorem s_Flat_crossOf_1 {x : Nat} : wps rm K Q c_Flat_crossOf_1 kc ks loc (.ref (x + 1) :: st) h = eg_gf h x 3 1 (fun v => wps rm K Q c_Flat_crossOf_4 kc ks loc (v :: st) h) := gk_gf
theorem s_Flat_crossOf_4  : wps rm K Q c_Flat_crossOf_4 kc ks loc (st) h = wps rm K Q c_Flat_crossOf_5 kc ks loc (.int (0) :: st) h := gk_ic (by decide)
theorem s_Flat_crossOf_5 {x : Nat} {i : Int32} : wps rm K Q c_Flat_crossOf_5 kc ks loc (.int i :: .ref (x + 1) :: st) h = eg_la h x i (fun v => wps rm K Q c_Flat_crossOf_6 kc ks loc (.long v :: st) h) := gk_laload
theorem s_Flat_crossOf_6 {x : Nat} {l : eg_Lo} : wps rm K Q c_Flat_crossOf_6 kc ks (some (.ref x) :: l) (st) h = wps rm K Q c_Flat_crossOf_7 kc ks (some (.ref x) :: l) (.ref x :: st) h := gk_aload rfl
theorem s_Flat_crossOf_7 {x : Nat} : wps rm K Q c_Flat_crossOf_7 kc ks loc (.ref (x + 1) :: st) h = eg_gf h x 3 0 (fun v => wps rm K Q c_Flat_crossOf_10 kc ks loc (v :: st) h) := gk_gf
theorem s_Flat_crossOf_10 {x : Nat} : wps rm K Q c_Flat_crossOf_10 kc ks loc (.ref (x + 1) :: st) h = eg_gf h x 10 0 (fun v => wps rm K Q c_Flat_crossOf_13 kc ks loc (v :: st) h) := gk_gf
theorem s_Flat_crossOf_13 {x : Int32} {l0 l1 : Option Value} {l : eg_Lo} : wps rm K Q c_Flat_crossOf_13 kc ks (l0 :: l1 :: some (.int x) :: l) (st) h = wps rm K Q c_Flat_crossOf_14 kc ks (l0 :: l1 :: some (.int x) :: l) (.int x :: st) h := gk_iload rfl
theorem s_Flat_crossOf_14 {x : Nat} {i : Int32} : wps rm K Q c_Flat_crossOf_14 kc ks loc (.int i :: .ref (x + 1) :: st) h = eg_ia h x i (fun v => wps rm K Q c_Flat_crossOf_15 kc ks loc (.int v :: st) h) := gk_iaload
theorem s_Flat_crossOf_15 {x : Nat} {l : eg_Lo} : wps rm K Q c_Flat_crossOf_15 kc ks (some (.ref x) :: l) (st) h = wps rm K Q c_Flat_crossOf_16 kc ks (some (.ref x) :: l) (.ref x :: st) h := gk_aload rfl
theorem s_Flat_crossOf_16 {x : Nat} : wps rm K Q c_Flat_crossOf_16 kc ks loc (.ref (x + 1) :: st) h = eg_gf h x 3 0 (fun v => wps rm K Q c_Flat_crossOf_19 kc ks loc (v :: st) h) := gk_gf
theorem s_Flat_crossOf_19 {x : Nat} : wps rm K Q c_Flat_crossOf_19 kc ks loc (.ref (x + 1) :: st) h = eg_gf h x 10 0 (fun v => wps rm K Q c_Flat_crossOf_22 kc ks loc (v :: st) h) := gk_gf
theorem s_Flat_crossOf_22 {x : Int32} {l0 : Option Value} {l : eg_Lo} : wps rm K Q c_Flat_crossOf_22 kc ks (l0 :: some (.int x) :: l) (st) h = wps rm K Q c_Flat_crossOf_23 kc ks (l0 :: some (.int x) :: l) (.int x :: st) h := gk_iload rfl
theorem s_Flat_crossOf_23 {x : Nat} {i : Int32} : wps rm K Q c_Flat_crossOf_23 kc ks loc (.int i :: .ref (x + 1) :: st) h = eg_ia h x i (fun v => wps rm K Q c_Flat_crossOf_24 kc ks loc (.int v :: st) h) := gk_iaload
theorem s_Flat_crossOf_24 {x y : Int32} : wps rm K Q c_Flat_crossOf_24 kc ks loc (.int y :: .int x :: st) h = wps rm K Q c_Flat_crossOf_25 kc ks loc (.int (x - y) :: st) h := gk_isub
theorem s_Flat_crossOf_25 {x : Int32} : wps rm K Q c_Flat_crossOf_25 kc ks loc (.int x :: st) h = wps rm K Q c_Flat_crossOf_26 kc ks loc (.long (x.toInt64) :: st) h := gk_i2l
theorem s_Flat_crossOf_26 {x y : Int64} : wps rm K Q c_Flat_crossOf_26 kc ks loc (.long y :: .long x :: st) h = wps rm K Q c_Flat_crossOf_27 kc ks loc (.long (x * y) :: st) h := gk_lmul
theorem s_Flat_crossOf_27 {x : Nat} {l : eg_Lo} : wps rm K Q c_Flat_crossOf_27 kc ks (some (.ref x) :: l) (st) h = wps rm K Q c_Flat_crossOf_28 kc ks (some (.ref x) :: l) (.ref x :: st) h := gk_aload rfl
theorem s_Flat_crossOf_28 {x : Nat} : wps rm K Q c_Flat_crossOf_28 kc ks loc (.ref (x + 1) :: st) h = eg_gf h x 3 1 (fun v => wps rm K Q c_Flat_crossOf_31 kc ks loc (v :: st) h) := gk_gf
theorem s_Flat_crossOf_31  : wps rm K Q c_Flat_crossOf_31 kc ks loc (st) h = wps rm K Q c_Flat_crossOf_32 kc ks loc (.int (1) :: st) h := gk_ic (by decide)
theorem s_Flat_crossOf_32 {x : Nat} {i : Int32} : wps rm K Q c_Flat_crossOf_32 kc ks loc (.int i :: .ref (x + 1) :: st) h = eg_la h x i (fun v => wps rm K Q c_Flat_crossOf_33 kc ks loc (.long v :: st) h) := gk_laload
theorem s_Flat_crossOf_33 {x : Nat} {l : eg_Lo} : wps rm K Q c_Flat_crossOf_33 kc ks (some (.ref x) :: l) (st) h = wps rm K Q c_Flat_crossOf_34 kc ks (some (.ref x) :: l) (.ref x :: st) h := gk_aload rfl
theorem s_Flat_crossOf_34 {x : Nat} : wps rm K Q c_Flat_crossOf_34 kc ks loc (.ref (x + 1) :: st) h = eg_gf h x 3 0 (fun v => wps rm K Q c_Flat_crossOf_37 kc ks loc (v :: st) h) := gk_gf
theorem s_Flat_crossOf_37 {x : Nat} : wps rm K Q c_Flat_crossOf_37 kc ks loc (.ref (x + 1) :: st) h = eg_gf h x 10 1 (fun v => wps rm K Q c_Flat_crossOf_40 kc ks loc (v :: st) h) := gk_gf
theorem s_Flat_crossOf_40 {x : Int32} {l0 l1 : Option Value} {l : eg_Lo} : wps rm K Q c_Flat_crossOf_40 kc ks (l0 :: l1 :: some (.int x) :: l) (st) h = wps rm K Q c_Flat_crossOf_41 kc ks (l0 :: l1 :: some (.int x) :: l) (.int x :: st) h := gk_iload rfl
theorem s_Flat_crossOf_41 {x : Nat} {i : Int32} : wps rm K Q c_Flat_crossOf_41 kc ks loc (.int i :: .ref (x + 1) :: st) h = eg_ia h x i (fun v => wps rm K Q c_Flat_crossOf_42 kc ks loc (.int v :: st) h) := gk_iaload
theorem s_Flat_crossOf_42 {x : Nat} {l : eg_Lo} : wps rm K Q c_Flat_crossOf_42 kc ks (some (.ref x) :: l) (st) h = wps rm K Q c_Flat_crossOf_43 kc ks (some (.ref x) :: l) (.ref x :: st) h := gk_aload rfl
theorem s_Flat_crossOf_43 {x : Nat} : wps rm K Q c_Flat_crossOf_43 kc ks loc (.ref (x + 1) :: st) h = eg_gf h x 3 0 (fun v => wps rm K Q c_Flat_crossOf_46 kc ks loc (v :: st) h) := gk_gf
theorem s_Flat_crossOf_46 {x : Nat} : wps rm K Q c_Flat_crossOf_46 kc ks loc (.ref (x + 1) :: st) h = eg_gf h x 10 1 (fun v => wps rm K Q c_Flat_crossOf_49 kc ks loc (v :: st) h) := gk_gf
theorem s_Flat_crossOf_49 {x : Int32} {l0 : Option Value} {l : eg_Lo} : wps rm K Q c_Flat_crossOf_49 kc ks (l0 :: some (.int x) :: l) (st) h = wps rm K Q c_Flat_crossOf_50 kc ks (l0 :: some (.int x) :: l) (.int x :: st) h := gk_iload rfl
theorem s_Flat_crossOf_50 {x : Nat} {i : Int32} : wps rm K Q c_Flat_crossOf_50 kc ks loc (.int i :: .ref (x + 1) :: st) h = eg_ia h x i (fun v => wps rm K Q c_Flat_crossOf_51 kc ks loc (.int v :: st) h) := gk_iaload
theorem s_Flat_crossOf_51 {x y : Int32} : wps rm K Q c_Flat_crossOf_51 kc ks loc (.int y :: .int x :: st) h = wps rm K Q c_Flat_crossOf_52 kc ks loc (.int (x - y) :: st) h := gk_isub
theorem s_Flat_crossOf_52 {x : Int32} : wps rm K Q c_Flat_crossOf_52 kc ks loc (.int x :: st) h = wps rm K Q c_Flat_crossOf_53 kc ks loc (.long (x.toInt64) :: st) h := gk_i2l
theorem s_Flat_crossOf_53 {x y : Int64} : wps rm K Q c_Flat_crossOf_53 kc ks loc (.long y :: .long x :: st) h = wps rm K Q c_Flat_crossOf_54 kc ks loc (.long (x * y) :: st) h := gk_lmul
theorem s_Flat_crossOf_54 {x y : Int64} : wps rm K Q c_Flat_crossOf_54 kc ks loc (.long y :: .long x :: st) h = wps rm K Q c_Flat_crossOf_55 kc ks loc (.long (x + y) :: st) h := gk_ladd
theorem s_Flat_crossOf_55 {x : Nat} {l : eg_Lo} : wps rm K Q c_Flat_crossOf_55 kc ks (some (.ref x) :: l) (st) h = wps rm K Q c_Flat_crossOf_56 kc ks (some (.ref x) :: l) (.ref x :: st) h := gk_aload rfl
theorem s_Flat_crossOf_56 {x : Nat} : wps rm K Q c_Flat_crossOf_56 kc ks loc (.ref (x + 1) :: st) h = eg_gf h x 3 1 (fun v => wps rm K Q c_Flat_crossOf_59 kc ks loc (v :: st) h) := gk_gf
theorem s_Flat_crossOf_59  : wps rm K Q c_Flat_crossOf_59 kc ks loc (st) h = wps rm K Q c_Flat_crossOf_60 kc ks loc (.int (2) :: st) h := gk_ic (by decide)
theorem s_Flat_crossOf_60 {x : Nat} {i : Int32} : wps rm K Q c_Flat_crossOf_60 kc ks loc (.int i :: .ref (x + 1) :: st) h = eg_la h x i (fun v => wps rm K Q c_Flat_crossOf_61 kc ks loc (.long v :: st) h) := gk_laload
theorem s_Flat_crossOf_61 {x : Nat} {l : eg_Lo} : wps rm K Q c_Flat_crossOf_61 kc ks (some (.ref x) :: l) (st) h = wps rm K Q c_Flat_crossOf_62 kc ks (some (.ref x) :: l) (.ref x :: st) h := gk_aload rfl
theorem s_Flat_crossOf_62 {x : Nat} : wps rm K Q c_Flat_crossOf_62 kc ks loc (.ref (x + 1) :: st) h = eg_gf h x 3 0 (fun v => wps rm K Q c_Flat_crossOf_65 kc ks loc (v :: st) h) := gk_gf
theorem s_Flat_crossOf_65 {x : Nat} : wps rm K Q c_Flat_crossOf_65 kc ks loc (.ref (x + 1) :: st) h = eg_gf h x 10 2 (fun v => wps rm K Q c_Flat_crossOf_68 kc ks loc (v :: st) h) := gk_gf
theorem s_Flat_crossOf_68 {x : Int32} {l0 l1 : Option Value} {l : eg_Lo} : wps rm K Q c_Flat_crossOf_68 kc ks (l0 :: l1 :: some (.int x) :: l) (st) h = wps rm K Q c_Flat_crossOf_69 kc ks (l0 :: l1 :: some (.int x) :: l) (.int x :: st) h := gk_iload rfl
theorem s_Flat_crossOf_69 {x : Nat} {i : Int32} : wps rm K Q c_Flat_crossOf_69 kc ks loc (.int i :: .ref (x + 1) :: st) h = eg_ia h x i (fun v => wps rm K Q c_Flat_crossOf_70 kc ks loc (.int v :: st) h) := gk_iaload
theorem s_Flat_crossOf_70 {x : Nat} {l : eg_Lo} : wps rm K Q c_Flat_crossOf_70 kc ks (some (.ref x) :: l) (st) h = wps rm K Q c_Flat_crossOf_71 kc ks (some (.ref x) :: l) (.ref x :: st) h := gk_aload rfl
theorem s_Flat_crossOf_71 {x : Nat} : wps rm K Q c_Flat_crossOf_71 kc ks loc (.ref (x + 1) :: st) h = eg_gf h x 3 0 (fun v => wps rm K Q c_Flat_crossOf_74 kc ks loc (v :: st) h) := gk_gf
theorem s_Flat_crossOf_74 {x : Nat} : wps rm K Q c_Flat_crossOf_74 kc ks loc (.ref (x + 1) :: st) h = eg_gf h x 10 2 (fun v => wps rm K Q c_Flat_crossOf_77 kc ks loc (v :: st) h) := gk_gf
theorem s_Flat_crossOf_77 {x : Int32} {l0 : Option Value} {l : eg_Lo} : wps rm K Q c_Flat_crossOf_77 kc ks (l0 :: some (.int x) :: l) (st) h = wps rm K Q c_Flat_crossOf_78 kc ks (l0 :: some (.int x) :: l) (.int x :: st) h := gk_iload rfl
theorem s_Flat_crossOf_78 {x : Nat} {i : Int32} : wps rm K Q c_Flat_crossOf_78 kc ks loc (.int i :: .ref (x + 1) :: st) h = eg_ia h x i (fun v => wps rm K Q c_Flat_crossOf_79 kc ks loc (.int v :: st) h) := gk_iaload
theorem s_Flat_crossOf_79 {x y : Int32} : wps rm K Q c_Flat_crossOf_79 kc ks loc (.int y :: .int x :: st) h = wps rm K Q c_Flat_crossOf_80 kc ks loc (.int (x - y) :: st) h := gk_isub
theorem s_Flat_crossOf_80 {x : Int32} : wps rm K Q c_Flat_crossOf_80 kc ks loc (.int x :: st) h = wps rm K Q c_Flat_crossOf_81 kc ks loc (.long (x.toInt64) :: st) h := gk_i2l
theorem s_Flat_crossOf_81 {x y : Int64} : wps rm K Q c_Flat_crossOf_81 kc ks loc (.long y :: .long x :: st) h = wps rm K Q c_Flat_crossOf_82 kc ks loc (.long (x * y) :: st) h := gk_lmul
theorem s_Flat_crossOf_82 {x y : Int64} : wps rm K Q c_Flat_crossOf_82 kc ks loc (.long y :: .long x :: st) h = wps rm K Q c_Flat_crossOf_83 kc ks loc (.long (x + y) :: st) h := gk_ladd
theorem s_Flat_crossOf_83 {x : Int64} : wps rm K Q c_Flat_crossOf_83 kc ks loc ([.long x]) h = (kc = rm.cells ∧ Q (some (.long x)) h) := gk_lret
def T_Flat_crossOf : List (Nat × List eg_I) := []
end
theorem y_Flat_crossOf_0 : eg_seq m_Flat_crossOf 0 c_Flat_crossOf_0 = true := by decide +kernel
theorem q_Flat_crossOf : ∀ q ∈ T_Flat_crossOf, eg_seq m_Flat_crossOf q.1 q.2 = true := by
  intro q hq
  cases hq
theorem b_Flat_crossOf {as : List Value} {h : List eg_E} {Q : Option Value → List eg_E → Prop} (hf : (eg_fl as).length ≤ 3) (hw : wps (eg_rm m_Flat_crossOf) (eg_run (eg_rm m_Flat_crossOf) (eg_R m_Flat_crossOf Q (h.length + 0)) Q T_Flat_crossOf 2) Q c_Flat_crossOf_0 0 0 (eg_entry 3 as) [] h) : eg_Runs n_Flat_crossOf as h Q := eg_begin2 (d := m_Flat_crossOf) rfl (by decide) y_Flat_crossOf_0 q_Flat_crossOf hf hw
/-! ===== Flat_isBeaten ===== -/
def c_Flat_isBeaten_30 : List eg_I := .inl (30, 1, .ireturn, 0, 1) :: []
def c_Flat_isBeaten_29 : List eg_I := .inl (29, 1, .iconst (0), 0, 0) :: c_Flat_isBeaten_30
def c_Flat_isBeaten_26 : List eg_I := .inl (26, 3, .goto (4), 30, 0) :: []
def c_Flat_isBeaten_25 : List eg_I := .inl (25, 1, .iconst (1), 0, 0) :: c_Flat_isBeaten_26
def c_Flat_isBeaten_22 : List eg_I := .inl (22, 3, .ifCond .ne (7), 29, 0) :: c_Flat_isBeaten_25
def c_Flat_isBeaten_19 : List eg_I := .inr (19, 0, 110, n_Frac_isLess, 4, 4, 0, 0) :: c_Flat_isBeaten_22
def c_Flat_isBeaten_16 : List eg_I := .inl (16, 3, .getfield 95, 3, 6) :: c_Flat_isBeaten_19
def c_Flat_isBeaten_15 : List eg_I := .inl (15, 1, .aload 0, 0, 0) :: c_Flat_isBeaten_16
def c_Flat_isBeaten_12 : List eg_I := .inl (12, 3, .getfield 91, 3, 5) :: c_Flat_isBeaten_15
def c_Flat_isBeaten_11 : List eg_I := .inl (11, 1, .aload 0, 0, 0) :: c_Flat_isBeaten_12
def c_Flat_isBeaten_10 : List eg_I := .inl (10, 1, .lload 3, 0, 0) :: c_Flat_isBeaten_11
def c_Flat_isBeaten_9 : List eg_I := .inl (9, 1, .lmul, 0, 0) :: c_Flat_isBeaten_10
def c_Flat_isBeaten_8 : List eg_I := .inl (8, 1, .lload 1, 0, 0) :: c_Flat_isBeaten_9
def c_Flat_isBeaten_7 : List eg_I := .inl (7, 1, .lload 1, 0, 0) :: c_Flat_isBeaten_8
def c_Flat_isBeaten_4 : List eg_I := .inl (4, 3, .ifCond .eq (25), 29, 0) :: c_Flat_isBeaten_7
def c_Flat_isBeaten_1 : List eg_I := .inl (1, 3, .getfield 51, 3, 4) :: c_Flat_isBeaten_4
def c_Flat_isBeaten_0 : List eg_I := .inl (0, 1, .aload 0, 0, 0) :: c_Flat_isBeaten_1
section
variable {rm : Room} {K : Nat → Nat → Nat → eg_Lo → List Value → List eg_E → Prop} {Q : Option Value → List eg_E → Prop} {kc ks : Nat} {loc : eg_Lo} {st : List Value} {h : List eg_E}
theorem s_Flat_isBeaten_0 {x : Nat} {l : eg_Lo} : wps rm K Q c_Flat_isBeaten_0 kc ks (some (.ref x) :: l) (st) h = wps rm K Q c_Flat_isBeaten_1 kc ks (some (.ref x) :: l) (.ref x :: st) h := gk_aload rfl
theorem s_Flat_isBeaten_1 {x : Nat} : wps rm K Q c_Flat_isBeaten_1 kc ks loc (.ref (x + 1) :: st) h = eg_gf h x 3 4 (fun v => wps rm K Q c_Flat_isBeaten_4 kc ks loc (v :: st) h) := gk_gf
theorem s_Flat_isBeaten_4 {x : Int32} : wps rm K Q c_Flat_isBeaten_4 kc ks loc (.int x :: st) h = ((x = 0 → K 29 kc ks loc st h) ∧ (¬ x = 0 → wps rm K Q c_Flat_isBeaten_7 kc ks loc (st) h)) := gk_if1_eq
theorem s_Flat_isBeaten_7 {x : Int64} {l0 : Option Value} {l : eg_Lo} : wps rm K Q c_Flat_isBeaten_7 kc ks (l0 :: some (.long x) :: l) (st) h = wps rm K Q c_Flat_isBeaten_8 kc ks (l0 :: some (.long x) :: l) (.long x :: st) h := gk_lload rfl
theorem s_Flat_isBeaten_8 {x : Int64} {l0 : Option Value} {l : eg_Lo} : wps rm K Q c_Flat_isBeaten_8 kc ks (l0 :: some (.long x) :: l) (st) h = wps rm K Q c_Flat_isBeaten_9 kc ks (l0 :: some (.long x) :: l) (.long x :: st) h := gk_lload rfl
theorem s_Flat_isBeaten_9 {x y : Int64} : wps rm K Q c_Flat_isBeaten_9 kc ks loc (.long y :: .long x :: st) h = wps rm K Q c_Flat_isBeaten_10 kc ks loc (.long (x * y) :: st) h := gk_lmul
theorem s_Flat_isBeaten_10 {x : Int64} {l0 l1 l2 : Option Value} {l : eg_Lo} : wps rm K Q c_Flat_isBeaten_10 kc ks (l0 :: l1 :: l2 :: some (.long x) :: l) (st) h = wps rm K Q c_Flat_isBeaten_11 kc ks (l0 :: l1 :: l2 :: some (.long x) :: l) (.long x :: st) h := gk_lload rfl
theorem s_Flat_isBeaten_11 {x : Nat} {l : eg_Lo} : wps rm K Q c_Flat_isBeaten_11 kc ks (some (.ref x) :: l) (st) h = wps rm K Q c_Flat_isBeaten_12 kc ks (some (.ref x) :: l) (.ref x :: st) h := gk_aload rfl
theorem s_Flat_isBeaten_12 {x : Nat} : wps rm K Q c_Flat_isBeaten_12 kc ks loc (.ref (x + 1) :: st) h = eg_gf h x 3 5 (fun v => wps rm K Q c_Flat_isBeaten_15 kc ks loc (v :: st) h) := gk_gf
theorem s_Flat_isBeaten_15 {x : Nat} {l : eg_Lo} : wps rm K Q c_Flat_isBeaten_15 kc ks (some (.ref x) :: l) (st) h = wps rm K Q c_Flat_isBeaten_16 kc ks (some (.ref x) :: l) (.ref x :: st) h := gk_aload rfl
theorem s_Flat_isBeaten_16 {x : Nat} : wps rm K Q c_Flat_isBeaten_16 kc ks loc (.ref (x + 1) :: st) h = eg_gf h x 3 6 (fun v => wps rm K Q c_Flat_isBeaten_19 kc ks loc (v :: st) h) := gk_gf
theorem s_Flat_isBeaten_19  {a1 : Value} {a2 : Value} {a3 : Value} {a4 : Value} : wps rm K Q c_Flat_isBeaten_19 kc ks loc (a4 :: a3 :: a2 :: a1 :: st) h = (st.length ≤ 4 ∧ eg_Cs n_Frac_isLess [a1, a2, a3, a4] h (fun v h9 => wps rm K Q c_Flat_isBeaten_22 kc ks loc (v.toList ++ st) h9)) := eg_c0_4
theorem s_Flat_isBeaten_22 {x : Int32} : wps rm K Q c_Flat_isBeaten_22 kc ks loc (.int x :: st) h = ((¬ x = 0 → K 29 kc ks loc st h) ∧ (x = 0 → wps rm K Q c_Flat_isBeaten_25 kc ks loc (st) h)) := gk_if1_ne
theorem s_Flat_isBeaten_25  : wps rm K Q c_Flat_isBeaten_25 kc ks loc (st) h = wps rm K Q c_Flat_isBeaten_26 kc ks loc (.int (1) :: st) h := gk_ic (by decide)
theorem s_Flat_isBeaten_26  : wps rm K Q c_Flat_isBeaten_26 kc ks loc (st) h = K 30 kc ks loc st h := gk_goto
theorem s_Flat_isBeaten_29  : wps rm K Q c_Flat_isBeaten_29 kc ks loc (st) h = wps rm K Q c_Flat_isBeaten_30 kc ks loc (.int (0) :: st) h := gk_ic (by decide)
theorem s_Flat_isBeaten_30 {x : Int32} : wps rm K Q c_Flat_isBeaten_30 kc ks loc ([.int x]) h = (kc = rm.cells ∧ ((1 : Nat) = 1 → x = 0 ∨ x = 1) ∧ Q (some (.int x)) h) := gk_iret
def T_Flat_isBeaten : List (Nat × List eg_I) := [(29, c_Flat_isBeaten_29), (30, c_Flat_isBeaten_30)]
theorem j_Flat_isBeaten_29 {R : Nat → Nat → Nat → eg_Lo → List Value → List eg_E → Prop} {f pc0 : Nat} : eg_run rm R Q T_Flat_isBeaten (f + 1) 29 kc ks loc st h = wps rm (eg_run rm R Q T_Flat_isBeaten f) Q c_Flat_isBeaten_29 kc ks loc st h := rfl
theorem j_Flat_isBeaten_30 {R : Nat → Nat → Nat → eg_Lo → List Value → List eg_E → Prop} {f pc0 : Nat} : eg_run rm R Q T_Flat_isBeaten (f + 1) 30 kc ks loc st h = wps rm (eg_run rm R Q T_Flat_isBeaten f) Q c_Flat_isBeaten_30 kc ks loc st h := rfl
end
theorem y_Flat_isBeaten_0 : eg_seq m_Flat_isBeaten 0 c_Flat_isBeaten_0 = true := by decide +kernel
theorem y_Flat_isBeaten_29 : eg_seq m_Flat_isBeaten 29 c_Flat_isBeaten_29 = true := by decide +kernel
theorem q_Flat_isBeaten : ∀ q ∈ T_Flat_isBeaten, eg_seq m_Flat_isBeaten q.1 q.2 = true := by
  intro q hq
  simp only [T_Flat_isBeaten, List.mem_cons, List.not_mem_nil, or_false] at hq
  rcases hq with rfl | rfl
  · exact y_Flat_isBeaten_29
  · exact (eg_seq_drop y_Flat_isBeaten_29 1 : eg_seq m_Flat_isBeaten 30 c_Flat_isBeaten_30 = true)
theorem b_Flat_isBeaten {as : List Value} {h : List eg_E} {Q : Option Value → List eg_E → Prop} (hf : (eg_fl as).length ≤ 5) (hw : wps (eg_rm m_Flat_isBeaten) (eg_run (eg_rm m_Flat_isBeaten) (eg_R m_Flat_isBeaten Q (h.length + 0)) Q T_Flat_isBeaten 4) Q c_Flat_isBeaten_0 0 0 (eg_entry 5 as) [] h) : eg_Runs n_Flat_isBeaten as h Q := eg_begin2 (d := m_Flat_isBeaten) rfl (by decide) y_Flat_isBeaten_0 q_Flat_isBeaten hf hw
/-! ===== Flat_hold ===== -/
def c_Flat_hold_47 : List eg_I := .inl (47, 1, .return_, 0, 0) :: []
def c_Flat_hold_46 : List eg_I := .inl (46, 1, .iastore, 0, 0) :: c_Flat_hold_47
def c_Flat_hold_45 : List eg_I := .inl (45, 1, .iaload, 0, 0) :: c_Flat_hold_46
def c_Flat_hold_44 : List eg_I := .inl (44, 1, .iload 3, 0, 0) :: c_Flat_hold_45
def c_Flat_hold_41 : List eg_I := .inl (41, 3, .getfield 116, 10, 3) :: c_Flat_hold_44
def c_Flat_hold_38 : List eg_I := .inl (38, 3, .getfield 12, 3, 0) :: c_Flat_hold_41
def c_Flat_hold_37 : List eg_I := .inl (37, 1, .aload 0, 0, 0) :: c_Flat_hold_38
def c_Flat_hold_36 : List eg_I := .inl (36, 1, .iadd, 0, 0) :: c_Flat_hold_37
def c_Flat_hold_35 : List eg_I := .inl (35, 1, .iconst (1), 0, 0) :: c_Flat_hold_36
def c_Flat_hold_34 : List eg_I := .inl (34, 1, .iload 1, 0, 0) :: c_Flat_hold_35
def c_Flat_hold_31 : List eg_I := .inl (31, 3, .getfield 25, 3, 3) :: c_Flat_hold_34
def c_Flat_hold_30 : List eg_I := .inl (30, 1, .aload 0, 0, 0) :: c_Flat_hold_31
def c_Flat_hold_29 : List eg_I := .inl (29, 1, .iastore, 0, 0) :: c_Flat_hold_30
def c_Flat_hold_28 : List eg_I := .inl (28, 1, .iaload, 0, 0) :: c_Flat_hold_29
def c_Flat_hold_27 : List eg_I := .inl (27, 1, .iload 2, 0, 0) :: c_Flat_hold_28
def c_Flat_hold_24 : List eg_I := .inl (24, 3, .getfield 116, 10, 3) :: c_Flat_hold_27
def c_Flat_hold_21 : List eg_I := .inl (21, 3, .getfield 12, 3, 0) :: c_Flat_hold_24
def c_Flat_hold_20 : List eg_I := .inl (20, 1, .aload 0, 0, 0) :: c_Flat_hold_21
def c_Flat_hold_19 : List eg_I := .inl (19, 1, .iload 1, 0, 0) :: c_Flat_hold_20
def c_Flat_hold_16 : List eg_I := .inl (16, 3, .getfield 25, 3, 3) :: c_Flat_hold_19
def c_Flat_hold_15 : List eg_I := .inl (15, 1, .aload 0, 0, 0) :: c_Flat_hold_16
def c_Flat_hold_12 : List eg_I := .inl (12, 3, .if_icmp .ge (35), 47, 0) :: c_Flat_hold_15
def c_Flat_hold_11 : List eg_I := .inl (11, 1, .arraylength, 0, 0) :: c_Flat_hold_12
def c_Flat_hold_8 : List eg_I := .inl (8, 3, .getfield 25, 3, 3) :: c_Flat_hold_11
def c_Flat_hold_7 : List eg_I := .inl (7, 1, .aload 0, 0, 0) :: c_Flat_hold_8
def c_Flat_hold_6 : List eg_I := .inl (6, 1, .iadd, 0, 0) :: c_Flat_hold_7
def c_Flat_hold_5 : List eg_I := .inl (5, 1, .iconst (1), 0, 0) :: c_Flat_hold_6
def c_Flat_hold_4 : List eg_I := .inl (4, 1, .iload 1, 0, 0) :: c_Flat_hold_5
def c_Flat_hold_1 : List eg_I := .inl (1, 3, .ifCond .lt (46), 47, 0) :: c_Flat_hold_4
def c_Flat_hold_0 : List eg_I := .inl (0, 1, .iload 1, 0, 0) :: c_Flat_hold_1
section
variable {rm : Room} {K : Nat → Nat → Nat → eg_Lo → List Value → List eg_E → Prop} {Q : Option Value → List eg_E → Prop} {kc ks : Nat} {loc : eg_Lo} {st : List Value} {h : List eg_E}
theorem s_Flat_hold_0 {x : Int32} {l0 : Option Value} {l : eg_Lo} : wps rm K Q c_Flat_hold_0 kc ks (l0 :: some (.int x) :: l) (st) h = wps rm K Q c_Flat_hold_1 kc ks (l0 :: some (.int x) :: l) (.int x :: st) h := gk_iload rfl
theorem s_Flat_hold_1 {x : Int32} : wps rm K Q c_Flat_hold_1 kc ks loc (.int x :: st) h = ((x < 0 → K 47 kc ks loc st h) ∧ (¬ x < 0 → wps rm K Q c_Flat_hold_4 kc ks loc (st) h)) := gk_if1_lt
theorem s_Flat_hold_4 {x : Int32} {l0 : Option Value} {l : eg_Lo} : wps rm K Q c_Flat_hold_4 kc ks (l0 :: some (.int x) :: l) (st) h = wps rm K Q c_Flat_hold_5 kc ks (l0 :: some (.int x) :: l) (.int x :: st) h := gk_iload rfl
theorem s_Flat_hold_5  : wps rm K Q c_Flat_hold_5 kc ks loc (st) h = wps rm K Q c_Flat_hold_6 kc ks loc (.int (1) :: st) h := gk_ic (by decide)
theorem s_Flat_hold_6 {x y : Int32} : wps rm K Q c_Flat_hold_6 kc ks loc (.int y :: .int x :: st) h = wps rm K Q c_Flat_hold_7 kc ks loc (.int (x + y) :: st) h := gk_iadd
theorem s_Flat_hold_7 {x : Nat} {l : eg_Lo} : wps rm K Q c_Flat_hold_7 kc ks (some (.ref x) :: l) (st) h = wps rm K Q c_Flat_hold_8 kc ks (some (.ref x) :: l) (.ref x :: st) h := gk_aload rfl
theorem s_Flat_hold_8 {x : Nat} : wps rm K Q c_Flat_hold_8 kc ks loc (.ref (x + 1) :: st) h = eg_gf h x 3 3 (fun v => wps rm K Q c_Flat_hold_11 kc ks loc (v :: st) h) := gk_gf
theorem s_Flat_hold_11 {x : Nat} : wps rm K Q c_Flat_hold_11 kc ks loc (.ref (x + 1) :: st) h = eg_al h x (fun v => wps rm K Q c_Flat_hold_12 kc ks loc (.int v :: st) h) := gk_al
theorem s_Flat_hold_12 {x y : Int32} : wps rm K Q c_Flat_hold_12 kc ks loc (.int y :: .int x :: st) h = ((y ≤ x → K 47 kc ks loc st h) ∧ (¬ y ≤ x → wps rm K Q c_Flat_hold_15 kc ks loc (st) h)) := gk_if2_ge
theorem s_Flat_hold_15 {x : Nat} {l : eg_Lo} : wps rm K Q c_Flat_hold_15 kc ks (some (.ref x) :: l) (st) h = wps rm K Q c_Flat_hold_16 kc ks (some (.ref x) :: l) (.ref x :: st) h := gk_aload rfl
theorem s_Flat_hold_16 {x : Nat} : wps rm K Q c_Flat_hold_16 kc ks loc (.ref (x + 1) :: st) h = eg_gf h x 3 3 (fun v => wps rm K Q c_Flat_hold_19 kc ks loc (v :: st) h) := gk_gf
theorem s_Flat_hold_19 {x : Int32} {l0 : Option Value} {l : eg_Lo} : wps rm K Q c_Flat_hold_19 kc ks (l0 :: some (.int x) :: l) (st) h = wps rm K Q c_Flat_hold_20 kc ks (l0 :: some (.int x) :: l) (.int x :: st) h := gk_iload rfl
theorem s_Flat_hold_20 {x : Nat} {l : eg_Lo} : wps rm K Q c_Flat_hold_20 kc ks (some (.ref x) :: l) (st) h = wps rm K Q c_Flat_hold_21 kc ks (some (.ref x) :: l) (.ref x :: st) h := gk_aload rfl
theorem s_Flat_hold_21 {x : Nat} : wps rm K Q c_Flat_hold_21 kc ks loc (.ref (x + 1) :: st) h = eg_gf h x 3 0 (fun v => wps rm K Q c_Flat_hold_24 kc ks loc (v :: st) h) := gk_gf
theorem s_Flat_hold_24 {x : Nat} : wps rm K Q c_Flat_hold_24 kc ks loc (.ref (x + 1) :: st) h = eg_gf h x 10 3 (fun v => wps rm K Q c_Flat_hold_27 kc ks loc (v :: st) h) := gk_gf
theorem s_Flat_hold_27 {x : Int32} {l0 l1 : Option Value} {l : eg_Lo} : wps rm K Q c_Flat_hold_27 kc ks (l0 :: l1 :: some (.int x) :: l) (st) h = wps rm K Q c_Flat_hold_28 kc ks (l0 :: l1 :: some (.int x) :: l) (.int x :: st) h := gk_iload rfl
theorem s_Flat_hold_28 {x : Nat} {i : Int32} : wps rm K Q c_Flat_hold_28 kc ks loc (.int i :: .ref (x + 1) :: st) h = eg_ia h x i (fun v => wps rm K Q c_Flat_hold_29 kc ks loc (.int v :: st) h) := gk_iaload
theorem s_Flat_hold_29 {x : Nat} {i : Int32} {v : Int32} : wps rm K Q c_Flat_hold_29 kc ks loc (.int v :: .int i :: .ref (x + 1) :: st) h = eg_is h x i v (fun h9 => wps rm K Q c_Flat_hold_30 kc ks loc (st) h9) := gk_iastore
theorem s_Flat_hold_30 {x : Nat} {l : eg_Lo} : wps rm K Q c_Flat_hold_30 kc ks (some (.ref x) :: l) (st) h = wps rm K Q c_Flat_hold_31 kc ks (some (.ref x) :: l) (.ref x :: st) h := gk_aload rfl
theorem s_Flat_hold_31 {x : Nat} : wps rm K Q c_Flat_hold_31 kc ks loc (.ref (x + 1) :: st) h = eg_gf h x 3 3 (fun v => wps rm K Q c_Flat_hold_34 kc ks loc (v :: st) h) := gk_gf
theorem s_Flat_hold_34 {x : Int32} {l0 : Option Value} {l : eg_Lo} : wps rm K Q c_Flat_hold_34 kc ks (l0 :: some (.int x) :: l) (st) h = wps rm K Q c_Flat_hold_35 kc ks (l0 :: some (.int x) :: l) (.int x :: st) h := gk_iload rfl
theorem s_Flat_hold_35  : wps rm K Q c_Flat_hold_35 kc ks loc (st) h = wps rm K Q c_Flat_hold_36 kc ks loc (.int (1) :: st) h := gk_ic (by decide)
theorem s_Flat_hold_36 {x y : Int32} : wps rm K Q c_Flat_hold_36 kc ks loc (.int y :: .int x :: st) h = wps rm K Q c_Flat_hold_37 kc ks loc (.int (x + y) :: st) h := gk_iadd
theorem s_Flat_hold_37 {x : Nat} {l : eg_Lo} : wps rm K Q c_Flat_hold_37 kc ks (some (.ref x) :: l) (st) h = wps rm K Q c_Flat_hold_38 kc ks (some (.ref x) :: l) (.ref x :: st) h := gk_aload rfl
theorem s_Flat_hold_38 {x : Nat} : wps rm K Q c_Flat_hold_38 kc ks loc (.ref (x + 1) :: st) h = eg_gf h x 3 0 (fun v => wps rm K Q c_Flat_hold_41 kc ks loc (v :: st) h) := gk_gf
theorem s_Flat_hold_41 {x : Nat} : wps rm K Q c_Flat_hold_41 kc ks loc (.ref (x + 1) :: st) h = eg_gf h x 10 3 (fun v => wps rm K Q c_Flat_hold_44 kc ks loc (v :: st) h) := gk_gf
theorem s_Flat_hold_44 {x : Int32} {l0 l1 l2 : Option Value} {l : eg_Lo} : wps rm K Q c_Flat_hold_44 kc ks (l0 :: l1 :: l2 :: some (.int x) :: l) (st) h = wps rm K Q c_Flat_hold_45 kc ks (l0 :: l1 :: l2 :: some (.int x) :: l) (.int x :: st) h := gk_iload rfl
theorem s_Flat_hold_45 {x : Nat} {i : Int32} : wps rm K Q c_Flat_hold_45 kc ks loc (.int i :: .ref (x + 1) :: st) h = eg_ia h x i (fun v => wps rm K Q c_Flat_hold_46 kc ks loc (.int v :: st) h) := gk_iaload
theorem s_Flat_hold_46 {x : Nat} {i : Int32} {v : Int32} : wps rm K Q c_Flat_hold_46 kc ks loc (.int v :: .int i :: .ref (x + 1) :: st) h = eg_is h x i v (fun h9 => wps rm K Q c_Flat_hold_47 kc ks loc (st) h9) := gk_iastore
theorem s_Flat_hold_47  : wps rm K Q c_Flat_hold_47 kc ks loc ([]) h = (kc = rm.cells ∧ Q none h) := gk_vret
def T_Flat_hold : List (Nat × List eg_I) := [(47, c_Flat_hold_47)]
theorem j_Flat_hold_47 {R : Nat → Nat → Nat → eg_Lo → List Value → List eg_E → Prop} {f pc0 : Nat} : eg_run rm R Q T_Flat_hold (f + 1) 47 kc ks loc st h = wps rm (eg_run rm R Q T_Flat_hold f) Q c_Flat_hold_47 kc ks loc st h := rfl
end
theorem y_Flat_hold_0 : eg_seq m_Flat_hold 0 c_Flat_hold_0 = true := by decide +kernel
theorem q_Flat_hold : ∀ q ∈ T_Flat_hold, eg_seq m_Flat_hold q.1 q.2 = true := by
  intro q hq
  simp only [T_Flat_hold, List.mem_cons, List.not_mem_nil, or_false] at hq
  rcases hq with rfl
  · exact (eg_seq_drop y_Flat_hold_0 29 : eg_seq m_Flat_hold 47 c_Flat_hold_47 = true)
theorem b_Flat_hold {as : List Value} {h : List eg_E} {Q : Option Value → List eg_E → Prop} (hf : (eg_fl as).length ≤ 4) (hw : wps (eg_rm m_Flat_hold) (eg_run (eg_rm m_Flat_hold) (eg_R m_Flat_hold Q (h.length + 0)) Q T_Flat_hold 3) Q c_Flat_hold_0 0 0 (eg_entry 4 as) [] h) : eg_Runs n_Flat_hold as h Q := eg_begin2 (d := m_Flat_hold) rfl (by decide) y_Flat_hold_0 q_Flat_hold hf hw
/-! ===== Flat_finish ===== -/
def c_Flat_finish_55 : List eg_I := .inl (55, 1, .return_, 0, 0) :: []
def c_Flat_finish_52 : List eg_I := .inr (52, 1, 132, n_Frac_become, 2, 4, 0, 0) :: c_Flat_finish_55
def c_Flat_finish_49 : List eg_I := .inl (49, 3, .getfield 95, 3, 6) :: c_Flat_finish_52
def c_Flat_finish_48 : List eg_I := .inl (48, 1, .aload 0, 0, 0) :: c_Flat_finish_49
def c_Flat_finish_45 : List eg_I := .inl (45, 3, .getfield 91, 3, 5) :: c_Flat_finish_48
def c_Flat_finish_44 : List eg_I := .inl (44, 1, .aload 0, 0, 0) :: c_Flat_finish_45
def c_Flat_finish_41 : List eg_I := .inl (41, 3, .getfield 128, 2, 2) :: c_Flat_finish_44
def c_Flat_finish_40 : List eg_I := .inl (40, 1, .aload 1, 0, 0) :: c_Flat_finish_41
def c_Flat_finish_37 : List eg_I := .inl (37, 3, .monitorenter, 104, 0) :: c_Flat_finish_40
def c_Flat_finish_35 : List eg_I := .inl (35, 2, .iconst (6), 0, 0) :: c_Flat_finish_37
def c_Flat_finish_34 : List eg_I := .inl (34, 1, .iconst (0), 0, 0) :: c_Flat_finish_35
def c_Flat_finish_31 : List eg_I := .inl (31, 3, .getfield 125, 2, 0) :: c_Flat_finish_34
def c_Flat_finish_30 : List eg_I := .inl (30, 1, .aload 1, 0, 0) :: c_Flat_finish_31
def c_Flat_finish_29 : List eg_I := .inl (29, 1, .iconst (0), 0, 0) :: c_Flat_finish_30
def c_Flat_finish_26 : List eg_I := .inl (26, 3, .getfield 25, 3, 3) :: c_Flat_finish_29
def c_Flat_finish_25 : List eg_I := .inl (25, 1, .aload 0, 0, 0) :: c_Flat_finish_26
def c_Flat_finish_22 : List eg_I := .inl (22, 3, .putfield 122, 2, 6) :: c_Flat_finish_25
def c_Flat_finish_21 : List eg_I := .inl (21, 1, .iadd, 0, 0) :: c_Flat_finish_22
def c_Flat_finish_20 : List eg_I := .inl (20, 1, .iconst (2), 0, 0) :: c_Flat_finish_21
def c_Flat_finish_19 : List eg_I := .inl (19, 1, .iload 3, 0, 0) :: c_Flat_finish_20
def c_Flat_finish_18 : List eg_I := .inl (18, 1, .aload 1, 0, 0) :: c_Flat_finish_19
def c_Flat_finish_15 : List eg_I := .inl (15, 3, .putfield 119, 2, 5) :: c_Flat_finish_18
def c_Flat_finish_14 : List eg_I := .inl (14, 1, .iload 2, 0, 0) :: c_Flat_finish_15
def c_Flat_finish_13 : List eg_I := .inl (13, 1, .aload 1, 0, 0) :: c_Flat_finish_14
def c_Flat_finish_10 : List eg_I := .inr (10, 1, 47, n_Flat_hold, 3, 3, 0, 0) :: c_Flat_finish_13
def c_Flat_finish_7 : List eg_I := .inl (7, 3, .getfield 101, 3, 8) :: c_Flat_finish_10
def c_Flat_finish_6 : List eg_I := .inl (6, 1, .aload 0, 0, 0) :: c_Flat_finish_7
def c_Flat_finish_3 : List eg_I := .inl (3, 3, .getfield 98, 3, 7) :: c_Flat_finish_6
def c_Flat_finish_2 : List eg_I := .inl (2, 1, .aload 0, 0, 0) :: c_Flat_finish_3
def c_Flat_finish_1 : List eg_I := .inl (1, 1, .iload 3, 0, 0) :: c_Flat_finish_2
def c_Flat_finish_0 : List eg_I := .inl (0, 1, .aload 0, 0, 0) :: c_Flat_finish_1
section
variable {rm : Room} {K : Nat → Nat → Nat → eg_Lo → List Value → List eg_E → Prop} {Q : Option Value → List eg_E → Prop} {kc ks : Nat} {loc : eg_Lo} {st : List Value} {h : List eg_E}
theorem s_Flat_finish_0 {x : Nat} {l : eg_Lo} : wps rm K Q c_Flat_finish_0 kc ks (some (.ref x) :: l) (st) h = wps rm K Q c_Flat_finish_1 kc ks (some (.ref x) :: l) (.ref x :: st) h := gk_aload rfl
theorem s_Flat_finish_1 {x : Int32} {l0 l1 l2 : Option Value} {l : eg_Lo} : wps rm K Q c_Flat_finish_1 kc ks (l0 :: l1 :: l2 :: some (.int x) :: l) (st) h = wps rm K Q c_Flat_finish_2 kc ks (l0 :: l1 :: l2 :: some (.int x) :: l) (.int x :: st) h := gk_iload rfl
theorem s_Flat_finish_2 {x : Nat} {l : eg_Lo} : wps rm K Q c_Flat_finish_2 kc ks (some (.ref x) :: l) (st) h = wps rm K Q c_Flat_finish_3 kc ks (some (.ref x) :: l) (.ref x :: st) h := gk_aload rfl
theorem s_Flat_finish_3 {x : Nat} : wps rm K Q c_Flat_finish_3 kc ks loc (.ref (x + 1) :: st) h = eg_gf h x 3 7 (fun v => wps rm K Q c_Flat_finish_6 kc ks loc (v :: st) h) := gk_gf
theorem s_Flat_finish_6 {x : Nat} {l : eg_Lo} : wps rm K Q c_Flat_finish_6 kc ks (some (.ref x) :: l) (st) h = wps rm K Q c_Flat_finish_7 kc ks (some (.ref x) :: l) (.ref x :: st) h := gk_aload rfl
theorem s_Flat_finish_7 {x : Nat} : wps rm K Q c_Flat_finish_7 kc ks loc (.ref (x + 1) :: st) h = eg_gf h x 3 8 (fun v => wps rm K Q c_Flat_finish_10 kc ks loc (v :: st) h) := gk_gf
theorem s_Flat_finish_10  {a1 : Value} {a2 : Value} {a3 : Value} {x : Nat} : wps rm K Q c_Flat_finish_10 kc ks loc (a3 :: a2 :: a1 :: .ref (x + 1) :: st) h = (eg_cls h x 3 ∧ st.length ≤ 4 ∧ eg_Cs n_Flat_hold (.ref (x + 1) :: [a1, a2, a3]) h (fun v h9 => wps rm K Q c_Flat_finish_13 kc ks loc (v.toList ++ st) h9)) := eg_c1_3
theorem s_Flat_finish_13 {x : Nat} {l0 : Option Value} {l : eg_Lo} : wps rm K Q c_Flat_finish_13 kc ks (l0 :: some (.ref x) :: l) (st) h = wps rm K Q c_Flat_finish_14 kc ks (l0 :: some (.ref x) :: l) (.ref x :: st) h := gk_aload rfl
theorem s_Flat_finish_14 {x : Int32} {l0 l1 : Option Value} {l : eg_Lo} : wps rm K Q c_Flat_finish_14 kc ks (l0 :: l1 :: some (.int x) :: l) (st) h = wps rm K Q c_Flat_finish_15 kc ks (l0 :: l1 :: some (.int x) :: l) (.int x :: st) h := gk_iload rfl
theorem s_Flat_finish_15 {x : Nat} {v : Value} : wps rm K Q c_Flat_finish_15 kc ks loc (v :: .ref (x + 1) :: st) h = eg_pf h x 2 5 v (fun h9 => wps rm K Q c_Flat_finish_18 kc ks loc (st) h9) := gk_pf
theorem s_Flat_finish_18 {x : Nat} {l0 : Option Value} {l : eg_Lo} : wps rm K Q c_Flat_finish_18 kc ks (l0 :: some (.ref x) :: l) (st) h = wps rm K Q c_Flat_finish_19 kc ks (l0 :: some (.ref x) :: l) (.ref x :: st) h := gk_aload rfl
theorem s_Flat_finish_19 {x : Int32} {l0 l1 l2 : Option Value} {l : eg_Lo} : wps rm K Q c_Flat_finish_19 kc ks (l0 :: l1 :: l2 :: some (.int x) :: l) (st) h = wps rm K Q c_Flat_finish_20 kc ks (l0 :: l1 :: l2 :: some (.int x) :: l) (.int x :: st) h := gk_iload rfl
theorem s_Flat_finish_20  : wps rm K Q c_Flat_finish_20 kc ks loc (st) h = wps rm K Q c_Flat_finish_21 kc ks loc (.int (2) :: st) h := gk_ic (by decide)
theorem s_Flat_finish_21 {x y : Int32} : wps rm K Q c_Flat_finish_21 kc ks loc (.int y :: .int x :: st) h = wps rm K Q c_Flat_finish_22 kc ks loc (.int (x + y) :: st) h := gk_iadd
theorem s_Flat_finish_22 {x : Nat} {v : Value} : wps rm K Q c_Flat_finish_22 kc ks loc (v :: .ref (x + 1) :: st) h = eg_pf h x 2 6 v (fun h9 => wps rm K Q c_Flat_finish_25 kc ks loc (st) h9) := gk_pf
theorem s_Flat_finish_25 {x : Nat} {l : eg_Lo} : wps rm K Q c_Flat_finish_25 kc ks (some (.ref x) :: l) (st) h = wps rm K Q c_Flat_finish_26 kc ks (some (.ref x) :: l) (.ref x :: st) h := gk_aload rfl
theorem s_Flat_finish_26 {x : Nat} : wps rm K Q c_Flat_finish_26 kc ks loc (.ref (x + 1) :: st) h = eg_gf h x 3 3 (fun v => wps rm K Q c_Flat_finish_29 kc ks loc (v :: st) h) := gk_gf
theorem s_Flat_finish_29  : wps rm K Q c_Flat_finish_29 kc ks loc (st) h = wps rm K Q c_Flat_finish_30 kc ks loc (.int (0) :: st) h := gk_ic (by decide)
theorem s_Flat_finish_30 {x : Nat} {l0 : Option Value} {l : eg_Lo} : wps rm K Q c_Flat_finish_30 kc ks (l0 :: some (.ref x) :: l) (st) h = wps rm K Q c_Flat_finish_31 kc ks (l0 :: some (.ref x) :: l) (.ref x :: st) h := gk_aload rfl
theorem s_Flat_finish_31 {x : Nat} : wps rm K Q c_Flat_finish_31 kc ks loc (.ref (x + 1) :: st) h = eg_gf h x 2 0 (fun v => wps rm K Q c_Flat_finish_34 kc ks loc (v :: st) h) := gk_gf
theorem s_Flat_finish_34  : wps rm K Q c_Flat_finish_34 kc ks loc (st) h = wps rm K Q c_Flat_finish_35 kc ks loc (.int (0) :: st) h := gk_ic (by decide)
theorem s_Flat_finish_35  : wps rm K Q c_Flat_finish_35 kc ks loc (st) h = wps rm K Q c_Flat_finish_37 kc ks loc (.int (6) :: st) h := gk_ic (by decide)
theorem s_Flat_finish_37 {x y : Nat} {sp dp z : Int32} : wps rm K Q c_Flat_finish_37 kc ks loc (.int z :: .int dp :: .ref (y + 1) :: .int sp :: .ref (x + 1) :: []) h = eg_cpi h x y sp dp z (fun h9 => wps rm K Q c_Flat_finish_40 kc ks loc ([]) h9) := eg_cp_i
theorem s_Flat_finish_40 {x : Nat} {l0 : Option Value} {l : eg_Lo} : wps rm K Q c_Flat_finish_40 kc ks (l0 :: some (.ref x) :: l) (st) h = wps rm K Q c_Flat_finish_41 kc ks (l0 :: some (.ref x) :: l) (.ref x :: st) h := gk_aload rfl
theorem s_Flat_finish_41 {x : Nat} : wps rm K Q c_Flat_finish_41 kc ks loc (.ref (x + 1) :: st) h = eg_gf h x 2 2 (fun v => wps rm K Q c_Flat_finish_44 kc ks loc (v :: st) h) := gk_gf
theorem s_Flat_finish_44 {x : Nat} {l : eg_Lo} : wps rm K Q c_Flat_finish_44 kc ks (some (.ref x) :: l) (st) h = wps rm K Q c_Flat_finish_45 kc ks (some (.ref x) :: l) (.ref x :: st) h := gk_aload rfl
theorem s_Flat_finish_45 {x : Nat} : wps rm K Q c_Flat_finish_45 kc ks loc (.ref (x + 1) :: st) h = eg_gf h x 3 5 (fun v => wps rm K Q c_Flat_finish_48 kc ks loc (v :: st) h) := gk_gf
theorem s_Flat_finish_48 {x : Nat} {l : eg_Lo} : wps rm K Q c_Flat_finish_48 kc ks (some (.ref x) :: l) (st) h = wps rm K Q c_Flat_finish_49 kc ks (some (.ref x) :: l) (.ref x :: st) h := gk_aload rfl
theorem s_Flat_finish_49 {x : Nat} : wps rm K Q c_Flat_finish_49 kc ks loc (.ref (x + 1) :: st) h = eg_gf h x 3 6 (fun v => wps rm K Q c_Flat_finish_52 kc ks loc (v :: st) h) := gk_gf
theorem s_Flat_finish_52  {a1 : Value} {a2 : Value} {x : Nat} : wps rm K Q c_Flat_finish_52 kc ks loc (a2 :: a1 :: .ref (x + 1) :: st) h = (eg_cls h x 4 ∧ st.length ≤ 4 ∧ eg_Cs n_Frac_become (.ref (x + 1) :: [a1, a2]) h (fun v h9 => wps rm K Q c_Flat_finish_55 kc ks loc (v.toList ++ st) h9)) := eg_c1_2
theorem s_Flat_finish_55  : wps rm K Q c_Flat_finish_55 kc ks loc ([]) h = (kc = rm.cells ∧ Q none h) := gk_vret
def T_Flat_finish : List (Nat × List eg_I) := []
end
theorem y_Flat_finish_0 : eg_seq m_Flat_finish 0 c_Flat_finish_0 = true := by decide +kernel
theorem q_Flat_finish : ∀ q ∈ T_Flat_finish, eg_seq m_Flat_finish q.1 q.2 = true := by
  intro q hq
  cases hq
theorem b_Flat_finish {as : List Value} {h : List eg_E} {Q : Option Value → List eg_E → Prop} (hf : (eg_fl as).length ≤ 4) (hw : wps (eg_rm m_Flat_finish) (eg_run (eg_rm m_Flat_finish) (eg_R m_Flat_finish Q (h.length + 0)) Q T_Flat_finish 2) Q c_Flat_finish_0 0 0 (eg_entry 4 as) [] h) : eg_Runs n_Flat_finish as h Q := eg_begin2 (d := m_Flat_finish) rfl (by decide) y_Flat_finish_0 q_Flat_finish hf hw
/-! ===== Frac_init ===== -/
def c_Frac_init_9 : List eg_I := .inl (9, 1, .return_, 0, 0) :: []
def c_Frac_init_6 : List eg_I := .inl (6, 3, .putfield 7, 4, 1) :: c_Frac_init_9
def c_Frac_init_5 : List eg_I := .inl (5, 1, .sipush (1), 0, 0) :: c_Frac_init_6
def c_Frac_init_4 : List eg_I := .inl (4, 1, .aload 0, 0, 0) :: c_Frac_init_5
def c_Frac_init_1 : List eg_I := .inl (1, 3, .athrow, 1, 0) :: c_Frac_init_4
def c_Frac_init_0 : List eg_I := .inl (0, 1, .aload 0, 0, 0) :: c_Frac_init_1
section
variable {rm : Room} {K : Nat → Nat → Nat → eg_Lo → List Value → List eg_E → Prop} {Q : Option Value → List eg_E → Prop} {kc ks : Nat} {loc : eg_Lo} {st : List Value} {h : List eg_E}
theorem s_Frac_init_0 {x : Nat} {l : eg_Lo} : wps rm K Q c_Frac_init_0 kc ks (some (.ref x) :: l) (st) h = wps rm K Q c_Frac_init_1 kc ks (some (.ref x) :: l) (.ref x :: st) h := gk_aload rfl
theorem s_Frac_init_1 {x : Nat} : wps rm K Q c_Frac_init_1 kc ks loc (.ref (x + 1) :: st) h = (st.length ≤ 4 ∧ wps rm K Q c_Frac_init_4 kc ks loc (st) h) := gk_oi
theorem s_Frac_init_4 {x : Nat} {l : eg_Lo} : wps rm K Q c_Frac_init_4 kc ks (some (.ref x) :: l) (st) h = wps rm K Q c_Frac_init_5 kc ks (some (.ref x) :: l) (.ref x :: st) h := gk_aload rfl
theorem s_Frac_init_5  : wps rm K Q c_Frac_init_5 kc ks loc (st) h = wps rm K Q c_Frac_init_6 kc ks loc (.long (1) :: st) h := gk_lc (by decide)
theorem s_Frac_init_6 {x : Nat} {v : Value} : wps rm K Q c_Frac_init_6 kc ks loc (v :: .ref (x + 1) :: st) h = eg_pf h x 4 1 v (fun h9 => wps rm K Q c_Frac_init_9 kc ks loc (st) h9) := gk_pf
theorem s_Frac_init_9  : wps rm K Q c_Frac_init_9 kc ks loc ([]) h = (kc = rm.cells ∧ Q none h) := gk_vret
def T_Frac_init : List (Nat × List eg_I) := []
end
theorem y_Frac_init_0 : eg_seq m_Frac_init 0 c_Frac_init_0 = true := by decide +kernel
theorem q_Frac_init : ∀ q ∈ T_Frac_init, eg_seq m_Frac_init q.1 q.2 = true := by
  intro q hq
  cases hq
theorem b_Frac_init {as : List Value} {h : List eg_E} {Q : Option Value → List eg_E → Prop} (hf : (eg_fl as).length ≤ 1) (hw : wps (eg_rm m_Frac_init) (eg_run (eg_rm m_Frac_init) (eg_R m_Frac_init Q (h.length + 0)) Q T_Frac_init 2) Q c_Frac_init_0 0 0 (eg_entry 1 as) [] h) : eg_Runs n_Frac_init as h Q := eg_begin2 (d := m_Frac_init) rfl (by decide) y_Frac_init_0 q_Frac_init hf hw
/-! ===== Frac_become ===== -/
def c_Frac_become_37 : List eg_I := .inl (37, 1, .return_, 0, 0) :: []
def c_Frac_become_34 : List eg_I := .inl (34, 3, .putfield 7, 4, 1) :: c_Frac_become_37
def c_Frac_become_33 : List eg_I := .inl (33, 1, .ldiv, 0, 0) :: c_Frac_become_34
def c_Frac_become_31 : List eg_I := .inl (31, 2, .lload 5, 0, 0) :: c_Frac_become_33
def c_Frac_become_30 : List eg_I := .inl (30, 1, .lload 3, 0, 0) :: c_Frac_become_31
def c_Frac_become_29 : List eg_I := .inl (29, 1, .aload 0, 0, 0) :: c_Frac_become_30
def c_Frac_become_26 : List eg_I := .inl (26, 3, .putfield 17, 4, 0) :: c_Frac_become_29
def c_Frac_become_25 : List eg_I := .inl (25, 1, .ldiv, 0, 0) :: c_Frac_become_26
def c_Frac_become_23 : List eg_I := .inl (23, 2, .lload 5, 0, 0) :: c_Frac_become_25
def c_Frac_become_22 : List eg_I := .inl (22, 1, .lload 1, 0, 0) :: c_Frac_become_23
def c_Frac_become_21 : List eg_I := .inl (21, 1, .aload 0, 0, 0) :: c_Frac_become_22
def c_Frac_become_20 : List eg_I := .inl (20, 1, .return_, 0, 0) :: []
def c_Frac_become_17 : List eg_I := .inl (17, 3, .ifCond .ne (4), 21, 0) :: c_Frac_become_20
def c_Frac_become_16 : List eg_I := .inl (16, 1, .lcmp, 0, 0) :: c_Frac_become_17
def c_Frac_become_15 : List eg_I := .inl (15, 1, .sipush (0), 0, 0) :: c_Frac_become_16
def c_Frac_become_13 : List eg_I := .inl (13, 2, .lload 5, 0, 0) :: c_Frac_become_15
def c_Frac_become_10 : List eg_I := .inl (10, 3, .ifCond .le (10), 20, 0) :: c_Frac_become_13
def c_Frac_become_9 : List eg_I := .inl (9, 1, .lcmp, 0, 0) :: c_Frac_become_10
def c_Frac_become_8 : List eg_I := .inl (8, 1, .sipush (0), 0, 0) :: c_Frac_become_9
def c_Frac_become_7 : List eg_I := .inl (7, 1, .lload 3, 0, 0) :: c_Frac_become_8
def c_Frac_become_5 : List eg_I := .inl (5, 2, .lstore 5, 0, 0) :: c_Frac_become_7
def c_Frac_become_2 : List eg_I := .inr (2, 0, 13, n_Frac_commonMeasure, 2, 4, 0, 0) :: c_Frac_become_5
def c_Frac_become_1 : List eg_I := .inl (1, 1, .lload 3, 0, 0) :: c_Frac_become_2
def c_Frac_become_0 : List eg_I := .inl (0, 1, .lload 1, 0, 0) :: c_Frac_become_1
section
variable {rm : Room} {K : Nat → Nat → Nat → eg_Lo → List Value → List eg_E → Prop} {Q : Option Value → List eg_E → Prop} {kc ks : Nat} {loc : eg_Lo} {st : List Value} {h : List eg_E}
theorem s_Frac_become_0 {x : Int64} {l0 : Option Value} {l : eg_Lo} : wps rm K Q c_Frac_become_0 kc ks (l0 :: some (.long x) :: l) (st) h = wps rm K Q c_Frac_become_1 kc ks (l0 :: some (.long x) :: l) (.long x :: st) h := gk_lload rfl
theorem s_Frac_become_1 {x : Int64} {l0 l1 l2 : Option Value} {l : eg_Lo} : wps rm K Q c_Frac_become_1 kc ks (l0 :: l1 :: l2 :: some (.long x) :: l) (st) h = wps rm K Q c_Frac_become_2 kc ks (l0 :: l1 :: l2 :: some (.long x) :: l) (.long x :: st) h := gk_lload rfl
theorem s_Frac_become_2  {a1 : Value} {a2 : Value} : wps rm K Q c_Frac_become_2 kc ks loc (a2 :: a1 :: st) h = (st.length ≤ 4 ∧ eg_Cs n_Frac_commonMeasure [a1, a2] h (fun v h9 => wps rm K Q c_Frac_become_5 kc ks loc (v.toList ++ st) h9)) := eg_c0_2
theorem s_Frac_become_5 {x : Int64} : wps rm K Q c_Frac_become_5 kc ks loc (.long x :: st) h = wps rm K Q c_Frac_become_7 kc ks (eg_set2 loc 5 (.long x)) (st) h := gk_lstore
theorem s_Frac_become_7 {x : Int64} {l0 l1 l2 : Option Value} {l : eg_Lo} : wps rm K Q c_Frac_become_7 kc ks (l0 :: l1 :: l2 :: some (.long x) :: l) (st) h = wps rm K Q c_Frac_become_8 kc ks (l0 :: l1 :: l2 :: some (.long x) :: l) (.long x :: st) h := gk_lload rfl
theorem s_Frac_become_8  : wps rm K Q c_Frac_become_8 kc ks loc (st) h = wps rm K Q c_Frac_become_9 kc ks loc (.long (0) :: st) h := gk_lc (by decide)
theorem s_Frac_become_9 {x y : Int64} : wps rm K Q c_Frac_become_9 kc ks loc (.long y :: .long x :: st) h = wps rm K Q c_Frac_become_10 kc ks loc (.int (lg_cmp x y) :: st) h := gk_lcmp
theorem s_Frac_become_10 {x : Int32} : wps rm K Q c_Frac_become_10 kc ks loc (.int x :: st) h = ((x ≤ 0 → K 20 kc ks loc st h) ∧ (¬ x ≤ 0 → wps rm K Q c_Frac_become_13 kc ks loc (st) h)) := gk_if1_le
theorem s_Frac_become_13 {x : Int64} {l0 l1 l2 l3 l4 : Option Value} {l : eg_Lo} : wps rm K Q c_Frac_become_13 kc ks (l0 :: l1 :: l2 :: l3 :: l4 :: some (.long x) :: l) (st) h = wps rm K Q c_Frac_become_15 kc ks (l0 :: l1 :: l2 :: l3 :: l4 :: some (.long x) :: l) (.long x :: st) h := gk_lload rfl
theorem s_Frac_become_15  : wps rm K Q c_Frac_become_15 kc ks loc (st) h = wps rm K Q c_Frac_become_16 kc ks loc (.long (0) :: st) h := gk_lc (by decide)
theorem s_Frac_become_16 {x y : Int64} : wps rm K Q c_Frac_become_16 kc ks loc (.long y :: .long x :: st) h = wps rm K Q c_Frac_become_17 kc ks loc (.int (lg_cmp x y) :: st) h := gk_lcmp
theorem s_Frac_become_17 {x : Int32} : wps rm K Q c_Frac_become_17 kc ks loc (.int x :: st) h = ((¬ x = 0 → K 21 kc ks loc st h) ∧ (x = 0 → wps rm K Q c_Frac_become_20 kc ks loc (st) h)) := gk_if1_ne
theorem s_Frac_become_20  : wps rm K Q c_Frac_become_20 kc ks loc ([]) h = (kc = rm.cells ∧ Q none h) := gk_vret
theorem s_Frac_become_21 {x : Nat} {l : eg_Lo} : wps rm K Q c_Frac_become_21 kc ks (some (.ref x) :: l) (st) h = wps rm K Q c_Frac_become_22 kc ks (some (.ref x) :: l) (.ref x :: st) h := gk_aload rfl
theorem s_Frac_become_22 {x : Int64} {l0 : Option Value} {l : eg_Lo} : wps rm K Q c_Frac_become_22 kc ks (l0 :: some (.long x) :: l) (st) h = wps rm K Q c_Frac_become_23 kc ks (l0 :: some (.long x) :: l) (.long x :: st) h := gk_lload rfl
theorem s_Frac_become_23 {x : Int64} {l0 l1 l2 l3 l4 : Option Value} {l : eg_Lo} : wps rm K Q c_Frac_become_23 kc ks (l0 :: l1 :: l2 :: l3 :: l4 :: some (.long x) :: l) (st) h = wps rm K Q c_Frac_become_25 kc ks (l0 :: l1 :: l2 :: l3 :: l4 :: some (.long x) :: l) (.long x :: st) h := gk_lload rfl
theorem s_Frac_become_25 {x y : Int64} : wps rm K Q c_Frac_become_25 kc ks loc (.long y :: .long x :: st) h = (¬ y = 0 ∧ wps rm K Q c_Frac_become_26 kc ks loc (.long (x / y) :: st) h) := gk_ldiv
theorem s_Frac_become_26 {x : Nat} {v : Value} : wps rm K Q c_Frac_become_26 kc ks loc (v :: .ref (x + 1) :: st) h = eg_pf h x 4 0 v (fun h9 => wps rm K Q c_Frac_become_29 kc ks loc (st) h9) := gk_pf
theorem s_Frac_become_29 {x : Nat} {l : eg_Lo} : wps rm K Q c_Frac_become_29 kc ks (some (.ref x) :: l) (st) h = wps rm K Q c_Frac_become_30 kc ks (some (.ref x) :: l) (.ref x :: st) h := gk_aload rfl
theorem s_Frac_become_30 {x : Int64} {l0 l1 l2 : Option Value} {l : eg_Lo} : wps rm K Q c_Frac_become_30 kc ks (l0 :: l1 :: l2 :: some (.long x) :: l) (st) h = wps rm K Q c_Frac_become_31 kc ks (l0 :: l1 :: l2 :: some (.long x) :: l) (.long x :: st) h := gk_lload rfl
theorem s_Frac_become_31 {x : Int64} {l0 l1 l2 l3 l4 : Option Value} {l : eg_Lo} : wps rm K Q c_Frac_become_31 kc ks (l0 :: l1 :: l2 :: l3 :: l4 :: some (.long x) :: l) (st) h = wps rm K Q c_Frac_become_33 kc ks (l0 :: l1 :: l2 :: l3 :: l4 :: some (.long x) :: l) (.long x :: st) h := gk_lload rfl
theorem s_Frac_become_33 {x y : Int64} : wps rm K Q c_Frac_become_33 kc ks loc (.long y :: .long x :: st) h = (¬ y = 0 ∧ wps rm K Q c_Frac_become_34 kc ks loc (.long (x / y) :: st) h) := gk_ldiv
theorem s_Frac_become_34 {x : Nat} {v : Value} : wps rm K Q c_Frac_become_34 kc ks loc (v :: .ref (x + 1) :: st) h = eg_pf h x 4 1 v (fun h9 => wps rm K Q c_Frac_become_37 kc ks loc (st) h9) := gk_pf
theorem s_Frac_become_37  : wps rm K Q c_Frac_become_37 kc ks loc ([]) h = (kc = rm.cells ∧ Q none h) := gk_vret
def T_Frac_become : List (Nat × List eg_I) := [(20, c_Frac_become_20), (21, c_Frac_become_21)]
theorem j_Frac_become_20 {R : Nat → Nat → Nat → eg_Lo → List Value → List eg_E → Prop} {f pc0 : Nat} : eg_run rm R Q T_Frac_become (f + 1) 20 kc ks loc st h = wps rm (eg_run rm R Q T_Frac_become f) Q c_Frac_become_20 kc ks loc st h := rfl
theorem j_Frac_become_21 {R : Nat → Nat → Nat → eg_Lo → List Value → List eg_E → Prop} {f pc0 : Nat} : eg_run rm R Q T_Frac_become (f + 1) 21 kc ks loc st h = wps rm (eg_run rm R Q T_Frac_become f) Q c_Frac_become_21 kc ks loc st h := rfl
end
theorem y_Frac_become_0 : eg_seq m_Frac_become 0 c_Frac_become_0 = true := by decide +kernel
theorem y_Frac_become_21 : eg_seq m_Frac_become 21 c_Frac_become_21 = true := by decide +kernel
theorem q_Frac_become : ∀ q ∈ T_Frac_become, eg_seq m_Frac_become q.1 q.2 = true := by
  intro q hq
  simp only [T_Frac_become, List.mem_cons, List.not_mem_nil, or_false] at hq
  rcases hq with rfl | rfl
  · exact (eg_seq_drop y_Frac_become_0 12 : eg_seq m_Frac_become 20 c_Frac_become_20 = true)
  · exact y_Frac_become_21
theorem b_Frac_become {as : List Value} {h : List eg_E} {Q : Option Value → List eg_E → Prop} (hf : (eg_fl as).length ≤ 7) (hw : wps (eg_rm m_Frac_become) (eg_run (eg_rm m_Frac_become) (eg_R m_Frac_become Q (h.length + 0)) Q T_Frac_become 4) Q c_Frac_become_0 0 0 (eg_entry 7 as) [] h) : eg_Runs n_Frac_become as h Q := eg_begin2 (d := m_Frac_become) rfl (by decide) y_Frac_become_0 q_Frac_become hf hw
/-! ===== Frac_side ===== -/
def c_Frac_side_15 : List eg_I := .inl (15, 1, .lreturn, 0, 0) :: []
def c_Frac_side_12 : List eg_I := .inl (12, 3, .getfield 17, 4, 0) :: c_Frac_side_15
def c_Frac_side_11 : List eg_I := .inl (11, 1, .aload 0, 0, 0) :: c_Frac_side_12
def c_Frac_side_8 : List eg_I := .inl (8, 3, .goto (7), 15, 0) :: []
def c_Frac_side_5 : List eg_I := .inl (5, 3, .getfield 7, 4, 1) :: c_Frac_side_8
def c_Frac_side_4 : List eg_I := .inl (4, 1, .aload 0, 0, 0) :: c_Frac_side_5
def c_Frac_side_1 : List eg_I := .inl (1, 3, .ifCond .eq (10), 11, 0) :: c_Frac_side_4
def c_Frac_side_0 : List eg_I := .inl (0, 1, .iload 1, 0, 0) :: c_Frac_side_1
section
variable {rm : Room} {K : Nat → Nat → Nat → eg_Lo → List Value → List eg_E → Prop} {Q : Option Value → List eg_E → Prop} {kc ks : Nat} {loc : eg_Lo} {st : List Value} {h : List eg_E}
theorem s_Frac_side_0 {x : Int32} {l0 : Option Value} {l : eg_Lo} : wps rm K Q c_Frac_side_0 kc ks (l0 :: some (.int x) :: l) (st) h = wps rm K Q c_Frac_side_1 kc ks (l0 :: some (.int x) :: l) (.int x :: st) h := gk_iload rfl
theorem s_Frac_side_1 {x : Int32} : wps rm K Q c_Frac_side_1 kc ks loc (.int x :: st) h = ((x = 0 → K 11 kc ks loc st h) ∧ (¬ x = 0 → wps rm K Q c_Frac_side_4 kc ks loc (st) h)) := gk_if1_eq
theorem s_Frac_side_4 {x : Nat} {l : eg_Lo} : wps rm K Q c_Frac_side_4 kc ks (some (.ref x) :: l) (st) h = wps rm K Q c_Frac_side_5 kc ks (some (.ref x) :: l) (.ref x :: st) h := gk_aload rfl
theorem s_Frac_side_5 {x : Nat} : wps rm K Q c_Frac_side_5 kc ks loc (.ref (x + 1) :: st) h = eg_gf h x 4 1 (fun v => wps rm K Q c_Frac_side_8 kc ks loc (v :: st) h) := gk_gf
theorem s_Frac_side_8  : wps rm K Q c_Frac_side_8 kc ks loc (st) h = K 15 kc ks loc st h := gk_goto
theorem s_Frac_side_11 {x : Nat} {l : eg_Lo} : wps rm K Q c_Frac_side_11 kc ks (some (.ref x) :: l) (st) h = wps rm K Q c_Frac_side_12 kc ks (some (.ref x) :: l) (.ref x :: st) h := gk_aload rfl
theorem s_Frac_side_12 {x : Nat} : wps rm K Q c_Frac_side_12 kc ks loc (.ref (x + 1) :: st) h = eg_gf h x 4 0 (fun v => wps rm K Q c_Frac_side_15 kc ks loc (v :: st) h) := gk_gf
theorem s_Frac_side_15 {x : Int64} : wps rm K Q c_Frac_side_15 kc ks loc ([.long x]) h = (kc = rm.cells ∧ Q (some (.long x)) h) := gk_lret
def T_Frac_side : List (Nat × List eg_I) := [(11, c_Frac_side_11), (15, c_Frac_side_15)]
theorem j_Frac_side_11 {R : Nat → Nat → Nat → eg_Lo → List Value → List eg_E → Prop} {f pc0 : Nat} : eg_run rm R Q T_Frac_side (f + 1) 11 kc ks loc st h = wps rm (eg_run rm R Q T_Frac_side f) Q c_Frac_side_11 kc ks loc st h := rfl
theorem j_Frac_side_15 {R : Nat → Nat → Nat → eg_Lo → List Value → List eg_E → Prop} {f pc0 : Nat} : eg_run rm R Q T_Frac_side (f + 1) 15 kc ks loc st h = wps rm (eg_run rm R Q T_Frac_side f) Q c_Frac_side_15 kc ks loc st h := rfl
end
theorem y_Frac_side_0 : eg_seq m_Frac_side 0 c_Frac_side_0 = true := by decide +kernel
theorem y_Frac_side_11 : eg_seq m_Frac_side 11 c_Frac_side_11 = true := by decide +kernel
theorem q_Frac_side : ∀ q ∈ T_Frac_side, eg_seq m_Frac_side q.1 q.2 = true := by
  intro q hq
  simp only [T_Frac_side, List.mem_cons, List.not_mem_nil, or_false] at hq
  rcases hq with rfl | rfl
  · exact y_Frac_side_11
  · exact (eg_seq_drop y_Frac_side_11 2 : eg_seq m_Frac_side 15 c_Frac_side_15 = true)
theorem b_Frac_side {as : List Value} {h : List eg_E} {Q : Option Value → List eg_E → Prop} (hf : (eg_fl as).length ≤ 2) (hw : wps (eg_rm m_Frac_side) (eg_run (eg_rm m_Frac_side) (eg_R m_Frac_side Q (h.length + 0)) Q T_Frac_side 4) Q c_Frac_side_0 0 0 (eg_entry 2 as) [] h) : eg_Runs n_Frac_side as h Q := eg_begin2 (d := m_Frac_side) rfl (by decide) y_Frac_side_0 q_Frac_side hf hw
/-! ===== Frac_commonMeasure ===== -/
def z_Frac_commonMeasure_15 : List eg_I := [.inl (15, 0, .nop, 0, 0)]
def c_Frac_commonMeasure_52 : List eg_I := .inl (52, 1, .lreturn, 0, 0) :: []
def c_Frac_commonMeasure_50 : List eg_I := .inl (50, 2, .lload 4, 0, 0) :: c_Frac_commonMeasure_52
def c_Frac_commonMeasure_47 : List eg_I := .inl (47, 3, .goto (-32), 15, 0) :: []
def c_Frac_commonMeasure_44 : List eg_I := .inl (44, 3, .iinc 8 (1), 0, 0) :: c_Frac_commonMeasure_47
def c_Frac_commonMeasure_42 : List eg_I := .inl (42, 2, .lstore 6, 0, 0) :: c_Frac_commonMeasure_44
def c_Frac_commonMeasure_40 : List eg_I := .inl (40, 2, .lload 9, 0, 0) :: c_Frac_commonMeasure_42
def c_Frac_commonMeasure_38 : List eg_I := .inl (38, 2, .lstore 4, 0, 0) :: c_Frac_commonMeasure_40
def c_Frac_commonMeasure_36 : List eg_I := .inl (36, 2, .lload 6, 0, 0) :: c_Frac_commonMeasure_38
def c_Frac_commonMeasure_34 : List eg_I := .inl (34, 2, .lstore 9, 0, 0) :: c_Frac_commonMeasure_36
def c_Frac_commonMeasure_33 : List eg_I := .inl (33, 1, .lrem, 0, 0) :: c_Frac_commonMeasure_34
def c_Frac_commonMeasure_31 : List eg_I := .inl (31, 2, .lload 6, 0, 0) :: c_Frac_commonMeasure_33
def c_Frac_commonMeasure_29 : List eg_I := .inl (29, 2, .lload 4, 0, 0) :: c_Frac_commonMeasure_31
def c_Frac_commonMeasure_26 : List eg_I := .inl (26, 3, .ifCond .eq (24), 50, 0) :: c_Frac_commonMeasure_29
def c_Frac_commonMeasure_25 : List eg_I := .inl (25, 1, .lcmp, 0, 0) :: c_Frac_commonMeasure_26
def c_Frac_commonMeasure_24 : List eg_I := .inl (24, 1, .sipush (0), 0, 0) :: c_Frac_commonMeasure_25
def c_Frac_commonMeasure_22 : List eg_I := .inl (22, 2, .lload 6, 0, 0) :: c_Frac_commonMeasure_24
def c_Frac_commonMeasure_19 : List eg_I := .inl (19, 3, .if_icmp .ge (31), 50, 0) :: c_Frac_commonMeasure_22
def c_Frac_commonMeasure_17 : List eg_I := .inl (17, 2, .iconst (100), 0, 0) :: c_Frac_commonMeasure_19
def c_Frac_commonMeasure_15 : List eg_I := .inl (15, 2, .iload 8, 0, 0) :: c_Frac_commonMeasure_17
def c_Frac_commonMeasure_13 : List eg_I := .inl (13, 2, .istore 8, 0, 0) :: z_Frac_commonMeasure_15
def c_Frac_commonMeasure_12 : List eg_I := .inl (12, 1, .iconst (0), 0, 0) :: c_Frac_commonMeasure_13
def c_Frac_commonMeasure_10 : List eg_I := .inl (10, 2, .lstore 6, 0, 0) :: c_Frac_commonMeasure_12
def c_Frac_commonMeasure_7 : List eg_I := .inr (7, 0, 20, n_Math_abs_J, 1, 13, 0, 0) :: c_Frac_commonMeasure_10
def c_Frac_commonMeasure_6 : List eg_I := .inl (6, 1, .lload 2, 0, 0) :: c_Frac_commonMeasure_7
def c_Frac_commonMeasure_4 : List eg_I := .inl (4, 2, .lstore 4, 0, 0) :: c_Frac_commonMeasure_6
def c_Frac_commonMeasure_1 : List eg_I := .inr (1, 0, 20, n_Math_abs_J, 1, 13, 0, 0) :: c_Frac_commonMeasure_4
def c_Frac_commonMeasure_0 : List eg_I := .inl (0, 1, .lload 0, 0, 0) :: c_Frac_commonMeasure_1
section
variable {rm : Room} {K : Nat → Nat → Nat → eg_Lo → List Value → List eg_E → Prop} {Q : Option Value → List eg_E → Prop} {kc ks : Nat} {loc : eg_Lo} {st : List Value} {h : List eg_E}
theorem s_Frac_commonMeasure_0 {x : Int64} {l : eg_Lo} : wps rm K Q c_Frac_commonMeasure_0 kc ks (some (.long x) :: l) (st) h = wps rm K Q c_Frac_commonMeasure_1 kc ks (some (.long x) :: l) (.long x :: st) h := gk_lload rfl
theorem s_Frac_commonMeasure_1  {a1 : Value} : wps rm K Q c_Frac_commonMeasure_1 kc ks loc (a1 :: st) h = (st.length ≤ 4 ∧ eg_Cs n_Math_abs_J [a1] h (fun v h9 => wps rm K Q c_Frac_commonMeasure_4 kc ks loc (v.toList ++ st) h9)) := eg_c0_1
theorem s_Frac_commonMeasure_4 {x : Int64} : wps rm K Q c_Frac_commonMeasure_4 kc ks loc (.long x :: st) h = wps rm K Q c_Frac_commonMeasure_6 kc ks (eg_set2 loc 4 (.long x)) (st) h := gk_lstore
theorem s_Frac_commonMeasure_6 {x : Int64} {l0 l1 : Option Value} {l : eg_Lo} : wps rm K Q c_Frac_commonMeasure_6 kc ks (l0 :: l1 :: some (.long x) :: l) (st) h = wps rm K Q c_Frac_commonMeasure_7 kc ks (l0 :: l1 :: some (.long x) :: l) (.long x :: st) h := gk_lload rfl
theorem s_Frac_commonMeasure_7  {a1 : Value} : wps rm K Q c_Frac_commonMeasure_7 kc ks loc (a1 :: st) h = (st.length ≤ 4 ∧ eg_Cs n_Math_abs_J [a1] h (fun v h9 => wps rm K Q c_Frac_commonMeasure_10 kc ks loc (v.toList ++ st) h9)) := eg_c0_1
theorem s_Frac_commonMeasure_10 {x : Int64} : wps rm K Q c_Frac_commonMeasure_10 kc ks loc (.long x :: st) h = wps rm K Q c_Frac_commonMeasure_12 kc ks (eg_set2 loc 6 (.long x)) (st) h := gk_lstore
theorem s_Frac_commonMeasure_12  : wps rm K Q c_Frac_commonMeasure_12 kc ks loc (st) h = wps rm K Q c_Frac_commonMeasure_13 kc ks loc (.int (0) :: st) h := gk_ic (by decide)
theorem s_Frac_commonMeasure_13 {x : Int32} : wps rm K Q c_Frac_commonMeasure_13 kc ks loc (.int x :: st) h = wps rm K Q z_Frac_commonMeasure_15 kc ks (eg_set1 loc 8 (.int x)) (st) h := gk_istore
theorem s_Frac_commonMeasure_15 {x : Int32} {l0 l1 l2 l3 l4 l5 l6 l7 : Option Value} {l : eg_Lo} : wps rm K Q c_Frac_commonMeasure_15 kc ks (l0 :: l1 :: l2 :: l3 :: l4 :: l5 :: l6 :: l7 :: some (.int x) :: l) (st) h = wps rm K Q c_Frac_commonMeasure_17 kc ks (l0 :: l1 :: l2 :: l3 :: l4 :: l5 :: l6 :: l7 :: some (.int x) :: l) (.int x :: st) h := gk_iload rfl
theorem s_Frac_commonMeasure_17  : wps rm K Q c_Frac_commonMeasure_17 kc ks loc (st) h = wps rm K Q c_Frac_commonMeasure_19 kc ks loc (.int (100) :: st) h := gk_ic (by decide)
theorem s_Frac_commonMeasure_19 {x y : Int32} : wps rm K Q c_Frac_commonMeasure_19 kc ks loc (.int y :: .int x :: st) h = ((y ≤ x → K 50 kc ks loc st h) ∧ (¬ y ≤ x → wps rm K Q c_Frac_commonMeasure_22 kc ks loc (st) h)) := gk_if2_ge
theorem s_Frac_commonMeasure_22 {x : Int64} {l0 l1 l2 l3 l4 l5 : Option Value} {l : eg_Lo} : wps rm K Q c_Frac_commonMeasure_22 kc ks (l0 :: l1 :: l2 :: l3 :: l4 :: l5 :: some (.long x) :: l) (st) h = wps rm K Q c_Frac_commonMeasure_24 kc ks (l0 :: l1 :: l2 :: l3 :: l4 :: l5 :: some (.long x) :: l) (.long x :: st) h := gk_lload rfl
theorem s_Frac_commonMeasure_24  : wps rm K Q c_Frac_commonMeasure_24 kc ks loc (st) h = wps rm K Q c_Frac_commonMeasure_25 kc ks loc (.long (0) :: st) h := gk_lc (by decide)
theorem s_Frac_commonMeasure_25 {x y : Int64} : wps rm K Q c_Frac_commonMeasure_25 kc ks loc (.long y :: .long x :: st) h = wps rm K Q c_Frac_commonMeasure_26 kc ks loc (.int (lg_cmp x y) :: st) h := gk_lcmp
theorem s_Frac_commonMeasure_26 {x : Int32} : wps rm K Q c_Frac_commonMeasure_26 kc ks loc (.int x :: st) h = ((x = 0 → K 50 kc ks loc st h) ∧ (¬ x = 0 → wps rm K Q c_Frac_commonMeasure_29 kc ks loc (st) h)) := gk_if1_eq
theorem s_Frac_commonMeasure_29 {x : Int64} {l0 l1 l2 l3 : Option Value} {l : eg_Lo} : wps rm K Q c_Frac_commonMeasure_29 kc ks (l0 :: l1 :: l2 :: l3 :: some (.long x) :: l) (st) h = wps rm K Q c_Frac_commonMeasure_31 kc ks (l0 :: l1 :: l2 :: l3 :: some (.long x) :: l) (.long x :: st) h := gk_lload rfl
theorem s_Frac_commonMeasure_31 {x : Int64} {l0 l1 l2 l3 l4 l5 : Option Value} {l : eg_Lo} : wps rm K Q c_Frac_commonMeasure_31 kc ks (l0 :: l1 :: l2 :: l3 :: l4 :: l5 :: some (.long x) :: l) (st) h = wps rm K Q c_Frac_commonMeasure_33 kc ks (l0 :: l1 :: l2 :: l3 :: l4 :: l5 :: some (.long x) :: l) (.long x :: st) h := gk_lload rfl
theorem s_Frac_commonMeasure_33 {x y : Int64} : wps rm K Q c_Frac_commonMeasure_33 kc ks loc (.long y :: .long x :: st) h = (¬ y = 0 ∧ wps rm K Q c_Frac_commonMeasure_34 kc ks loc (.long (x - x / y * y) :: st) h) := gk_lrem
theorem s_Frac_commonMeasure_34 {x : Int64} : wps rm K Q c_Frac_commonMeasure_34 kc ks loc (.long x :: st) h = wps rm K Q c_Frac_commonMeasure_36 kc ks (eg_set2 loc 9 (.long x)) (st) h := gk_lstore
theorem s_Frac_commonMeasure_36 {x : Int64} {l0 l1 l2 l3 l4 l5 : Option Value} {l : eg_Lo} : wps rm K Q c_Frac_commonMeasure_36 kc ks (l0 :: l1 :: l2 :: l3 :: l4 :: l5 :: some (.long x) :: l) (st) h = wps rm K Q c_Frac_commonMeasure_38 kc ks (l0 :: l1 :: l2 :: l3 :: l4 :: l5 :: some (.long x) :: l) (.long x :: st) h := gk_lload rfl
theorem s_Frac_commonMeasure_38 {x : Int64} : wps rm K Q c_Frac_commonMeasure_38 kc ks loc (.long x :: st) h = wps rm K Q c_Frac_commonMeasure_40 kc ks (eg_set2 loc 4 (.long x)) (st) h := gk_lstore
theorem s_Frac_commonMeasure_40 {x : Int64} {l0 l1 l2 l3 l4 l5 l6 l7 l8 : Option Value} {l : eg_Lo} : wps rm K Q c_Frac_commonMeasure_40 kc ks (l0 :: l1 :: l2 :: l3 :: l4 :: l5 :: l6 :: l7 :: l8 :: some (.long x) :: l) (st) h = wps rm K Q c_Frac_commonMeasure_42 kc ks (l0 :: l1 :: l2 :: l3 :: l4 :: l5 :: l6 :: l7 :: l8 :: some (.long x) :: l) (.long x :: st) h := gk_lload rfl
theorem s_Frac_commonMeasure_42 {x : Int64} : wps rm K Q c_Frac_commonMeasure_42 kc ks loc (.long x :: st) h = wps rm K Q c_Frac_commonMeasure_44 kc ks (eg_set2 loc 6 (.long x)) (st) h := gk_lstore
theorem s_Frac_commonMeasure_44 {x : Int32} {l0 l1 l2 l3 l4 l5 l6 l7 : Option Value} {lz : eg_Lo} : wps rm K Q c_Frac_commonMeasure_44 kc ks (l0 :: l1 :: l2 :: l3 :: l4 :: l5 :: l6 :: l7 :: some (.int x) :: lz) (st) h = wps rm K Q c_Frac_commonMeasure_47 kc ks (eg_set1 (l0 :: l1 :: l2 :: l3 :: l4 :: l5 :: l6 :: l7 :: some (.int x) :: lz) 8 (.int (x + (1)))) (st) h := gk_iinc rfl (by decide)
theorem s_Frac_commonMeasure_47  : wps rm K Q c_Frac_commonMeasure_47 kc ks loc (st) h = K 15 kc ks loc st h := gk_goto
theorem s_Frac_commonMeasure_50 {x : Int64} {l0 l1 l2 l3 : Option Value} {l : eg_Lo} : wps rm K Q c_Frac_commonMeasure_50 kc ks (l0 :: l1 :: l2 :: l3 :: some (.long x) :: l) (st) h = wps rm K Q c_Frac_commonMeasure_52 kc ks (l0 :: l1 :: l2 :: l3 :: some (.long x) :: l) (.long x :: st) h := gk_lload rfl
theorem s_Frac_commonMeasure_52 {x : Int64} : wps rm K Q c_Frac_commonMeasure_52 kc ks loc ([.long x]) h = (kc = rm.cells ∧ Q (some (.long x)) h) := gk_lret
theorem sz_Frac_commonMeasure_15 : wps rm K Q z_Frac_commonMeasure_15 kc ks loc st h = K 15 kc ks loc st h := gk_nop
def T_Frac_commonMeasure : List (Nat × List eg_I) := [(50, c_Frac_commonMeasure_50)]
theorem j_Frac_commonMeasure_50 {R : Nat → Nat → Nat → eg_Lo → List Value → List eg_E → Prop} {f pc0 : Nat} : eg_run rm R Q T_Frac_commonMeasure (f + 1) 50 kc ks loc st h = wps rm (eg_run rm R Q T_Frac_commonMeasure f) Q c_Frac_commonMeasure_50 kc ks loc st h := rfl
theorem j_Frac_commonMeasure_15 {R : Nat → Nat → Nat → eg_Lo → List Value → List eg_E → Prop} {f pc0 : Nat} : eg_run rm R Q T_Frac_commonMeasure (f + 1) 15 kc ks loc st h = R 15 kc ks loc st h := rfl
end
theorem y_Frac_commonMeasure_0 : eg_seq m_Frac_commonMeasure 0 c_Frac_commonMeasure_0 = true := by decide +kernel
theorem y_Frac_commonMeasure_15 : eg_seq m_Frac_commonMeasure 15 c_Frac_commonMeasure_15 = true := by decide +kernel
theorem y_Frac_commonMeasure_50 : eg_seq m_Frac_commonMeasure 50 c_Frac_commonMeasure_50 = true := by decide +kernel
theorem q_Frac_commonMeasure : ∀ q ∈ T_Frac_commonMeasure, eg_seq m_Frac_commonMeasure q.1 q.2 = true := by
  intro q hq
  simp only [T_Frac_commonMeasure, List.mem_cons, List.not_mem_nil, or_false] at hq
  rcases hq with rfl
  · exact y_Frac_commonMeasure_50
theorem b_Frac_commonMeasure {as : List Value} {h : List eg_E} {Q : Option Value → List eg_E → Prop} (hf : (eg_fl as).length ≤ 11) (hw : wps (eg_rm m_Frac_commonMeasure) (eg_run (eg_rm m_Frac_commonMeasure) (eg_R m_Frac_commonMeasure Q (h.length + 0)) Q T_Frac_commonMeasure 3) Q c_Frac_commonMeasure_0 0 0 (eg_entry 11 as) [] h) : eg_Runs n_Frac_commonMeasure as h Q := eg_begin2 (d := m_Frac_commonMeasure) rfl (by decide) y_Frac_commonMeasure_0 q_Frac_commonMeasure hf hw
theorem p_Frac_commonMeasure_15 {Q : Option Value → List eg_E → Prop} {n0 kc ks : Nat} {loc : eg_Lo} {st : List Value} {h : List eg_E} (hw : wps (eg_rm m_Frac_commonMeasure) (eg_run (eg_rm m_Frac_commonMeasure) (eg_R m_Frac_commonMeasure Q n0) Q T_Frac_commonMeasure 3) Q c_Frac_commonMeasure_15 kc ks loc st h) : eg_R m_Frac_commonMeasure Q n0 15 kc ks loc st h := eg_go2 y_Frac_commonMeasure_15 q_Frac_commonMeasure hw
/-! ===== Frac_isLess ===== -/
def z_Frac_isLess_3 : List eg_I := [.inl (3, 0, .nop, 0, 0)]
def c_Frac_isLess_125 : List eg_I := .inl (125, 1, .ireturn, 0, 1) :: []
def c_Frac_isLess_124 : List eg_I := .inl (124, 1, .iconst (0), 0, 0) :: c_Frac_isLess_125
def c_Frac_isLess_121 : List eg_I := .inl (121, 3, .goto (-118), 3, 0) :: []
def c_Frac_isLess_118 : List eg_I := .inl (118, 3, .iinc 8 (1), 0, 0) :: c_Frac_isLess_121
def c_Frac_isLess_116 : List eg_I := .inl (116, 2, .lstore 6, 0, 0) :: c_Frac_isLess_118
def c_Frac_isLess_114 : List eg_I := .inl (114, 2, .lload 13, 0, 0) :: c_Frac_isLess_116
def c_Frac_isLess_113 : List eg_I := .inl (113, 1, .lstore 2, 0, 0) :: c_Frac_isLess_114
def c_Frac_isLess_111 : List eg_I := .inl (111, 2, .lload 15, 0, 0) :: c_Frac_isLess_113
def c_Frac_isLess_109 : List eg_I := .inl (109, 2, .lstore 4, 0, 0) :: c_Frac_isLess_111
def c_Frac_isLess_108 : List eg_I := .inl (108, 1, .lload 2, 0, 0) :: c_Frac_isLess_109
def c_Frac_isLess_107 : List eg_I := .inl (107, 1, .lstore 0, 0, 0) :: c_Frac_isLess_108
def c_Frac_isLess_105 : List eg_I := .inl (105, 2, .lload 6, 0, 0) :: c_Frac_isLess_107
def c_Frac_isLess_104 : List eg_I := .inl (104, 1, .ireturn, 0, 1) :: []
def c_Frac_isLess_103 : List eg_I := .inl (103, 1, .iconst (0), 0, 0) :: c_Frac_isLess_104
def c_Frac_isLess_100 : List eg_I := .inl (100, 3, .goto (4), 104, 0) :: []
def c_Frac_isLess_99 : List eg_I := .inl (99, 1, .iconst (1), 0, 0) :: c_Frac_isLess_100
def c_Frac_isLess_96 : List eg_I := .inl (96, 3, .ifCond .ge (7), 103, 0) :: c_Frac_isLess_99
def c_Frac_isLess_95 : List eg_I := .inl (95, 1, .lcmp, 0, 0) :: c_Frac_isLess_96
def c_Frac_isLess_93 : List eg_I := .inl (93, 2, .lload 15, 0, 0) :: c_Frac_isLess_95
def c_Frac_isLess_91 : List eg_I := .inl (91, 2, .lload 13, 0, 0) :: c_Frac_isLess_93
def c_Frac_isLess_88 : List eg_I := .inl (88, 3, .ifCond .ne (17), 105, 0) :: c_Frac_isLess_91
def c_Frac_isLess_87 : List eg_I := .inl (87, 1, .lcmp, 0, 0) :: c_Frac_isLess_88
def c_Frac_isLess_86 : List eg_I := .inl (86, 1, .sipush (0), 0, 0) :: c_Frac_isLess_87
def c_Frac_isLess_84 : List eg_I := .inl (84, 2, .lload 15, 0, 0) :: c_Frac_isLess_86
def c_Frac_isLess_81 : List eg_I := .inl (81, 3, .ifCond .eq (10), 91, 0) :: c_Frac_isLess_84
def c_Frac_isLess_80 : List eg_I := .inl (80, 1, .lcmp, 0, 0) :: c_Frac_isLess_81
def c_Frac_isLess_79 : List eg_I := .inl (79, 1, .sipush (0), 0, 0) :: c_Frac_isLess_80
def c_Frac_isLess_77 : List eg_I := .inl (77, 2, .lload 13, 0, 0) :: c_Frac_isLess_79
def c_Frac_isLess_75 : List eg_I := .inl (75, 2, .lstore 15, 0, 0) :: c_Frac_isLess_77
def c_Frac_isLess_74 : List eg_I := .inl (74, 1, .lsub, 0, 0) :: c_Frac_isLess_75
def c_Frac_isLess_73 : List eg_I := .inl (73, 1, .lmul, 0, 0) :: c_Frac_isLess_74
def c_Frac_isLess_71 : List eg_I := .inl (71, 2, .lload 6, 0, 0) :: c_Frac_isLess_73
def c_Frac_isLess_69 : List eg_I := .inl (69, 2, .lload 11, 0, 0) :: c_Frac_isLess_71
def c_Frac_isLess_67 : List eg_I := .inl (67, 2, .lload 4, 0, 0) :: c_Frac_isLess_69
def c_Frac_isLess_65 : List eg_I := .inl (65, 2, .lstore 13, 0, 0) :: c_Frac_isLess_67
def c_Frac_isLess_64 : List eg_I := .inl (64, 1, .lsub, 0, 0) :: c_Frac_isLess_65
def c_Frac_isLess_63 : List eg_I := .inl (63, 1, .lmul, 0, 0) :: c_Frac_isLess_64
def c_Frac_isLess_62 : List eg_I := .inl (62, 1, .lload 2, 0, 0) :: c_Frac_isLess_63
def c_Frac_isLess_60 : List eg_I := .inl (60, 2, .lload 9, 0, 0) :: c_Frac_isLess_62
def c_Frac_isLess_59 : List eg_I := .inl (59, 1, .lload 0, 0, 0) :: c_Frac_isLess_60
def c_Frac_isLess_58 : List eg_I := .inl (58, 1, .ireturn, 0, 1) :: []
def c_Frac_isLess_57 : List eg_I := .inl (57, 1, .iconst (0), 0, 0) :: c_Frac_isLess_58
def c_Frac_isLess_54 : List eg_I := .inl (54, 3, .goto (4), 58, 0) :: []
def c_Frac_isLess_53 : List eg_I := .inl (53, 1, .iconst (1), 0, 0) :: c_Frac_isLess_54
def c_Frac_isLess_50 : List eg_I := .inl (50, 3, .ifCond .ge (7), 57, 0) :: c_Frac_isLess_53
def c_Frac_isLess_49 : List eg_I := .inl (49, 1, .lcmp, 0, 0) :: c_Frac_isLess_50
def c_Frac_isLess_47 : List eg_I := .inl (47, 2, .lload 11, 0, 0) :: c_Frac_isLess_49
def c_Frac_isLess_45 : List eg_I := .inl (45, 2, .lload 9, 0, 0) :: c_Frac_isLess_47
def c_Frac_isLess_42 : List eg_I := .inl (42, 3, .ifCond .eq (17), 59, 0) :: c_Frac_isLess_45
def c_Frac_isLess_41 : List eg_I := .inl (41, 1, .lcmp, 0, 0) :: c_Frac_isLess_42
def c_Frac_isLess_39 : List eg_I := .inl (39, 2, .lload 11, 0, 0) :: c_Frac_isLess_41
def c_Frac_isLess_37 : List eg_I := .inl (37, 2, .lload 9, 0, 0) :: c_Frac_isLess_39
def c_Frac_isLess_35 : List eg_I := .inl (35, 2, .lstore 11, 0, 0) :: c_Frac_isLess_37
def c_Frac_isLess_34 : List eg_I := .inl (34, 1, .ldiv, 0, 0) :: c_Frac_isLess_35
def c_Frac_isLess_32 : List eg_I := .inl (32, 2, .lload 6, 0, 0) :: c_Frac_isLess_34
def c_Frac_isLess_30 : List eg_I := .inl (30, 2, .lload 4, 0, 0) :: c_Frac_isLess_32
def c_Frac_isLess_28 : List eg_I := .inl (28, 2, .lstore 9, 0, 0) :: c_Frac_isLess_30
def c_Frac_isLess_27 : List eg_I := .inl (27, 1, .ldiv, 0, 0) :: c_Frac_isLess_28
def c_Frac_isLess_26 : List eg_I := .inl (26, 1, .lload 2, 0, 0) :: c_Frac_isLess_27
def c_Frac_isLess_25 : List eg_I := .inl (25, 1, .lload 0, 0, 0) :: c_Frac_isLess_26
def c_Frac_isLess_24 : List eg_I := .inl (24, 1, .ireturn, 0, 1) :: []
def c_Frac_isLess_23 : List eg_I := .inl (23, 1, .iconst (0), 0, 0) :: c_Frac_isLess_24
def c_Frac_isLess_20 : List eg_I := .inl (20, 3, .ifCond .ne (5), 25, 0) :: c_Frac_isLess_23
def c_Frac_isLess_19 : List eg_I := .inl (19, 1, .lcmp, 0, 0) :: c_Frac_isLess_20
def c_Frac_isLess_18 : List eg_I := .inl (18, 1, .sipush (0), 0, 0) :: c_Frac_isLess_19
def c_Frac_isLess_16 : List eg_I := .inl (16, 2, .lload 6, 0, 0) :: c_Frac_isLess_18
def c_Frac_isLess_13 : List eg_I := .inl (13, 3, .ifCond .eq (10), 23, 0) :: c_Frac_isLess_16
def c_Frac_isLess_12 : List eg_I := .inl (12, 1, .lcmp, 0, 0) :: c_Frac_isLess_13
def c_Frac_isLess_11 : List eg_I := .inl (11, 1, .sipush (0), 0, 0) :: c_Frac_isLess_12
def c_Frac_isLess_10 : List eg_I := .inl (10, 1, .lload 2, 0, 0) :: c_Frac_isLess_11
def c_Frac_isLess_7 : List eg_I := .inl (7, 3, .if_icmp .ge (117), 124, 0) :: c_Frac_isLess_10
def c_Frac_isLess_5 : List eg_I := .inl (5, 2, .iconst (100), 0, 0) :: c_Frac_isLess_7
def c_Frac_isLess_3 : List eg_I := .inl (3, 2, .iload 8, 0, 0) :: c_Frac_isLess_5
def c_Frac_isLess_1 : List eg_I := .inl (1, 2, .istore 8, 0, 0) :: z_Frac_isLess_3
def c_Frac_isLess_0 : List eg_I := .inl (0, 1, .iconst (0), 0, 0) :: c_Frac_isLess_1
section
variable {rm : Room} {K : Nat → Nat → Nat → eg_Lo → List Value → List eg_E → Prop} {Q : Option Value → List eg_E → Prop} {kc ks : Nat} {loc : eg_Lo} {st : List Value} {h : List eg_E}
theorem s_Frac_isLess_0  : wps rm K Q c_Frac_isLess_0 kc ks loc (st) h = wps rm K Q c_Frac_isLess_1 kc ks loc (.int (0) :: st) h := gk_ic (by decide)
theorem s_Frac_isLess_1 {x : Int32} : wps rm K Q c_Frac_isLess_1 kc ks loc (.int x :: st) h = wps rm K Q z_Frac_isLess_3 kc ks (eg_set1 loc 8 (.int x)) (st) h := gk_istore
theorem s_Frac_isLess_3 {x : Int32} {l0 l1 l2 l3 l4 l5 l6 l7 : Option Value} {l : eg_Lo} : wps rm K Q c_Frac_isLess_3 kc ks (l0 :: l1 :: l2 :: l3 :: l4 :: l5 :: l6 :: l7 :: some (.int x) :: l) (st) h = wps rm K Q c_Frac_isLess_5 kc ks (l0 :: l1 :: l2 :: l3 :: l4 :: l5 :: l6 :: l7 :: some (.int x) :: l) (.int x :: st) h := gk_iload rfl
theorem s_Frac_isLess_5  : wps rm K Q c_Frac_isLess_5 kc ks loc (st) h = wps rm K Q c_Frac_isLess_7 kc ks loc (.int (100) :: st) h := gk_ic (by decide)
theorem s_Frac_isLess_7 {x y : Int32} : wps rm K Q c_Frac_isLess_7 kc ks loc (.int y :: .int x :: st) h = ((y ≤ x → K 124 kc ks loc st h) ∧ (¬ y ≤ x → wps rm K Q c_Frac_isLess_10 kc ks loc (st) h)) := gk_if2_ge
theorem s_Frac_isLess_10 {x : Int64} {l0 l1 : Option Value} {l : eg_Lo} : wps rm K Q c_Frac_isLess_10 kc ks (l0 :: l1 :: some (.long x) :: l) (st) h = wps rm K Q c_Frac_isLess_11 kc ks (l0 :: l1 :: some (.long x) :: l) (.long x :: st) h := gk_lload rfl
theorem s_Frac_isLess_11  : wps rm K Q c_Frac_isLess_11 kc ks loc (st) h = wps rm K Q c_Frac_isLess_12 kc ks loc (.long (0) :: st) h := gk_lc (by decide)
theorem s_Frac_isLess_12 {x y : Int64} : wps rm K Q c_Frac_isLess_12 kc ks loc (.long y :: .long x :: st) h = wps rm K Q c_Frac_isLess_13 kc ks loc (.int (lg_cmp x y) :: st) h := gk_lcmp
theorem s_Frac_isLess_13 {x : Int32} : wps rm K Q c_Frac_isLess_13 kc ks loc (.int x :: st) h = ((x = 0 → K 23 kc ks loc st h) ∧ (¬ x = 0 → wps rm K Q c_Frac_isLess_16 kc ks loc (st) h)) := gk_if1_eq
theorem s_Frac_isLess_16 {x : Int64} {l0 l1 l2 l3 l4 l5 : Option Value} {l : eg_Lo} : wps rm K Q c_Frac_isLess_16 kc ks (l0 :: l1 :: l2 :: l3 :: l4 :: l5 :: some (.long x) :: l) (st) h = wps rm K Q c_Frac_isLess_18 kc ks (l0 :: l1 :: l2 :: l3 :: l4 :: l5 :: some (.long x) :: l) (.long x :: st) h := gk_lload rfl
theorem s_Frac_isLess_18  : wps rm K Q c_Frac_isLess_18 kc ks loc (st) h = wps rm K Q c_Frac_isLess_19 kc ks loc (.long (0) :: st) h := gk_lc (by decide)
theorem s_Frac_isLess_19 {x y : Int64} : wps rm K Q c_Frac_isLess_19 kc ks loc (.long y :: .long x :: st) h = wps rm K Q c_Frac_isLess_20 kc ks loc (.int (lg_cmp x y) :: st) h := gk_lcmp
theorem s_Frac_isLess_20 {x : Int32} : wps rm K Q c_Frac_isLess_20 kc ks loc (.int x :: st) h = ((¬ x = 0 → K 25 kc ks loc st h) ∧ (x = 0 → wps rm K Q c_Frac_isLess_23 kc ks loc (st) h)) := gk_if1_ne
theorem s_Frac_isLess_23  : wps rm K Q c_Frac_isLess_23 kc ks loc (st) h = wps rm K Q c_Frac_isLess_24 kc ks loc (.int (0) :: st) h := gk_ic (by decide)
theorem s_Frac_isLess_24 {x : Int32} : wps rm K Q c_Frac_isLess_24 kc ks loc ([.int x]) h = (kc = rm.cells ∧ ((1 : Nat) = 1 → x = 0 ∨ x = 1) ∧ Q (some (.int x)) h) := gk_iret
theorem s_Frac_isLess_25 {x : Int64} {l : eg_Lo} : wps rm K Q c_Frac_isLess_25 kc ks (some (.long x) :: l) (st) h = wps rm K Q c_Frac_isLess_26 kc ks (some (.long x) :: l) (.long x :: st) h := gk_lload rfl
theorem s_Frac_isLess_26 {x : Int64} {l0 l1 : Option Value} {l : eg_Lo} : wps rm K Q c_Frac_isLess_26 kc ks (l0 :: l1 :: some (.long x) :: l) (st) h = wps rm K Q c_Frac_isLess_27 kc ks (l0 :: l1 :: some (.long x) :: l) (.long x :: st) h := gk_lload rfl
theorem s_Frac_isLess_27 {x y : Int64} : wps rm K Q c_Frac_isLess_27 kc ks loc (.long y :: .long x :: st) h = (¬ y = 0 ∧ wps rm K Q c_Frac_isLess_28 kc ks loc (.long (x / y) :: st) h) := gk_ldiv
theorem s_Frac_isLess_28 {x : Int64} : wps rm K Q c_Frac_isLess_28 kc ks loc (.long x :: st) h = wps rm K Q c_Frac_isLess_30 kc ks (eg_set2 loc 9 (.long x)) (st) h := gk_lstore
theorem s_Frac_isLess_30 {x : Int64} {l0 l1 l2 l3 : Option Value} {l : eg_Lo} : wps rm K Q c_Frac_isLess_30 kc ks (l0 :: l1 :: l2 :: l3 :: some (.long x) :: l) (st) h = wps rm K Q c_Frac_isLess_32 kc ks (l0 :: l1 :: l2 :: l3 :: some (.long x) :: l) (.long x :: st) h := gk_lload rfl
theorem s_Frac_isLess_32 {x : Int64} {l0 l1 l2 l3 l4 l5 : Option Value} {l : eg_Lo} : wps rm K Q c_Frac_isLess_32 kc ks (l0 :: l1 :: l2 :: l3 :: l4 :: l5 :: some (.long x) :: l) (st) h = wps rm K Q c_Frac_isLess_34 kc ks (l0 :: l1 :: l2 :: l3 :: l4 :: l5 :: some (.long x) :: l) (.long x :: st) h := gk_lload rfl
theorem s_Frac_isLess_34 {x y : Int64} : wps rm K Q c_Frac_isLess_34 kc ks loc (.long y :: .long x :: st) h = (¬ y = 0 ∧ wps rm K Q c_Frac_isLess_35 kc ks loc (.long (x / y) :: st) h) := gk_ldiv
theorem s_Frac_isLess_35 {x : Int64} : wps rm K Q c_Frac_isLess_35 kc ks loc (.long x :: st) h = wps rm K Q c_Frac_isLess_37 kc ks (eg_set2 loc 11 (.long x)) (st) h := gk_lstore
theorem s_Frac_isLess_37 {x : Int64} {l0 l1 l2 l3 l4 l5 l6 l7 l8 : Option Value} {l : eg_Lo} : wps rm K Q c_Frac_isLess_37 kc ks (l0 :: l1 :: l2 :: l3 :: l4 :: l5 :: l6 :: l7 :: l8 :: some (.long x) :: l) (st) h = wps rm K Q c_Frac_isLess_39 kc ks (l0 :: l1 :: l2 :: l3 :: l4 :: l5 :: l6 :: l7 :: l8 :: some (.long x) :: l) (.long x :: st) h := gk_lload rfl
theorem s_Frac_isLess_39 {x : Int64} {l0 l1 l2 l3 l4 l5 l6 l7 l8 l9 l10 : Option Value} {l : eg_Lo} : wps rm K Q c_Frac_isLess_39 kc ks (l0 :: l1 :: l2 :: l3 :: l4 :: l5 :: l6 :: l7 :: l8 :: l9 :: l10 :: some (.long x) :: l) (st) h = wps rm K Q c_Frac_isLess_41 kc ks (l0 :: l1 :: l2 :: l3 :: l4 :: l5 :: l6 :: l7 :: l8 :: l9 :: l10 :: some (.long x) :: l) (.long x :: st) h := gk_lload rfl
theorem s_Frac_isLess_41 {x y : Int64} : wps rm K Q c_Frac_isLess_41 kc ks loc (.long y :: .long x :: st) h = wps rm K Q c_Frac_isLess_42 kc ks loc (.int (lg_cmp x y) :: st) h := gk_lcmp
theorem s_Frac_isLess_42 {x : Int32} : wps rm K Q c_Frac_isLess_42 kc ks loc (.int x :: st) h = ((x = 0 → K 59 kc ks loc st h) ∧ (¬ x = 0 → wps rm K Q c_Frac_isLess_45 kc ks loc (st) h)) := gk_if1_eq
theorem s_Frac_isLess_45 {x : Int64} {l0 l1 l2 l3 l4 l5 l6 l7 l8 : Option Value} {l : eg_Lo} : wps rm K Q c_Frac_isLess_45 kc ks (l0 :: l1 :: l2 :: l3 :: l4 :: l5 :: l6 :: l7 :: l8 :: some (.long x) :: l) (st) h = wps rm K Q c_Frac_isLess_47 kc ks (l0 :: l1 :: l2 :: l3 :: l4 :: l5 :: l6 :: l7 :: l8 :: some (.long x) :: l) (.long x :: st) h := gk_lload rfl
theorem s_Frac_isLess_47 {x : Int64} {l0 l1 l2 l3 l4 l5 l6 l7 l8 l9 l10 : Option Value} {l : eg_Lo} : wps rm K Q c_Frac_isLess_47 kc ks (l0 :: l1 :: l2 :: l3 :: l4 :: l5 :: l6 :: l7 :: l8 :: l9 :: l10 :: some (.long x) :: l) (st) h = wps rm K Q c_Frac_isLess_49 kc ks (l0 :: l1 :: l2 :: l3 :: l4 :: l5 :: l6 :: l7 :: l8 :: l9 :: l10 :: some (.long x) :: l) (.long x :: st) h := gk_lload rfl
theorem s_Frac_isLess_49 {x y : Int64} : wps rm K Q c_Frac_isLess_49 kc ks loc (.long y :: .long x :: st) h = wps rm K Q c_Frac_isLess_50 kc ks loc (.int (lg_cmp x y) :: st) h := gk_lcmp
theorem s_Frac_isLess_50 {x : Int32} : wps rm K Q c_Frac_isLess_50 kc ks loc (.int x :: st) h = ((0 ≤ x → K 57 kc ks loc st h) ∧ (¬ 0 ≤ x → wps rm K Q c_Frac_isLess_53 kc ks loc (st) h)) := gk_if1_ge
theorem s_Frac_isLess_53  : wps rm K Q c_Frac_isLess_53 kc ks loc (st) h = wps rm K Q c_Frac_isLess_54 kc ks loc (.int (1) :: st) h := gk_ic (by decide)
theorem s_Frac_isLess_54  : wps rm K Q c_Frac_isLess_54 kc ks loc (st) h = K 58 kc ks loc st h := gk_goto
theorem s_Frac_isLess_57  : wps rm K Q c_Frac_isLess_57 kc ks loc (st) h = wps rm K Q c_Frac_isLess_58 kc ks loc (.int (0) :: st) h := gk_ic (by decide)
theorem s_Frac_isLess_58 {x : Int32} : wps rm K Q c_Frac_isLess_58 kc ks loc ([.int x]) h = (kc = rm.cells ∧ ((1 : Nat) = 1 → x = 0 ∨ x = 1) ∧ Q (some (.int x)) h) := gk_iret
theorem s_Frac_isLess_59 {x : Int64} {l : eg_Lo} : wps rm K Q c_Frac_isLess_59 kc ks (some (.long x) :: l) (st) h = wps rm K Q c_Frac_isLess_60 kc ks (some (.long x) :: l) (.long x :: st) h := gk_lload rfl
theorem s_Frac_isLess_60 {x : Int64} {l0 l1 l2 l3 l4 l5 l6 l7 l8 : Option Value} {l : eg_Lo} : wps rm K Q c_Frac_isLess_60 kc ks (l0 :: l1 :: l2 :: l3 :: l4 :: l5 :: l6 :: l7 :: l8 :: some (.long x) :: l) (st) h = wps rm K Q c_Frac_isLess_62 kc ks (l0 :: l1 :: l2 :: l3 :: l4 :: l5 :: l6 :: l7 :: l8 :: some (.long x) :: l) (.long x :: st) h := gk_lload rfl
theorem s_Frac_isLess_62 {x : Int64} {l0 l1 : Option Value} {l : eg_Lo} : wps rm K Q c_Frac_isLess_62 kc ks (l0 :: l1 :: some (.long x) :: l) (st) h = wps rm K Q c_Frac_isLess_63 kc ks (l0 :: l1 :: some (.long x) :: l) (.long x :: st) h := gk_lload rfl
theorem s_Frac_isLess_63 {x y : Int64} : wps rm K Q c_Frac_isLess_63 kc ks loc (.long y :: .long x :: st) h = wps rm K Q c_Frac_isLess_64 kc ks loc (.long (x * y) :: st) h := gk_lmul
theorem s_Frac_isLess_64 {x y : Int64} : wps rm K Q c_Frac_isLess_64 kc ks loc (.long y :: .long x :: st) h = wps rm K Q c_Frac_isLess_65 kc ks loc (.long (x - y) :: st) h := gk_lsub
theorem s_Frac_isLess_65 {x : Int64} : wps rm K Q c_Frac_isLess_65 kc ks loc (.long x :: st) h = wps rm K Q c_Frac_isLess_67 kc ks (eg_set2 loc 13 (.long x)) (st) h := gk_lstore
theorem s_Frac_isLess_67 {x : Int64} {l0 l1 l2 l3 : Option Value} {l : eg_Lo} : wps rm K Q c_Frac_isLess_67 kc ks (l0 :: l1 :: l2 :: l3 :: some (.long x) :: l) (st) h = wps rm K Q c_Frac_isLess_69 kc ks (l0 :: l1 :: l2 :: l3 :: some (.long x) :: l) (.long x :: st) h := gk_lload rfl
theorem s_Frac_isLess_69 {x : Int64} {l0 l1 l2 l3 l4 l5 l6 l7 l8 l9 l10 : Option Value} {l : eg_Lo} : wps rm K Q c_Frac_isLess_69 kc ks (l0 :: l1 :: l2 :: l3 :: l4 :: l5 :: l6 :: l7 :: l8 :: l9 :: l10 :: some (.long x) :: l) (st) h = wps rm K Q c_Frac_isLess_71 kc ks (l0 :: l1 :: l2 :: l3 :: l4 :: l5 :: l6 :: l7 :: l8 :: l9 :: l10 :: some (.long x) :: l) (.long x :: st) h := gk_lload rfl
theorem s_Frac_isLess_71 {x : Int64} {l0 l1 l2 l3 l4 l5 : Option Value} {l : eg_Lo} : wps rm K Q c_Frac_isLess_71 kc ks (l0 :: l1 :: l2 :: l3 :: l4 :: l5 :: some (.long x) :: l) (st) h = wps rm K Q c_Frac_isLess_73 kc ks (l0 :: l1 :: l2 :: l3 :: l4 :: l5 :: some (.long x) :: l) (.long x :: st) h := gk_lload rfl
theorem s_Frac_isLess_73 {x y : Int64} : wps rm K Q c_Frac_isLess_73 kc ks loc (.long y :: .long x :: st) h = wps rm K Q c_Frac_isLess_74 kc ks loc (.long (x * y) :: st) h := gk_lmul
theorem s_Frac_isLess_74 {x y : Int64} : wps rm K Q c_Frac_isLess_74 kc ks loc (.long y :: .long x :: st) h = wps rm K Q c_Frac_isLess_75 kc ks loc (.long (x - y) :: st) h := gk_lsub
theorem s_Frac_isLess_75 {x : Int64} : wps rm K Q c_Frac_isLess_75 kc ks loc (.long x :: st) h = wps rm K Q c_Frac_isLess_77 kc ks (eg_set2 loc 15 (.long x)) (st) h := gk_lstore
theorem s_Frac_isLess_77 {x : Int64} {l0 l1 l2 l3 l4 l5 l6 l7 l8 l9 l10 l11 l12 : Option Value} {l : eg_Lo} : wps rm K Q c_Frac_isLess_77 kc ks (l0 :: l1 :: l2 :: l3 :: l4 :: l5 :: l6 :: l7 :: l8 :: l9 :: l10 :: l11 :: l12 :: some (.long x) :: l) (st) h = wps rm K Q c_Frac_isLess_79 kc ks (l0 :: l1 :: l2 :: l3 :: l4 :: l5 :: l6 :: l7 :: l8 :: l9 :: l10 :: l11 :: l12 :: some (.long x) :: l) (.long x :: st) h := gk_lload rfl
theorem s_Frac_isLess_79  : wps rm K Q c_Frac_isLess_79 kc ks loc (st) h = wps rm K Q c_Frac_isLess_80 kc ks loc (.long (0) :: st) h := gk_lc (by decide)
theorem s_Frac_isLess_80 {x y : Int64} : wps rm K Q c_Frac_isLess_80 kc ks loc (.long y :: .long x :: st) h = wps rm K Q c_Frac_isLess_81 kc ks loc (.int (lg_cmp x y) :: st) h := gk_lcmp
theorem s_Frac_isLess_81 {x : Int32} : wps rm K Q c_Frac_isLess_81 kc ks loc (.int x :: st) h = ((x = 0 → K 91 kc ks loc st h) ∧ (¬ x = 0 → wps rm K Q c_Frac_isLess_84 kc ks loc (st) h)) := gk_if1_eq
theorem s_Frac_isLess_84 {x : Int64} {l0 l1 l2 l3 l4 l5 l6 l7 l8 l9 l10 l11 l12 l13 l14 : Option Value} {l : eg_Lo} : wps rm K Q c_Frac_isLess_84 kc ks (l0 :: l1 :: l2 :: l3 :: l4 :: l5 :: l6 :: l7 :: l8 :: l9 :: l10 :: l11 :: l12 :: l13 :: l14 :: some (.long x) :: l) (st) h = wps rm K Q c_Frac_isLess_86 kc ks (l0 :: l1 :: l2 :: l3 :: l4 :: l5 :: l6 :: l7 :: l8 :: l9 :: l10 :: l11 :: l12 :: l13 :: l14 :: some (.long x) :: l) (.long x :: st) h := gk_lload rfl
theorem s_Frac_isLess_86  : wps rm K Q c_Frac_isLess_86 kc ks loc (st) h = wps rm K Q c_Frac_isLess_87 kc ks loc (.long (0) :: st) h := gk_lc (by decide)
theorem s_Frac_isLess_87 {x y : Int64} : wps rm K Q c_Frac_isLess_87 kc ks loc (.long y :: .long x :: st) h = wps rm K Q c_Frac_isLess_88 kc ks loc (.int (lg_cmp x y) :: st) h := gk_lcmp
theorem s_Frac_isLess_88 {x : Int32} : wps rm K Q c_Frac_isLess_88 kc ks loc (.int x :: st) h = ((¬ x = 0 → K 105 kc ks loc st h) ∧ (x = 0 → wps rm K Q c_Frac_isLess_91 kc ks loc (st) h)) := gk_if1_ne
theorem s_Frac_isLess_91 {x : Int64} {l0 l1 l2 l3 l4 l5 l6 l7 l8 l9 l10 l11 l12 : Option Value} {l : eg_Lo} : wps rm K Q c_Frac_isLess_91 kc ks (l0 :: l1 :: l2 :: l3 :: l4 :: l5 :: l6 :: l7 :: l8 :: l9 :: l10 :: l11 :: l12 :: some (.long x) :: l) (st) h = wps rm K Q c_Frac_isLess_93 kc ks (l0 :: l1 :: l2 :: l3 :: l4 :: l5 :: l6 :: l7 :: l8 :: l9 :: l10 :: l11 :: l12 :: some (.long x) :: l) (.long x :: st) h := gk_lload rfl
theorem s_Frac_isLess_93 {x : Int64} {l0 l1 l2 l3 l4 l5 l6 l7 l8 l9 l10 l11 l12 l13 l14 : Option Value} {l : eg_Lo} : wps rm K Q c_Frac_isLess_93 kc ks (l0 :: l1 :: l2 :: l3 :: l4 :: l5 :: l6 :: l7 :: l8 :: l9 :: l10 :: l11 :: l12 :: l13 :: l14 :: some (.long x) :: l) (st) h = wps rm K Q c_Frac_isLess_95 kc ks (l0 :: l1 :: l2 :: l3 :: l4 :: l5 :: l6 :: l7 :: l8 :: l9 :: l10 :: l11 :: l12 :: l13 :: l14 :: some (.long x) :: l) (.long x :: st) h := gk_lload rfl
theorem s_Frac_isLess_95 {x y : Int64} : wps rm K Q c_Frac_isLess_95 kc ks loc (.long y :: .long x :: st) h = wps rm K Q c_Frac_isLess_96 kc ks loc (.int (lg_cmp x y) :: st) h := gk_lcmp
theorem s_Frac_isLess_96 {x : Int32} : wps rm K Q c_Frac_isLess_96 kc ks loc (.int x :: st) h = ((0 ≤ x → K 103 kc ks loc st h) ∧ (¬ 0 ≤ x → wps rm K Q c_Frac_isLess_99 kc ks loc (st) h)) := gk_if1_ge
theorem s_Frac_isLess_99  : wps rm K Q c_Frac_isLess_99 kc ks loc (st) h = wps rm K Q c_Frac_isLess_100 kc ks loc (.int (1) :: st) h := gk_ic (by decide)
theorem s_Frac_isLess_100  : wps rm K Q c_Frac_isLess_100 kc ks loc (st) h = K 104 kc ks loc st h := gk_goto
theorem s_Frac_isLess_103  : wps rm K Q c_Frac_isLess_103 kc ks loc (st) h = wps rm K Q c_Frac_isLess_104 kc ks loc (.int (0) :: st) h := gk_ic (by decide)
theorem s_Frac_isLess_104 {x : Int32} : wps rm K Q c_Frac_isLess_104 kc ks loc ([.int x]) h = (kc = rm.cells ∧ ((1 : Nat) = 1 → x = 0 ∨ x = 1) ∧ Q (some (.int x)) h) := gk_iret
theorem s_Frac_isLess_105 {x : Int64} {l0 l1 l2 l3 l4 l5 : Option Value} {l : eg_Lo} : wps rm K Q c_Frac_isLess_105 kc ks (l0 :: l1 :: l2 :: l3 :: l4 :: l5 :: some (.long x) :: l) (st) h = wps rm K Q c_Frac_isLess_107 kc ks (l0 :: l1 :: l2 :: l3 :: l4 :: l5 :: some (.long x) :: l) (.long x :: st) h := gk_lload rfl
theorem s_Frac_isLess_107 {x : Int64} : wps rm K Q c_Frac_isLess_107 kc ks loc (.long x :: st) h = wps rm K Q c_Frac_isLess_108 kc ks (eg_set2 loc 0 (.long x)) (st) h := gk_lstore
theorem s_Frac_isLess_108 {x : Int64} {l0 l1 : Option Value} {l : eg_Lo} : wps rm K Q c_Frac_isLess_108 kc ks (l0 :: l1 :: some (.long x) :: l) (st) h = wps rm K Q c_Frac_isLess_109 kc ks (l0 :: l1 :: some (.long x) :: l) (.long x :: st) h := gk_lload rfl
theorem s_Frac_isLess_109 {x : Int64} : wps rm K Q c_Frac_isLess_109 kc ks loc (.long x :: st) h = wps rm K Q c_Frac_isLess_111 kc ks (eg_set2 loc 4 (.long x)) (st) h := gk_lstore
theorem s_Frac_isLess_111 {x : Int64} {l0 l1 l2 l3 l4 l5 l6 l7 l8 l9 l10 l11 l12 l13 l14 : Option Value} {l : eg_Lo} : wps rm K Q c_Frac_isLess_111 kc ks (l0 :: l1 :: l2 :: l3 :: l4 :: l5 :: l6 :: l7 :: l8 :: l9 :: l10 :: l11 :: l12 :: l13 :: l14 :: some (.long x) :: l) (st) h = wps rm K Q c_Frac_isLess_113 kc ks (l0 :: l1 :: l2 :: l3 :: l4 :: l5 :: l6 :: l7 :: l8 :: l9 :: l10 :: l11 :: l12 :: l13 :: l14 :: some (.long x) :: l) (.long x :: st) h := gk_lload rfl
theorem s_Frac_isLess_113 {x : Int64} : wps rm K Q c_Frac_isLess_113 kc ks loc (.long x :: st) h = wps rm K Q c_Frac_isLess_114 kc ks (eg_set2 loc 2 (.long x)) (st) h := gk_lstore
theorem s_Frac_isLess_114 {x : Int64} {l0 l1 l2 l3 l4 l5 l6 l7 l8 l9 l10 l11 l12 : Option Value} {l : eg_Lo} : wps rm K Q c_Frac_isLess_114 kc ks (l0 :: l1 :: l2 :: l3 :: l4 :: l5 :: l6 :: l7 :: l8 :: l9 :: l10 :: l11 :: l12 :: some (.long x) :: l) (st) h = wps rm K Q c_Frac_isLess_116 kc ks (l0 :: l1 :: l2 :: l3 :: l4 :: l5 :: l6 :: l7 :: l8 :: l9 :: l10 :: l11 :: l12 :: some (.long x) :: l) (.long x :: st) h := gk_lload rfl
theorem s_Frac_isLess_116 {x : Int64} : wps rm K Q c_Frac_isLess_116 kc ks loc (.long x :: st) h = wps rm K Q c_Frac_isLess_118 kc ks (eg_set2 loc 6 (.long x)) (st) h := gk_lstore
theorem s_Frac_isLess_118 {x : Int32} {l0 l1 l2 l3 l4 l5 l6 l7 : Option Value} {lz : eg_Lo} : wps rm K Q c_Frac_isLess_118 kc ks (l0 :: l1 :: l2 :: l3 :: l4 :: l5 :: l6 :: l7 :: some (.int x) :: lz) (st) h = wps rm K Q c_Frac_isLess_121 kc ks (eg_set1 (l0 :: l1 :: l2 :: l3 :: l4 :: l5 :: l6 :: l7 :: some (.int x) :: lz) 8 (.int (x + (1)))) (st) h := gk_iinc rfl (by decide)
theorem s_Frac_isLess_121  : wps rm K Q c_Frac_isLess_121 kc ks loc (st) h = K 3 kc ks loc st h := gk_goto
theorem s_Frac_isLess_124  : wps rm K Q c_Frac_isLess_124 kc ks loc (st) h = wps rm K Q c_Frac_isLess_125 kc ks loc (.int (0) :: st) h := gk_ic (by decide)
theorem s_Frac_isLess_125 {x : Int32} : wps rm K Q c_Frac_isLess_125 kc ks loc ([.int x]) h = (kc = rm.cells ∧ ((1 : Nat) = 1 → x = 0 ∨ x = 1) ∧ Q (some (.int x)) h) := gk_iret
theorem sz_Frac_isLess_3 : wps rm K Q z_Frac_isLess_3 kc ks loc st h = K 3 kc ks loc st h := gk_nop
def T_Frac_isLess : List (Nat × List eg_I) := [(23, c_Frac_isLess_23), (25, c_Frac_isLess_25), (57, c_Frac_isLess_57), (58, c_Frac_isLess_58), (59, c_Frac_isLess_59), (91, c_Frac_isLess_91), (103, c_Frac_isLess_103), (104, c_Frac_isLess_104), (105, c_Frac_isLess_105), (124, c_Frac_isLess_124)]
theorem j_Frac_isLess_23 {R : Nat → Nat → Nat → eg_Lo → List Value → List eg_E → Prop} {f pc0 : Nat} : eg_run rm R Q T_Frac_isLess (f + 1) 23 kc ks loc st h = wps rm (eg_run rm R Q T_Frac_isLess f) Q c_Frac_isLess_23 kc ks loc st h := rfl
theorem j_Frac_isLess_25 {R : Nat → Nat → Nat → eg_Lo → List Value → List eg_E → Prop} {f pc0 : Nat} : eg_run rm R Q T_Frac_isLess (f + 1) 25 kc ks loc st h = wps rm (eg_run rm R Q T_Frac_isLess f) Q c_Frac_isLess_25 kc ks loc st h := rfl
theorem j_Frac_isLess_57 {R : Nat → Nat → Nat → eg_Lo → List Value → List eg_E → Prop} {f pc0 : Nat} : eg_run rm R Q T_Frac_isLess (f + 1) 57 kc ks loc st h = wps rm (eg_run rm R Q T_Frac_isLess f) Q c_Frac_isLess_57 kc ks loc st h := rfl
theorem j_Frac_isLess_58 {R : Nat → Nat → Nat → eg_Lo → List Value → List eg_E → Prop} {f pc0 : Nat} : eg_run rm R Q T_Frac_isLess (f + 1) 58 kc ks loc st h = wps rm (eg_run rm R Q T_Frac_isLess f) Q c_Frac_isLess_58 kc ks loc st h := rfl
theorem j_Frac_isLess_59 {R : Nat → Nat → Nat → eg_Lo → List Value → List eg_E → Prop} {f pc0 : Nat} : eg_run rm R Q T_Frac_isLess (f + 1) 59 kc ks loc st h = wps rm (eg_run rm R Q T_Frac_isLess f) Q c_Frac_isLess_59 kc ks loc st h := rfl
theorem j_Frac_isLess_91 {R : Nat → Nat → Nat → eg_Lo → List Value → List eg_E → Prop} {f pc0 : Nat} : eg_run rm R Q T_Frac_isLess (f + 1) 91 kc ks loc st h = wps rm (eg_run rm R Q T_Frac_isLess f) Q c_Frac_isLess_91 kc ks loc st h := rfl
theorem j_Frac_isLess_103 {R : Nat → Nat → Nat → eg_Lo → List Value → List eg_E → Prop} {f pc0 : Nat} : eg_run rm R Q T_Frac_isLess (f + 1) 103 kc ks loc st h = wps rm (eg_run rm R Q T_Frac_isLess f) Q c_Frac_isLess_103 kc ks loc st h := rfl
theorem j_Frac_isLess_104 {R : Nat → Nat → Nat → eg_Lo → List Value → List eg_E → Prop} {f pc0 : Nat} : eg_run rm R Q T_Frac_isLess (f + 1) 104 kc ks loc st h = wps rm (eg_run rm R Q T_Frac_isLess f) Q c_Frac_isLess_104 kc ks loc st h := rfl
theorem j_Frac_isLess_105 {R : Nat → Nat → Nat → eg_Lo → List Value → List eg_E → Prop} {f pc0 : Nat} : eg_run rm R Q T_Frac_isLess (f + 1) 105 kc ks loc st h = wps rm (eg_run rm R Q T_Frac_isLess f) Q c_Frac_isLess_105 kc ks loc st h := rfl
theorem j_Frac_isLess_124 {R : Nat → Nat → Nat → eg_Lo → List Value → List eg_E → Prop} {f pc0 : Nat} : eg_run rm R Q T_Frac_isLess (f + 1) 124 kc ks loc st h = wps rm (eg_run rm R Q T_Frac_isLess f) Q c_Frac_isLess_124 kc ks loc st h := rfl
theorem j_Frac_isLess_3 {R : Nat → Nat → Nat → eg_Lo → List Value → List eg_E → Prop} {f pc0 : Nat} : eg_run rm R Q T_Frac_isLess (f + 1) 3 kc ks loc st h = R 3 kc ks loc st h := rfl
end
theorem y_Frac_isLess_0 : eg_seq m_Frac_isLess 0 c_Frac_isLess_0 = true := by decide +kernel
theorem y_Frac_isLess_3 : eg_seq m_Frac_isLess 3 c_Frac_isLess_3 = true := by decide +kernel
theorem y_Frac_isLess_25 : eg_seq m_Frac_isLess 25 c_Frac_isLess_25 = true := by decide +kernel
theorem y_Frac_isLess_57 : eg_seq m_Frac_isLess 57 c_Frac_isLess_57 = true := by decide +kernel
theorem y_Frac_isLess_59 : eg_seq m_Frac_isLess 59 c_Frac_isLess_59 = true := by decide +kernel
theorem y_Frac_isLess_103 : eg_seq m_Frac_isLess 103 c_Frac_isLess_103 = true := by decide +kernel
theorem y_Frac_isLess_105 : eg_seq m_Frac_isLess 105 c_Frac_isLess_105 = true := by decide +kernel
theorem y_Frac_isLess_124 : eg_seq m_Frac_isLess 124 c_Frac_isLess_124 = true := by decide +kernel
theorem q_Frac_isLess : ∀ q ∈ T_Frac_isLess, eg_seq m_Frac_isLess q.1 q.2 = true := by
  intro q hq
  simp only [T_Frac_isLess, List.mem_cons, List.not_mem_nil, or_false] at hq
  rcases hq with rfl | rfl | rfl | rfl | rfl | rfl | rfl | rfl | rfl | rfl
  · exact (eg_seq_drop y_Frac_isLess_3 11 : eg_seq m_Frac_isLess 23 c_Frac_isLess_23 = true)
  · exact y_Frac_isLess_25
  · exact y_Frac_isLess_57
  · exact (eg_seq_drop y_Frac_isLess_57 1 : eg_seq m_Frac_isLess 58 c_Frac_isLess_58 = true)
  · exact y_Frac_isLess_59
  · exact (eg_seq_drop y_Frac_isLess_59 20 : eg_seq m_Frac_isLess 91 c_Frac_isLess_91 = true)
  · exact y_Frac_isLess_103
  · exact (eg_seq_drop y_Frac_isLess_103 1 : eg_seq m_Frac_isLess 104 c_Frac_isLess_104 = true)
  · exact y_Frac_isLess_105
  · exact y_Frac_isLess_124
theorem b_Frac_isLess {as : List Value} {h : List eg_E} {Q : Option Value → List eg_E → Prop} (hf : (eg_fl as).length ≤ 17) (hw : wps (eg_rm m_Frac_isLess) (eg_run (eg_rm m_Frac_isLess) (eg_R m_Frac_isLess Q (h.length + 0)) Q T_Frac_isLess 12) Q c_Frac_isLess_0 0 0 (eg_entry 17 as) [] h) : eg_Runs n_Frac_isLess as h Q := eg_begin2 (d := m_Frac_isLess) rfl (by decide) y_Frac_isLess_0 q_Frac_isLess hf hw
theorem p_Frac_isLess_3 {Q : Option Value → List eg_E → Prop} {n0 kc ks : Nat} {loc : eg_Lo} {st : List Value} {h : List eg_E} (hw : wps (eg_rm m_Frac_isLess) (eg_run (eg_rm m_Frac_isLess) (eg_R m_Frac_isLess Q n0) Q T_Frac_isLess 12) Q c_Frac_isLess_3 kc ks loc st h) : eg_R m_Frac_isLess Q n0 3 kc ks loc st h := eg_go2 y_Frac_isLess_3 q_Frac_isLess hw
/-! ===== Frac_lower ===== -/
def z_Frac_lower_43 : List eg_I := [.inl (43, 0, .nop, 0, 0)]
def c_Frac_lower_65 : List eg_I := .inl (65, 1, .return_, 0, 0) :: []
def c_Frac_lower_62 : List eg_I := .inl (62, 3, .goto (-19), 43, 0) :: []
def c_Frac_lower_59 : List eg_I := .inl (59, 3, .iinc 4 (1), 0, 0) :: c_Frac_lower_62
def c_Frac_lower_58 : List eg_I := .inl (58, 1, .lastore, 0, 0) :: c_Frac_lower_59
def c_Frac_lower_57 : List eg_I := .inl (57, 1, .ldiv, 0, 0) :: c_Frac_lower_58
def c_Frac_lower_56 : List eg_I := .inl (56, 1, .lload 2, 0, 0) :: c_Frac_lower_57
def c_Frac_lower_55 : List eg_I := .inl (55, 1, .laload, 0, 0) :: c_Frac_lower_56
def c_Frac_lower_54 : List eg_I := .inl (54, 1, .dup2, 0, 0) :: c_Frac_lower_55
def c_Frac_lower_52 : List eg_I := .inl (52, 2, .iload 4, 0, 0) :: c_Frac_lower_54
def c_Frac_lower_51 : List eg_I := .inl (51, 1, .aload 0, 0, 0) :: c_Frac_lower_52
def c_Frac_lower_48 : List eg_I := .inl (48, 3, .if_icmp .ge (17), 65, 0) :: c_Frac_lower_51
def c_Frac_lower_47 : List eg_I := .inl (47, 1, .iadd, 0, 0) :: c_Frac_lower_48
def c_Frac_lower_46 : List eg_I := .inl (46, 1, .iconst (3), 0, 0) :: c_Frac_lower_47
def c_Frac_lower_45 : List eg_I := .inl (45, 1, .iload 1, 0, 0) :: c_Frac_lower_46
def c_Frac_lower_43 : List eg_I := .inl (43, 2, .iload 4, 0, 0) :: c_Frac_lower_45
def c_Frac_lower_41 : List eg_I := .inl (41, 2, .istore 4, 0, 0) :: z_Frac_lower_43
def c_Frac_lower_40 : List eg_I := .inl (40, 1, .iload 1, 0, 0) :: c_Frac_lower_41
def c_Frac_lower_39 : List eg_I := .inl (39, 1, .return_, 0, 0) :: []
def c_Frac_lower_36 : List eg_I := .inl (36, 3, .ifCond .ne (4), 40, 0) :: c_Frac_lower_39
def c_Frac_lower_35 : List eg_I := .inl (35, 1, .lcmp, 0, 0) :: c_Frac_lower_36
def c_Frac_lower_34 : List eg_I := .inl (34, 1, .sipush (0), 0, 0) :: c_Frac_lower_35
def c_Frac_lower_33 : List eg_I := .inl (33, 1, .lload 2, 0, 0) :: c_Frac_lower_34
def c_Frac_lower_32 : List eg_I := .inl (32, 1, .lstore 2, 0, 0) :: c_Frac_lower_33
def c_Frac_lower_29 : List eg_I := .inr (29, 0, 13, n_Frac_commonMeasure, 2, 4, 0, 0) :: c_Frac_lower_32
def c_Frac_lower_28 : List eg_I := .inl (28, 1, .laload, 0, 0) :: c_Frac_lower_29
def c_Frac_lower_27 : List eg_I := .inl (27, 1, .iadd, 0, 0) :: c_Frac_lower_28
def c_Frac_lower_26 : List eg_I := .inl (26, 1, .iconst (2), 0, 0) :: c_Frac_lower_27
def c_Frac_lower_25 : List eg_I := .inl (25, 1, .iload 1, 0, 0) :: c_Frac_lower_26
def c_Frac_lower_24 : List eg_I := .inl (24, 1, .aload 0, 0, 0) :: c_Frac_lower_25
def c_Frac_lower_21 : List eg_I := .inr (21, 0, 13, n_Frac_commonMeasure, 2, 4, 0, 0) :: c_Frac_lower_24
def c_Frac_lower_20 : List eg_I := .inl (20, 1, .laload, 0, 0) :: c_Frac_lower_21
def c_Frac_lower_19 : List eg_I := .inl (19, 1, .iadd, 0, 0) :: c_Frac_lower_20
def c_Frac_lower_18 : List eg_I := .inl (18, 1, .iconst (1), 0, 0) :: c_Frac_lower_19
def c_Frac_lower_17 : List eg_I := .inl (17, 1, .iload 1, 0, 0) :: c_Frac_lower_18
def c_Frac_lower_16 : List eg_I := .inl (16, 1, .aload 0, 0, 0) :: c_Frac_lower_17
def c_Frac_lower_15 : List eg_I := .inl (15, 1, .laload, 0, 0) :: c_Frac_lower_16
def c_Frac_lower_14 : List eg_I := .inl (14, 1, .iload 1, 0, 0) :: c_Frac_lower_15
def c_Frac_lower_13 : List eg_I := .inl (13, 1, .aload 0, 0, 0) :: c_Frac_lower_14
def c_Frac_lower_12 : List eg_I := .inl (12, 1, .return_, 0, 0) :: []
def c_Frac_lower_9 : List eg_I := .inl (9, 3, .if_icmp .le (4), 13, 0) :: c_Frac_lower_12
def c_Frac_lower_8 : List eg_I := .inl (8, 1, .isub, 0, 0) :: c_Frac_lower_9
def c_Frac_lower_7 : List eg_I := .inl (7, 1, .iconst (3), 0, 0) :: c_Frac_lower_8
def c_Frac_lower_6 : List eg_I := .inl (6, 1, .arraylength, 0, 0) :: c_Frac_lower_7
def c_Frac_lower_5 : List eg_I := .inl (5, 1, .aload 0, 0, 0) :: c_Frac_lower_6
def c_Frac_lower_4 : List eg_I := .inl (4, 1, .iload 1, 0, 0) :: c_Frac_lower_5
def c_Frac_lower_1 : List eg_I := .inl (1, 3, .ifCond .lt (11), 12, 0) :: c_Frac_lower_4
def c_Frac_lower_0 : List eg_I := .inl (0, 1, .iload 1, 0, 0) :: c_Frac_lower_1
section
variable {rm : Room} {K : Nat → Nat → Nat → eg_Lo → List Value → List eg_E → Prop} {Q : Option Value → List eg_E → Prop} {kc ks : Nat} {loc : eg_Lo} {st : List Value} {h : List eg_E}
theorem s_Frac_lower_0 {x : Int32} {l0 : Option Value} {l : eg_Lo} : wps rm K Q c_Frac_lower_0 kc ks (l0 :: some (.int x) :: l) (st) h = wps rm K Q c_Frac_lower_1 kc ks (l0 :: some (.int x) :: l) (.int x :: st) h := gk_iload rfl
theorem s_Frac_lower_1 {x : Int32} : wps rm K Q c_Frac_lower_1 kc ks loc (.int x :: st) h = ((x < 0 → K 12 kc ks loc st h) ∧ (¬ x < 0 → wps rm K Q c_Frac_lower_4 kc ks loc (st) h)) := gk_if1_lt
theorem s_Frac_lower_4 {x : Int32} {l0 : Option Value} {l : eg_Lo} : wps rm K Q c_Frac_lower_4 kc ks (l0 :: some (.int x) :: l) (st) h = wps rm K Q c_Frac_lower_5 kc ks (l0 :: some (.int x) :: l) (.int x :: st) h := gk_iload rfl
theorem s_Frac_lower_5 {x : Nat} {l : eg_Lo} : wps rm K Q c_Frac_lower_5 kc ks (some (.ref x) :: l) (st) h = wps rm K Q c_Frac_lower_6 kc ks (some (.ref x) :: l) (.ref x :: st) h := gk_aload rfl
theorem s_Frac_lower_6 {x : Nat} : wps rm K Q c_Frac_lower_6 kc ks loc (.ref (x + 1) :: st) h = eg_al h x (fun v => wps rm K Q c_Frac_lower_7 kc ks loc (.int v :: st) h) := gk_al
theorem s_Frac_lower_7  : wps rm K Q c_Frac_lower_7 kc ks loc (st) h = wps rm K Q c_Frac_lower_8 kc ks loc (.int (3) :: st) h := gk_ic (by decide)
theorem s_Frac_lower_8 {x y : Int32} : wps rm K Q c_Frac_lower_8 kc ks loc (.int y :: .int x :: st) h = wps rm K Q c_Frac_lower_9 kc ks loc (.int (x - y) :: st) h := gk_isub
theorem s_Frac_lower_9 {x y : Int32} : wps rm K Q c_Frac_lower_9 kc ks loc (.int y :: .int x :: st) h = ((x ≤ y → K 13 kc ks loc st h) ∧ (¬ x ≤ y → wps rm K Q c_Frac_lower_12 kc ks loc (st) h)) := gk_if2_le
theorem s_Frac_lower_12  : wps rm K Q c_Frac_lower_12 kc ks loc ([]) h = (kc = rm.cells ∧ Q none h) := gk_vret
theorem s_Frac_lower_13 {x : Nat} {l : eg_Lo} : wps rm K Q c_Frac_lower_13 kc ks (some (.ref x) :: l) (st) h = wps rm K Q c_Frac_lower_14 kc ks (some (.ref x) :: l) (.ref x :: st) h := gk_aload rfl
theorem s_Frac_lower_14 {x : Int32} {l0 : Option Value} {l : eg_Lo} : wps rm K Q c_Frac_lower_14 kc ks (l0 :: some (.int x) :: l) (st) h = wps rm K Q c_Frac_lower_15 kc ks (l0 :: some (.int x) :: l) (.int x :: st) h := gk_iload rfl
theorem s_Frac_lower_15 {x : Nat} {i : Int32} : wps rm K Q c_Frac_lower_15 kc ks loc (.int i :: .ref (x + 1) :: st) h = eg_la h x i (fun v => wps rm K Q c_Frac_lower_16 kc ks loc (.long v :: st) h) := gk_laload
theorem s_Frac_lower_16 {x : Nat} {l : eg_Lo} : wps rm K Q c_Frac_lower_16 kc ks (some (.ref x) :: l) (st) h = wps rm K Q c_Frac_lower_17 kc ks (some (.ref x) :: l) (.ref x :: st) h := gk_aload rfl
theorem s_Frac_lower_17 {x : Int32} {l0 : Option Value} {l : eg_Lo} : wps rm K Q c_Frac_lower_17 kc ks (l0 :: some (.int x) :: l) (st) h = wps rm K Q c_Frac_lower_18 kc ks (l0 :: some (.int x) :: l) (.int x :: st) h := gk_iload rfl
theorem s_Frac_lower_18  : wps rm K Q c_Frac_lower_18 kc ks loc (st) h = wps rm K Q c_Frac_lower_19 kc ks loc (.int (1) :: st) h := gk_ic (by decide)
theorem s_Frac_lower_19 {x y : Int32} : wps rm K Q c_Frac_lower_19 kc ks loc (.int y :: .int x :: st) h = wps rm K Q c_Frac_lower_20 kc ks loc (.int (x + y) :: st) h := gk_iadd
theorem s_Frac_lower_20 {x : Nat} {i : Int32} : wps rm K Q c_Frac_lower_20 kc ks loc (.int i :: .ref (x + 1) :: st) h = eg_la h x i (fun v => wps rm K Q c_Frac_lower_21 kc ks loc (.long v :: st) h) := gk_laload
theorem s_Frac_lower_21  {a1 : Value} {a2 : Value} : wps rm K Q c_Frac_lower_21 kc ks loc (a2 :: a1 :: st) h = (st.length ≤ 4 ∧ eg_Cs n_Frac_commonMeasure [a1, a2] h (fun v h9 => wps rm K Q c_Frac_lower_24 kc ks loc (v.toList ++ st) h9)) := eg_c0_2
theorem s_Frac_lower_24 {x : Nat} {l : eg_Lo} : wps rm K Q c_Frac_lower_24 kc ks (some (.ref x) :: l) (st) h = wps rm K Q c_Frac_lower_25 kc ks (some (.ref x) :: l) (.ref x :: st) h := gk_aload rfl
theorem s_Frac_lower_25 {x : Int32} {l0 : Option Value} {l : eg_Lo} : wps rm K Q c_Frac_lower_25 kc ks (l0 :: some (.int x) :: l) (st) h = wps rm K Q c_Frac_lower_26 kc ks (l0 :: some (.int x) :: l) (.int x :: st) h := gk_iload rfl
theorem s_Frac_lower_26  : wps rm K Q c_Frac_lower_26 kc ks loc (st) h = wps rm K Q c_Frac_lower_27 kc ks loc (.int (2) :: st) h := gk_ic (by decide)
theorem s_Frac_lower_27 {x y : Int32} : wps rm K Q c_Frac_lower_27 kc ks loc (.int y :: .int x :: st) h = wps rm K Q c_Frac_lower_28 kc ks loc (.int (x + y) :: st) h := gk_iadd
theorem s_Frac_lower_28 {x : Nat} {i : Int32} : wps rm K Q c_Frac_lower_28 kc ks loc (.int i :: .ref (x + 1) :: st) h = eg_la h x i (fun v => wps rm K Q c_Frac_lower_29 kc ks loc (.long v :: st) h) := gk_laload
theorem s_Frac_lower_29  {a1 : Value} {a2 : Value} : wps rm K Q c_Frac_lower_29 kc ks loc (a2 :: a1 :: st) h = (st.length ≤ 4 ∧ eg_Cs n_Frac_commonMeasure [a1, a2] h (fun v h9 => wps rm K Q c_Frac_lower_32 kc ks loc (v.toList ++ st) h9)) := eg_c0_2
theorem s_Frac_lower_32 {x : Int64} : wps rm K Q c_Frac_lower_32 kc ks loc (.long x :: st) h = wps rm K Q c_Frac_lower_33 kc ks (eg_set2 loc 2 (.long x)) (st) h := gk_lstore
theorem s_Frac_lower_33 {x : Int64} {l0 l1 : Option Value} {l : eg_Lo} : wps rm K Q c_Frac_lower_33 kc ks (l0 :: l1 :: some (.long x) :: l) (st) h = wps rm K Q c_Frac_lower_34 kc ks (l0 :: l1 :: some (.long x) :: l) (.long x :: st) h := gk_lload rfl
theorem s_Frac_lower_34  : wps rm K Q c_Frac_lower_34 kc ks loc (st) h = wps rm K Q c_Frac_lower_35 kc ks loc (.long (0) :: st) h := gk_lc (by decide)
theorem s_Frac_lower_35 {x y : Int64} : wps rm K Q c_Frac_lower_35 kc ks loc (.long y :: .long x :: st) h = wps rm K Q c_Frac_lower_36 kc ks loc (.int (lg_cmp x y) :: st) h := gk_lcmp
theorem s_Frac_lower_36 {x : Int32} : wps rm K Q c_Frac_lower_36 kc ks loc (.int x :: st) h = ((¬ x = 0 → K 40 kc ks loc st h) ∧ (x = 0 → wps rm K Q c_Frac_lower_39 kc ks loc (st) h)) := gk_if1_ne
theorem s_Frac_lower_39  : wps rm K Q c_Frac_lower_39 kc ks loc ([]) h = (kc = rm.cells ∧ Q none h) := gk_vret
theorem s_Frac_lower_40 {x : Int32} {l0 : Option Value} {l : eg_Lo} : wps rm K Q c_Frac_lower_40 kc ks (l0 :: some (.int x) :: l) (st) h = wps rm K Q c_Frac_lower_41 kc ks (l0 :: some (.int x) :: l) (.int x :: st) h := gk_iload rfl
theorem s_Frac_lower_41 {x : Int32} : wps rm K Q c_Frac_lower_41 kc ks loc (.int x :: st) h = wps rm K Q z_Frac_lower_43 kc ks (eg_set1 loc 4 (.int x)) (st) h := gk_istore
theorem s_Frac_lower_43 {x : Int32} {l0 l1 l2 l3 : Option Value} {l : eg_Lo} : wps rm K Q c_Frac_lower_43 kc ks (l0 :: l1 :: l2 :: l3 :: some (.int x) :: l) (st) h = wps rm K Q c_Frac_lower_45 kc ks (l0 :: l1 :: l2 :: l3 :: some (.int x) :: l) (.int x :: st) h := gk_iload rfl
theorem s_Frac_lower_45 {x : Int32} {l0 : Option Value} {l : eg_Lo} : wps rm K Q c_Frac_lower_45 kc ks (l0 :: some (.int x) :: l) (st) h = wps rm K Q c_Frac_lower_46 kc ks (l0 :: some (.int x) :: l) (.int x :: st) h := gk_iload rfl
theorem s_Frac_lower_46  : wps rm K Q c_Frac_lower_46 kc ks loc (st) h = wps rm K Q c_Frac_lower_47 kc ks loc (.int (3) :: st) h := gk_ic (by decide)
theorem s_Frac_lower_47 {x y : Int32} : wps rm K Q c_Frac_lower_47 kc ks loc (.int y :: .int x :: st) h = wps rm K Q c_Frac_lower_48 kc ks loc (.int (x + y) :: st) h := gk_iadd
theorem s_Frac_lower_48 {x y : Int32} : wps rm K Q c_Frac_lower_48 kc ks loc (.int y :: .int x :: st) h = ((y ≤ x → K 65 kc ks loc st h) ∧ (¬ y ≤ x → wps rm K Q c_Frac_lower_51 kc ks loc (st) h)) := gk_if2_ge
theorem s_Frac_lower_51 {x : Nat} {l : eg_Lo} : wps rm K Q c_Frac_lower_51 kc ks (some (.ref x) :: l) (st) h = wps rm K Q c_Frac_lower_52 kc ks (some (.ref x) :: l) (.ref x :: st) h := gk_aload rfl
theorem s_Frac_lower_52 {x : Int32} {l0 l1 l2 l3 : Option Value} {l : eg_Lo} : wps rm K Q c_Frac_lower_52 kc ks (l0 :: l1 :: l2 :: l3 :: some (.int x) :: l) (st) h = wps rm K Q c_Frac_lower_54 kc ks (l0 :: l1 :: l2 :: l3 :: some (.int x) :: l) (.int x :: st) h := gk_iload rfl
theorem s_Frac_lower_54 {y : Int32} {x : Nat} : wps rm K Q c_Frac_lower_54 kc ks loc (.int y :: .ref x :: st) h = wps rm K Q c_Frac_lower_55 kc ks loc (.int y :: .ref x :: .int y :: .ref x :: st) h := gk_dup2
theorem s_Frac_lower_55 {x : Nat} {i : Int32} : wps rm K Q c_Frac_lower_55 kc ks loc (.int i :: .ref (x + 1) :: st) h = eg_la h x i (fun v => wps rm K Q c_Frac_lower_56 kc ks loc (.long v :: st) h) := gk_laload
theorem s_Frac_lower_56 {x : Int64} {l0 l1 : Option Value} {l : eg_Lo} : wps rm K Q c_Frac_lower_56 kc ks (l0 :: l1 :: some (.long x) :: l) (st) h = wps rm K Q c_Frac_lower_57 kc ks (l0 :: l1 :: some (.long x) :: l) (.long x :: st) h := gk_lload rfl
theorem s_Frac_lower_57 {x y : Int64} : wps rm K Q c_Frac_lower_57 kc ks loc (.long y :: .long x :: st) h = (¬ y = 0 ∧ wps rm K Q c_Frac_lower_58 kc ks loc (.long (x / y) :: st) h) := gk_ldiv
theorem s_Frac_lower_58 {x : Nat} {i : Int32} {v : Int64} : wps rm K Q c_Frac_lower_58 kc ks loc (.long v :: .int i :: .ref (x + 1) :: st) h = eg_lst h x i v (fun h9 => wps rm K Q c_Frac_lower_59 kc ks loc (st) h9) := gk_lastore
theorem s_Frac_lower_59 {x : Int32} {l0 l1 l2 l3 : Option Value} {lz : eg_Lo} : wps rm K Q c_Frac_lower_59 kc ks (l0 :: l1 :: l2 :: l3 :: some (.int x) :: lz) (st) h = wps rm K Q c_Frac_lower_62 kc ks (eg_set1 (l0 :: l1 :: l2 :: l3 :: some (.int x) :: lz) 4 (.int (x + (1)))) (st) h := gk_iinc rfl (by decide)
theorem s_Frac_lower_62  : wps rm K Q c_Frac_lower_62 kc ks loc (st) h = K 43 kc ks loc st h := gk_goto
theorem s_Frac_lower_65  : wps rm K Q c_Frac_lower_65 kc ks loc ([]) h = (kc = rm.cells ∧ Q none h) := gk_vret
theorem sz_Frac_lower_43 : wps rm K Q z_Frac_lower_43 kc ks loc st h = K 43 kc ks loc st h := gk_nop
def T_Frac_lower : List (Nat × List eg_I) := [(12, c_Frac_lower_12), (13, c_Frac_lower_13), (40, c_Frac_lower_40), (65, c_Frac_lower_65)]
theorem j_Frac_lower_12 {R : Nat → Nat → Nat → eg_Lo → List Value → List eg_E → Prop} {f pc0 : Nat} : eg_run rm R Q T_Frac_lower (f + 1) 12 kc ks loc st h = wps rm (eg_run rm R Q T_Frac_lower f) Q c_Frac_lower_12 kc ks loc st h := rfl
theorem j_Frac_lower_13 {R : Nat → Nat → Nat → eg_Lo → List Value → List eg_E → Prop} {f pc0 : Nat} : eg_run rm R Q T_Frac_lower (f + 1) 13 kc ks loc st h = wps rm (eg_run rm R Q T_Frac_lower f) Q c_Frac_lower_13 kc ks loc st h := rfl
theorem j_Frac_lower_40 {R : Nat → Nat → Nat → eg_Lo → List Value → List eg_E → Prop} {f pc0 : Nat} : eg_run rm R Q T_Frac_lower (f + 1) 40 kc ks loc st h = wps rm (eg_run rm R Q T_Frac_lower f) Q c_Frac_lower_40 kc ks loc st h := rfl
theorem j_Frac_lower_65 {R : Nat → Nat → Nat → eg_Lo → List Value → List eg_E → Prop} {f pc0 : Nat} : eg_run rm R Q T_Frac_lower (f + 1) 65 kc ks loc st h = wps rm (eg_run rm R Q T_Frac_lower f) Q c_Frac_lower_65 kc ks loc st h := rfl
theorem j_Frac_lower_43 {R : Nat → Nat → Nat → eg_Lo → List Value → List eg_E → Prop} {f pc0 : Nat} : eg_run rm R Q T_Frac_lower (f + 1) 43 kc ks loc st h = R 43 kc ks loc st h := rfl
end
theorem y_Frac_lower_0 : eg_seq m_Frac_lower 0 c_Frac_lower_0 = true := by decide +kernel
theorem y_Frac_lower_13 : eg_seq m_Frac_lower 13 c_Frac_lower_13 = true := by decide +kernel
theorem y_Frac_lower_40 : eg_seq m_Frac_lower 40 c_Frac_lower_40 = true := by decide +kernel
theorem y_Frac_lower_43 : eg_seq m_Frac_lower 43 c_Frac_lower_43 = true := by decide +kernel
theorem y_Frac_lower_65 : eg_seq m_Frac_lower 65 c_Frac_lower_65 = true := by decide +kernel
theorem q_Frac_lower : ∀ q ∈ T_Frac_lower, eg_seq m_Frac_lower q.1 q.2 = true := by
  intro q hq
  simp only [T_Frac_lower, List.mem_cons, List.not_mem_nil, or_false] at hq
  rcases hq with rfl | rfl | rfl | rfl
  · exact (eg_seq_drop y_Frac_lower_0 8 : eg_seq m_Frac_lower 12 c_Frac_lower_12 = true)
  · exact y_Frac_lower_13
  · exact y_Frac_lower_40
  · exact y_Frac_lower_65
theorem b_Frac_lower {as : List Value} {h : List eg_E} {Q : Option Value → List eg_E → Prop} (hf : (eg_fl as).length ≤ 5) (hw : wps (eg_rm m_Frac_lower) (eg_run (eg_rm m_Frac_lower) (eg_R m_Frac_lower Q (h.length + 0)) Q T_Frac_lower 6) Q c_Frac_lower_0 0 0 (eg_entry 5 as) [] h) : eg_Runs n_Frac_lower as h Q := eg_begin2 (d := m_Frac_lower) rfl (by decide) y_Frac_lower_0 q_Frac_lower hf hw
theorem p_Frac_lower_43 {Q : Option Value → List eg_E → Prop} {n0 kc ks : Nat} {loc : eg_Lo} {st : List Value} {h : List eg_E} (hw : wps (eg_rm m_Frac_lower) (eg_run (eg_rm m_Frac_lower) (eg_R m_Frac_lower Q n0) Q T_Frac_lower 6) Q c_Frac_lower_43 kc ks loc st h) : eg_R m_Frac_lower Q n0 43 kc ks loc st h := eg_go2 y_Frac_lower_43 q_Frac_lower hw
/-! ===== Frame_init ===== -/
def c_Frame_init_12 : List eg_I := .inl (12, 1, .return_, 0, 0) :: []
def c_Frame_init_9 : List eg_I := .inl (9, 3, .putfield 7, 5, 0) :: c_Frame_init_12
def c_Frame_init_7 : List eg_I := .inl (7, 2, .newarray .long, 1, 0) :: c_Frame_init_9
def c_Frame_init_5 : List eg_I := .inl (5, 2, .iconst (9), 0, 0) :: c_Frame_init_7
def c_Frame_init_4 : List eg_I := .inl (4, 1, .aload 0, 0, 0) :: c_Frame_init_5
def c_Frame_init_1 : List eg_I := .inl (1, 3, .athrow, 1, 0) :: c_Frame_init_4
def c_Frame_init_0 : List eg_I := .inl (0, 1, .aload 0, 0, 0) :: c_Frame_init_1
section
variable {rm : Room} {K : Nat → Nat → Nat → eg_Lo → List Value → List eg_E → Prop} {Q : Option Value → List eg_E → Prop} {kc ks : Nat} {loc : eg_Lo} {st : List Value} {h : List eg_E}
theorem s_Frame_init_0 {x : Nat} {l : eg_Lo} : wps rm K Q c_Frame_init_0 kc ks (some (.ref x) :: l) (st) h = wps rm K Q c_Frame_init_1 kc ks (some (.ref x) :: l) (.ref x :: st) h := gk_aload rfl
theorem s_Frame_init_1 {x : Nat} : wps rm K Q c_Frame_init_1 kc ks loc (.ref (x + 1) :: st) h = (st.length ≤ 4 ∧ wps rm K Q c_Frame_init_4 kc ks loc (st) h) := gk_oi
theorem s_Frame_init_4 {x : Nat} {l : eg_Lo} : wps rm K Q c_Frame_init_4 kc ks (some (.ref x) :: l) (st) h = wps rm K Q c_Frame_init_5 kc ks (some (.ref x) :: l) (.ref x :: st) h := gk_aload rfl
theorem s_Frame_init_5  : wps rm K Q c_Frame_init_5 kc ks loc (st) h = wps rm K Q c_Frame_init_7 kc ks loc (.int (9) :: st) h := gk_ic (by decide)
theorem s_Frame_init_7 {x : Int32} : wps rm K Q c_Frame_init_7 kc ks loc (.int x :: st) h = (¬ x < 0 ∧ x.toNatClampNeg ≤ 1000 ∧ kc + 1 ≤ rm.cells ∧ ks + x.toNatClampNeg ≤ rm.slots ∧ wps rm K Q c_Frame_init_9 (kc + 1) (ks + x.toNatClampNeg) loc (.ref (h.length + 1) :: st) (h ++ [.inl (1, eg_zero 1 x.toNatClampNeg)])) := gk_na
theorem s_Frame_init_9 {x : Nat} {v : Value} : wps rm K Q c_Frame_init_9 kc ks loc (v :: .ref (x + 1) :: st) h = eg_pf h x 5 0 v (fun h9 => wps rm K Q c_Frame_init_12 kc ks loc (st) h9) := gk_pf
theorem s_Frame_init_12  : wps rm K Q c_Frame_init_12 kc ks loc ([]) h = (kc = rm.cells ∧ Q none h) := gk_vret
def T_Frame_init : List (Nat × List eg_I) := []
end
theorem y_Frame_init_0 : eg_seq m_Frame_init 0 c_Frame_init_0 = true := by decide +kernel
theorem q_Frame_init : ∀ q ∈ T_Frame_init, eg_seq m_Frame_init q.1 q.2 = true := by
  intro q hq
  cases hq
theorem b_Frame_init {as : List Value} {h : List eg_E} {Q : Option Value → List eg_E → Prop} (hf : (eg_fl as).length ≤ 1) (hw : wps (eg_rm m_Frame_init) (eg_run (eg_rm m_Frame_init) (eg_R m_Frame_init Q (h.length + 1)) Q T_Frame_init 2) Q c_Frame_init_0 0 0 (eg_entry 1 as) [] h) : eg_Runs n_Frame_init as h Q := eg_begin2 (d := m_Frame_init) rfl (by decide) y_Frame_init_0 q_Frame_init hf hw
/-! ===== Frame_layWays ===== -/
def c_Frame_layWays_186 : List eg_I := .inl (186, 1, .ireturn, 0, 1) :: []
def c_Frame_layWays_185 : List eg_I := .inl (185, 1, .iconst (1), 0, 0) :: c_Frame_layWays_186
def c_Frame_layWays_182 : List eg_I := .inr (182, 1, 13, n_Frame_setWay, 4, 5, 0, 0) :: c_Frame_layWays_185
def c_Frame_layWays_180 : List eg_I := .inl (180, 2, .lload 9, 0, 0) :: c_Frame_layWays_182
def c_Frame_layWays_178 : List eg_I := .inl (178, 2, .lload 7, 0, 0) :: c_Frame_layWays_180
def c_Frame_layWays_176 : List eg_I := .inl (176, 2, .lload 5, 0, 0) :: c_Frame_layWays_178
def c_Frame_layWays_175 : List eg_I := .inl (175, 1, .iconst (2), 0, 0) :: c_Frame_layWays_176
def c_Frame_layWays_174 : List eg_I := .inl (174, 1, .aload 0, 0, 0) :: c_Frame_layWays_175
def c_Frame_layWays_171 : List eg_I := .inr (171, 1, 13, n_Frame_setWay, 4, 5, 0, 0) :: c_Frame_layWays_174
def c_Frame_layWays_170 : List eg_I := .inl (170, 1, .lsub, 0, 0) :: c_Frame_layWays_171
def c_Frame_layWays_169 : List eg_I := .inl (169, 1, .lmul, 0, 0) :: c_Frame_layWays_170
def c_Frame_layWays_167 : List eg_I := .inl (167, 2, .lload 13, 0, 0) :: c_Frame_layWays_169
def c_Frame_layWays_166 : List eg_I := .inl (166, 1, .laload, 0, 0) :: c_Frame_layWays_167
def c_Frame_layWays_165 : List eg_I := .inl (165, 1, .iconst (2), 0, 0) :: c_Frame_layWays_166
def c_Frame_layWays_164 : List eg_I := .inl (164, 1, .aload 1, 0, 0) :: c_Frame_layWays_165
def c_Frame_layWays_163 : List eg_I := .inl (163, 1, .lmul, 0, 0) :: c_Frame_layWays_164
def c_Frame_layWays_161 : List eg_I := .inl (161, 2, .lload 11, 0, 0) :: c_Frame_layWays_163
def c_Frame_layWays_160 : List eg_I := .inl (160, 1, .i2l, 0, 0) :: c_Frame_layWays_161
def c_Frame_layWays_158 : List eg_I := .inl (158, 2, .iload 4, 0, 0) :: c_Frame_layWays_160
def c_Frame_layWays_157 : List eg_I := .inl (157, 1, .lsub, 0, 0) :: c_Frame_layWays_158
def c_Frame_layWays_156 : List eg_I := .inl (156, 1, .lmul, 0, 0) :: c_Frame_layWays_157
def c_Frame_layWays_154 : List eg_I := .inl (154, 2, .lload 13, 0, 0) :: c_Frame_layWays_156
def c_Frame_layWays_153 : List eg_I := .inl (153, 1, .laload, 0, 0) :: c_Frame_layWays_154
def c_Frame_layWays_152 : List eg_I := .inl (152, 1, .iconst (1), 0, 0) :: c_Frame_layWays_153
def c_Frame_layWays_151 : List eg_I := .inl (151, 1, .aload 1, 0, 0) :: c_Frame_layWays_152
def c_Frame_layWays_150 : List eg_I := .inl (150, 1, .lmul, 0, 0) :: c_Frame_layWays_151
def c_Frame_layWays_148 : List eg_I := .inl (148, 2, .lload 11, 0, 0) :: c_Frame_layWays_150
def c_Frame_layWays_147 : List eg_I := .inl (147, 1, .i2l, 0, 0) :: c_Frame_layWays_148
def c_Frame_layWays_146 : List eg_I := .inl (146, 1, .iload 3, 0, 0) :: c_Frame_layWays_147
def c_Frame_layWays_145 : List eg_I := .inl (145, 1, .lsub, 0, 0) :: c_Frame_layWays_146
def c_Frame_layWays_144 : List eg_I := .inl (144, 1, .lmul, 0, 0) :: c_Frame_layWays_145
def c_Frame_layWays_142 : List eg_I := .inl (142, 2, .lload 13, 0, 0) :: c_Frame_layWays_144
def c_Frame_layWays_141 : List eg_I := .inl (141, 1, .laload, 0, 0) :: c_Frame_layWays_142
def c_Frame_layWays_140 : List eg_I := .inl (140, 1, .iconst (0), 0, 0) :: c_Frame_layWays_141
def c_Frame_layWays_139 : List eg_I := .inl (139, 1, .aload 1, 0, 0) :: c_Frame_layWays_140
def c_Frame_layWays_138 : List eg_I := .inl (138, 1, .lmul, 0, 0) :: c_Frame_layWays_139
def c_Frame_layWays_136 : List eg_I := .inl (136, 2, .lload 11, 0, 0) :: c_Frame_layWays_138
def c_Frame_layWays_135 : List eg_I := .inl (135, 1, .i2l, 0, 0) :: c_Frame_layWays_136
def c_Frame_layWays_134 : List eg_I := .inl (134, 1, .iload 2, 0, 0) :: c_Frame_layWays_135
def c_Frame_layWays_133 : List eg_I := .inl (133, 1, .iconst (1), 0, 0) :: c_Frame_layWays_134
def c_Frame_layWays_132 : List eg_I := .inl (132, 1, .aload 0, 0, 0) :: c_Frame_layWays_133
def c_Frame_layWays_129 : List eg_I := .inr (129, 1, 13, n_Frame_setWay, 4, 5, 0, 0) :: c_Frame_layWays_132
def c_Frame_layWays_128 : List eg_I := .inl (128, 1, .laload, 0, 0) :: c_Frame_layWays_129
def c_Frame_layWays_127 : List eg_I := .inl (127, 1, .iconst (2), 0, 0) :: c_Frame_layWays_128
def c_Frame_layWays_126 : List eg_I := .inl (126, 1, .aload 1, 0, 0) :: c_Frame_layWays_127
def c_Frame_layWays_125 : List eg_I := .inl (125, 1, .laload, 0, 0) :: c_Frame_layWays_126
def c_Frame_layWays_124 : List eg_I := .inl (124, 1, .iconst (1), 0, 0) :: c_Frame_layWays_125
def c_Frame_layWays_123 : List eg_I := .inl (123, 1, .aload 1, 0, 0) :: c_Frame_layWays_124
def c_Frame_layWays_122 : List eg_I := .inl (122, 1, .laload, 0, 0) :: c_Frame_layWays_123
def c_Frame_layWays_121 : List eg_I := .inl (121, 1, .iconst (0), 0, 0) :: c_Frame_layWays_122
def c_Frame_layWays_120 : List eg_I := .inl (120, 1, .aload 1, 0, 0) :: c_Frame_layWays_121
def c_Frame_layWays_119 : List eg_I := .inl (119, 1, .iconst (0), 0, 0) :: c_Frame_layWays_120
def c_Frame_layWays_118 : List eg_I := .inl (118, 1, .aload 0, 0, 0) :: c_Frame_layWays_119
def c_Frame_layWays_116 : List eg_I := .inl (116, 2, .lstore 13, 0, 0) :: c_Frame_layWays_118
def c_Frame_layWays_115 : List eg_I := .inl (115, 1, .ladd, 0, 0) :: c_Frame_layWays_116
def c_Frame_layWays_114 : List eg_I := .inl (114, 1, .lmul, 0, 0) :: c_Frame_layWays_115
def c_Frame_layWays_113 : List eg_I := .inl (113, 1, .i2l, 0, 0) :: c_Frame_layWays_114
def c_Frame_layWays_111 : List eg_I := .inl (111, 2, .iload 4, 0, 0) :: c_Frame_layWays_113
def c_Frame_layWays_110 : List eg_I := .inl (110, 1, .laload, 0, 0) :: c_Frame_layWays_111
def c_Frame_layWays_109 : List eg_I := .inl (109, 1, .iconst (2), 0, 0) :: c_Frame_layWays_110
def c_Frame_layWays_108 : List eg_I := .inl (108, 1, .aload 1, 0, 0) :: c_Frame_layWays_109
def c_Frame_layWays_107 : List eg_I := .inl (107, 1, .ladd, 0, 0) :: c_Frame_layWays_108
def c_Frame_layWays_106 : List eg_I := .inl (106, 1, .lmul, 0, 0) :: c_Frame_layWays_107
def c_Frame_layWays_105 : List eg_I := .inl (105, 1, .i2l, 0, 0) :: c_Frame_layWays_106
def c_Frame_layWays_104 : List eg_I := .inl (104, 1, .iload 3, 0, 0) :: c_Frame_layWays_105
def c_Frame_layWays_103 : List eg_I := .inl (103, 1, .laload, 0, 0) :: c_Frame_layWays_104
def c_Frame_layWays_102 : List eg_I := .inl (102, 1, .iconst (1), 0, 0) :: c_Frame_layWays_103
def c_Frame_layWays_101 : List eg_I := .inl (101, 1, .aload 1, 0, 0) :: c_Frame_layWays_102
def c_Frame_layWays_100 : List eg_I := .inl (100, 1, .lmul, 0, 0) :: c_Frame_layWays_101
def c_Frame_layWays_99 : List eg_I := .inl (99, 1, .i2l, 0, 0) :: c_Frame_layWays_100
def c_Frame_layWays_98 : List eg_I := .inl (98, 1, .iload 2, 0, 0) :: c_Frame_layWays_99
def c_Frame_layWays_97 : List eg_I := .inl (97, 1, .laload, 0, 0) :: c_Frame_layWays_98
def c_Frame_layWays_96 : List eg_I := .inl (96, 1, .iconst (0), 0, 0) :: c_Frame_layWays_97
def c_Frame_layWays_95 : List eg_I := .inl (95, 1, .aload 1, 0, 0) :: c_Frame_layWays_96
def c_Frame_layWays_93 : List eg_I := .inl (93, 2, .lstore 11, 0, 0) :: c_Frame_layWays_95
def c_Frame_layWays_92 : List eg_I := .inl (92, 1, .ladd, 0, 0) :: c_Frame_layWays_93
def c_Frame_layWays_91 : List eg_I := .inl (91, 1, .lmul, 0, 0) :: c_Frame_layWays_92
def c_Frame_layWays_90 : List eg_I := .inl (90, 1, .laload, 0, 0) :: c_Frame_layWays_91
def c_Frame_layWays_89 : List eg_I := .inl (89, 1, .iconst (2), 0, 0) :: c_Frame_layWays_90
def c_Frame_layWays_88 : List eg_I := .inl (88, 1, .aload 1, 0, 0) :: c_Frame_layWays_89
def c_Frame_layWays_87 : List eg_I := .inl (87, 1, .laload, 0, 0) :: c_Frame_layWays_88
def c_Frame_layWays_86 : List eg_I := .inl (86, 1, .iconst (2), 0, 0) :: c_Frame_layWays_87
def c_Frame_layWays_85 : List eg_I := .inl (85, 1, .aload 1, 0, 0) :: c_Frame_layWays_86
def c_Frame_layWays_84 : List eg_I := .inl (84, 1, .ladd, 0, 0) :: c_Frame_layWays_85
def c_Frame_layWays_83 : List eg_I := .inl (83, 1, .lmul, 0, 0) :: c_Frame_layWays_84
def c_Frame_layWays_82 : List eg_I := .inl (82, 1, .laload, 0, 0) :: c_Frame_layWays_83
def c_Frame_layWays_81 : List eg_I := .inl (81, 1, .iconst (1), 0, 0) :: c_Frame_layWays_82
def c_Frame_layWays_80 : List eg_I := .inl (80, 1, .aload 1, 0, 0) :: c_Frame_layWays_81
def c_Frame_layWays_79 : List eg_I := .inl (79, 1, .laload, 0, 0) :: c_Frame_layWays_80
def c_Frame_layWays_78 : List eg_I := .inl (78, 1, .iconst (1), 0, 0) :: c_Frame_layWays_79
def c_Frame_layWays_77 : List eg_I := .inl (77, 1, .aload 1, 0, 0) :: c_Frame_layWays_78
def c_Frame_layWays_76 : List eg_I := .inl (76, 1, .lmul, 0, 0) :: c_Frame_layWays_77
def c_Frame_layWays_75 : List eg_I := .inl (75, 1, .laload, 0, 0) :: c_Frame_layWays_76
def c_Frame_layWays_74 : List eg_I := .inl (74, 1, .iconst (0), 0, 0) :: c_Frame_layWays_75
def c_Frame_layWays_73 : List eg_I := .inl (73, 1, .aload 1, 0, 0) :: c_Frame_layWays_74
def c_Frame_layWays_72 : List eg_I := .inl (72, 1, .laload, 0, 0) :: c_Frame_layWays_73
def c_Frame_layWays_71 : List eg_I := .inl (71, 1, .iconst (0), 0, 0) :: c_Frame_layWays_72
def c_Frame_layWays_70 : List eg_I := .inl (70, 1, .aload 1, 0, 0) :: c_Frame_layWays_71
def c_Frame_layWays_69 : List eg_I := .inl (69, 1, .ireturn, 0, 1) :: []
def c_Frame_layWays_68 : List eg_I := .inl (68, 1, .iconst (0), 0, 0) :: c_Frame_layWays_69
def c_Frame_layWays_65 : List eg_I := .inl (65, 3, .ifCond .ne (5), 70, 0) :: c_Frame_layWays_68
def c_Frame_layWays_64 : List eg_I := .inl (64, 1, .lcmp, 0, 0) :: c_Frame_layWays_65
def c_Frame_layWays_63 : List eg_I := .inl (63, 1, .sipush (0), 0, 0) :: c_Frame_layWays_64
def c_Frame_layWays_61 : List eg_I := .inl (61, 2, .lload 9, 0, 0) :: c_Frame_layWays_63
def c_Frame_layWays_58 : List eg_I := .inl (58, 3, .ifCond .ne (12), 70, 0) :: c_Frame_layWays_61
def c_Frame_layWays_57 : List eg_I := .inl (57, 1, .lcmp, 0, 0) :: c_Frame_layWays_58
def c_Frame_layWays_56 : List eg_I := .inl (56, 1, .sipush (0), 0, 0) :: c_Frame_layWays_57
def c_Frame_layWays_54 : List eg_I := .inl (54, 2, .lload 7, 0, 0) :: c_Frame_layWays_56
def c_Frame_layWays_51 : List eg_I := .inl (51, 3, .ifCond .ne (19), 70, 0) :: c_Frame_layWays_54
def c_Frame_layWays_50 : List eg_I := .inl (50, 1, .lcmp, 0, 0) :: c_Frame_layWays_51
def c_Frame_layWays_49 : List eg_I := .inl (49, 1, .sipush (0), 0, 0) :: c_Frame_layWays_50
def c_Frame_layWays_47 : List eg_I := .inl (47, 2, .lload 5, 0, 0) :: c_Frame_layWays_49
def c_Frame_layWays_45 : List eg_I := .inl (45, 2, .lstore 9, 0, 0) :: c_Frame_layWays_47
def c_Frame_layWays_44 : List eg_I := .inl (44, 1, .lsub, 0, 0) :: c_Frame_layWays_45
def c_Frame_layWays_43 : List eg_I := .inl (43, 1, .lmul, 0, 0) :: c_Frame_layWays_44
def c_Frame_layWays_42 : List eg_I := .inl (42, 1, .i2l, 0, 0) :: c_Frame_layWays_43
def c_Frame_layWays_41 : List eg_I := .inl (41, 1, .iload 2, 0, 0) :: c_Frame_layWays_42
def c_Frame_layWays_40 : List eg_I := .inl (40, 1, .laload, 0, 0) :: c_Frame_layWays_41
def c_Frame_layWays_39 : List eg_I := .inl (39, 1, .iconst (1), 0, 0) :: c_Frame_layWays_40
def c_Frame_layWays_38 : List eg_I := .inl (38, 1, .aload 1, 0, 0) :: c_Frame_layWays_39
def c_Frame_layWays_37 : List eg_I := .inl (37, 1, .lmul, 0, 0) :: c_Frame_layWays_38
def c_Frame_layWays_36 : List eg_I := .inl (36, 1, .i2l, 0, 0) :: c_Frame_layWays_37
def c_Frame_layWays_35 : List eg_I := .inl (35, 1, .iload 3, 0, 0) :: c_Frame_layWays_36
def c_Frame_layWays_34 : List eg_I := .inl (34, 1, .laload, 0, 0) :: c_Frame_layWays_35
def c_Frame_layWays_33 : List eg_I := .inl (33, 1, .iconst (0), 0, 0) :: c_Frame_layWays_34
def c_Frame_layWays_32 : List eg_I := .inl (32, 1, .aload 1, 0, 0) :: c_Frame_layWays_33
def c_Frame_layWays_30 : List eg_I := .inl (30, 2, .lstore 7, 0, 0) :: c_Frame_layWays_32
def c_Frame_layWays_29 : List eg_I := .inl (29, 1, .lsub, 0, 0) :: c_Frame_layWays_30
def c_Frame_layWays_28 : List eg_I := .inl (28, 1, .lmul, 0, 0) :: c_Frame_layWays_29
def c_Frame_layWays_27 : List eg_I := .inl (27, 1, .i2l, 0, 0) :: c_Frame_layWays_28
def c_Frame_layWays_25 : List eg_I := .inl (25, 2, .iload 4, 0, 0) :: c_Frame_layWays_27
def c_Frame_layWays_24 : List eg_I := .inl (24, 1, .laload, 0, 0) :: c_Frame_layWays_25
def c_Frame_layWays_23 : List eg_I := .inl (23, 1, .iconst (0), 0, 0) :: c_Frame_layWays_24
def c_Frame_layWays_22 : List eg_I := .inl (22, 1, .aload 1, 0, 0) :: c_Frame_layWays_23
def c_Frame_layWays_21 : List eg_I := .inl (21, 1, .lmul, 0, 0) :: c_Frame_layWays_22
def c_Frame_layWays_20 : List eg_I := .inl (20, 1, .i2l, 0, 0) :: c_Frame_layWays_21
def c_Frame_layWays_19 : List eg_I := .inl (19, 1, .iload 2, 0, 0) :: c_Frame_layWays_20
def c_Frame_layWays_18 : List eg_I := .inl (18, 1, .laload, 0, 0) :: c_Frame_layWays_19
def c_Frame_layWays_17 : List eg_I := .inl (17, 1, .iconst (2), 0, 0) :: c_Frame_layWays_18
def c_Frame_layWays_16 : List eg_I := .inl (16, 1, .aload 1, 0, 0) :: c_Frame_layWays_17
def c_Frame_layWays_14 : List eg_I := .inl (14, 2, .lstore 5, 0, 0) :: c_Frame_layWays_16
def c_Frame_layWays_13 : List eg_I := .inl (13, 1, .lsub, 0, 0) :: c_Frame_layWays_14
def c_Frame_layWays_12 : List eg_I := .inl (12, 1, .lmul, 0, 0) :: c_Frame_layWays_13
def c_Frame_layWays_11 : List eg_I := .inl (11, 1, .i2l, 0, 0) :: c_Frame_layWays_12
def c_Frame_layWays_10 : List eg_I := .inl (10, 1, .iload 3, 0, 0) :: c_Frame_layWays_11
def c_Frame_layWays_9 : List eg_I := .inl (9, 1, .laload, 0, 0) :: c_Frame_layWays_10
def c_Frame_layWays_8 : List eg_I := .inl (8, 1, .iconst (2), 0, 0) :: c_Frame_layWays_9
def c_Frame_layWays_7 : List eg_I := .inl (7, 1, .aload 1, 0, 0) :: c_Frame_layWays_8
def c_Frame_layWays_6 : List eg_I := .inl (6, 1, .lmul, 0, 0) :: c_Frame_layWays_7
def c_Frame_layWays_5 : List eg_I := .inl (5, 1, .i2l, 0, 0) :: c_Frame_layWays_6
def c_Frame_layWays_3 : List eg_I := .inl (3, 2, .iload 4, 0, 0) :: c_Frame_layWays_5
def c_Frame_layWays_2 : List eg_I := .inl (2, 1, .laload, 0, 0) :: c_Frame_layWays_3
def c_Frame_layWays_1 : List eg_I := .inl (1, 1, .iconst (1), 0, 0) :: c_Frame_layWays_2
def c_Frame_layWays_0 : List eg_I := .inl (0, 1, .aload 1, 0, 0) :: c_Frame_layWays_1
section
variable {rm : Room} {K : Nat → Nat → Nat → eg_Lo → List Value → List eg_E → Prop} {Q : Option Value → List eg_E → Prop} {kc ks : Nat} {loc : eg_Lo} {st : List Value} {h : List eg_E}
theorem s_Frame_layWays_0 {x : Nat} {l0 : Option Value} {l : eg_Lo} : wps rm K Q c_Frame_layWays_0 kc ks (l0 :: some (.ref x) :: l) (st) h = wps rm K Q c_Frame_layWays_1 kc ks (l0 :: some (.ref x) :: l) (.ref x :: st) h := gk_aload rfl
theorem s_Frame_layWays_1  : wps rm K Q c_Frame_layWays_1 kc ks loc (st) h = wps rm K Q c_Frame_layWays_2 kc ks loc (.int (1) :: st) h := gk_ic (by decide)
theorem s_Frame_layWays_2 {x : Nat} {i : Int32} : wps rm K Q c_Frame_layWays_2 kc ks loc (.int i :: .ref (x + 1) :: st) h = eg_la h x i (fun v => wps rm K Q c_Frame_layWays_3 kc ks loc (.long v :: st) h) := gk_laload
theorem s_Frame_layWays_3 {x : Int32} {l0 l1 l2 l3 : Option Value} {l : eg_Lo} : wps rm K Q c_Frame_layWays_3 kc ks (l0 :: l1 :: l2 :: l3 :: some (.int x) :: l) (st) h = wps rm K Q c_Frame_layWays_5 kc ks (l0 :: l1 :: l2 :: l3 :: some (.int x) :: l) (.int x :: st) h := gk_iload rfl
theorem s_Frame_layWays_5 {x : Int32} : wps rm K Q c_Frame_layWays_5 kc ks loc (.int x :: st) h = wps rm K Q c_Frame_layWays_6 kc ks loc (.long (x.toInt64) :: st) h := gk_i2l
theorem s_Frame_layWays_6 {x y : Int64} : wps rm K Q c_Frame_layWays_6 kc ks loc (.long y :: .long x :: st) h = wps rm K Q c_Frame_layWays_7 kc ks loc (.long (x * y) :: st) h := gk_lmul
theorem s_Frame_layWays_7 {x : Nat} {l0 : Option Value} {l : eg_Lo} : wps rm K Q c_Frame_layWays_7 kc ks (l0 :: some (.ref x) :: l) (st) h = wps rm K Q c_Frame_layWays_8 kc ks (l0 :: some (.ref x) :: l) (.ref x :: st) h := gk_aload rfl
theorem s_Frame_layWays_8  : wps rm K Q c_Frame_layWays_8 kc ks loc (st) h = wps rm K Q c_Frame_layWays_9 kc ks loc (.int (2) :: st) h := gk_ic (by decide)
theorem s_Frame_layWays_9 {x : Nat} {i : Int32} : wps rm K Q c_Frame_layWays_9 kc ks loc (.int i :: .ref (x + 1) :: st) h = eg_la h x i (fun v => wps rm K Q c_Frame_layWays_10 kc ks loc (.long v :: st) h) := gk_laload
theorem s_Frame_layWays_10 {x : Int32} {l0 l1 l2 : Option Value} {l : eg_Lo} : wps rm K Q c_Frame_layWays_10 kc ks (l0 :: l1 :: l2 :: some (.int x) :: l) (st) h = wps rm K Q c_Frame_layWays_11 kc ks (l0 :: l1 :: l2 :: some (.int x) :: l) (.int x :: st) h := gk_iload rfl
theorem s_Frame_layWays_11 {x : Int32} : wps rm K Q c_Frame_layWays_11 kc ks loc (.int x :: st) h = wps rm K Q c_Frame_layWays_12 kc ks loc (.long (x.toInt64) :: st) h := gk_i2l
theorem s_Frame_layWays_12 {x y : Int64} : wps rm K Q c_Frame_layWays_12 kc ks loc (.long y :: .long x :: st) h = wps rm K Q c_Frame_layWays_13 kc ks loc (.long (x * y) :: st) h := gk_lmul
theorem s_Frame_layWays_13 {x y : Int64} : wps rm K Q c_Frame_layWays_13 kc ks loc (.long y :: .long x :: st) h = wps rm K Q c_Frame_layWays_14 kc ks loc (.long (x - y) :: st) h := gk_lsub
theorem s_Frame_layWays_14 {x : Int64} : wps rm K Q c_Frame_layWays_14 kc ks loc (.long x :: st) h = wps rm K Q c_Frame_layWays_16 kc ks (eg_set2 loc 5 (.long x)) (st) h := gk_lstore
theorem s_Frame_layWays_16 {x : Nat} {l0 : Option Value} {l : eg_Lo} : wps rm K Q c_Frame_layWays_16 kc ks (l0 :: some (.ref x) :: l) (st) h = wps rm K Q c_Frame_layWays_17 kc ks (l0 :: some (.ref x) :: l) (.ref x :: st) h := gk_aload rfl
theorem s_Frame_layWays_17  : wps rm K Q c_Frame_layWays_17 kc ks loc (st) h = wps rm K Q c_Frame_layWays_18 kc ks loc (.int (2) :: st) h := gk_ic (by decide)
theorem s_Frame_layWays_18 {x : Nat} {i : Int32} : wps rm K Q c_Frame_layWays_18 kc ks loc (.int i :: .ref (x + 1) :: st) h = eg_la h x i (fun v => wps rm K Q c_Frame_layWays_19 kc ks loc (.long v :: st) h) := gk_laload
theorem s_Frame_layWays_19 {x : Int32} {l0 l1 : Option Value} {l : eg_Lo} : wps rm K Q c_Frame_layWays_19 kc ks (l0 :: l1 :: some (.int x) :: l) (st) h = wps rm K Q c_Frame_layWays_20 kc ks (l0 :: l1 :: some (.int x) :: l) (.int x :: st) h := gk_iload rfl
theorem s_Frame_layWays_20 {x : Int32} : wps rm K Q c_Frame_layWays_20 kc ks loc (.int x :: st) h = wps rm K Q c_Frame_layWays_21 kc ks loc (.long (x.toInt64) :: st) h := gk_i2l
theorem s_Frame_layWays_21 {x y : Int64} : wps rm K Q c_Frame_layWays_21 kc ks loc (.long y :: .long x :: st) h = wps rm K Q c_Frame_layWays_22 kc ks loc (.long (x * y) :: st) h := gk_lmul
theorem s_Frame_layWays_22 {x : Nat} {l0 : Option Value} {l : eg_Lo} : wps rm K Q c_Frame_layWays_22 kc ks (l0 :: some (.ref x) :: l) (st) h = wps rm K Q c_Frame_layWays_23 kc ks (l0 :: some (.ref x) :: l) (.ref x :: st) h := gk_aload rfl
theorem s_Frame_layWays_23  : wps rm K Q c_Frame_layWays_23 kc ks loc (st) h = wps rm K Q c_Frame_layWays_24 kc ks loc (.int (0) :: st) h := gk_ic (by decide)
theorem s_Frame_layWays_24 {x : Nat} {i : Int32} : wps rm K Q c_Frame_layWays_24 kc ks loc (.int i :: .ref (x + 1) :: st) h = eg_la h x i (fun v => wps rm K Q c_Frame_layWays_25 kc ks loc (.long v :: st) h) := gk_laload
theorem s_Frame_layWays_25 {x : Int32} {l0 l1 l2 l3 : Option Value} {l : eg_Lo} : wps rm K Q c_Frame_layWays_25 kc ks (l0 :: l1 :: l2 :: l3 :: some (.int x) :: l) (st) h = wps rm K Q c_Frame_layWays_27 kc ks (l0 :: l1 :: l2 :: l3 :: some (.int x) :: l) (.int x :: st) h := gk_iload rfl
theorem s_Frame_layWays_27 {x : Int32} : wps rm K Q c_Frame_layWays_27 kc ks loc (.int x :: st) h = wps rm K Q c_Frame_layWays_28 kc ks loc (.long (x.toInt64) :: st) h := gk_i2l
theorem s_Frame_layWays_28 {x y : Int64} : wps rm K Q c_Frame_layWays_28 kc ks loc (.long y :: .long x :: st) h = wps rm K Q c_Frame_layWays_29 kc ks loc (.long (x * y) :: st) h := gk_lmul
theorem s_Frame_layWays_29 {x y : Int64} : wps rm K Q c_Frame_layWays_29 kc ks loc (.long y :: .long x :: st) h = wps rm K Q c_Frame_layWays_30 kc ks loc (.long (x - y) :: st) h := gk_lsub
theorem s_Frame_layWays_30 {x : Int64} : wps rm K Q c_Frame_layWays_30 kc ks loc (.long x :: st) h = wps rm K Q c_Frame_layWays_32 kc ks (eg_set2 loc 7 (.long x)) (st) h := gk_lstore
theorem s_Frame_layWays_32 {x : Nat} {l0 : Option Value} {l : eg_Lo} : wps rm K Q c_Frame_layWays_32 kc ks (l0 :: some (.ref x) :: l) (st) h = wps rm K Q c_Frame_layWays_33 kc ks (l0 :: some (.ref x) :: l) (.ref x :: st) h := gk_aload rfl
theorem s_Frame_layWays_33  : wps rm K Q c_Frame_layWays_33 kc ks loc (st) h = wps rm K Q c_Frame_layWays_34 kc ks loc (.int (0) :: st) h := gk_ic (by decide)
theorem s_Frame_layWays_34 {x : Nat} {i : Int32} : wps rm K Q c_Frame_layWays_34 kc ks loc (.int i :: .ref (x + 1) :: st) h = eg_la h x i (fun v => wps rm K Q c_Frame_layWays_35 kc ks loc (.long v :: st) h) := gk_laload
theorem s_Frame_layWays_35 {x : Int32} {l0 l1 l2 : Option Value} {l : eg_Lo} : wps rm K Q c_Frame_layWays_35 kc ks (l0 :: l1 :: l2 :: some (.int x) :: l) (st) h = wps rm K Q c_Frame_layWays_36 kc ks (l0 :: l1 :: l2 :: some (.int x) :: l) (.int x :: st) h := gk_iload rfl
theorem s_Frame_layWays_36 {x : Int32} : wps rm K Q c_Frame_layWays_36 kc ks loc (.int x :: st) h = wps rm K Q c_Frame_layWays_37 kc ks loc (.long (x.toInt64) :: st) h := gk_i2l
theorem s_Frame_layWays_37 {x y : Int64} : wps rm K Q c_Frame_layWays_37 kc ks loc (.long y :: .long x :: st) h = wps rm K Q c_Frame_layWays_38 kc ks loc (.long (x * y) :: st) h := gk_lmul
theorem s_Frame_layWays_38 {x : Nat} {l0 : Option Value} {l : eg_Lo} : wps rm K Q c_Frame_layWays_38 kc ks (l0 :: some (.ref x) :: l) (st) h = wps rm K Q c_Frame_layWays_39 kc ks (l0 :: some (.ref x) :: l) (.ref x :: st) h := gk_aload rfl
theorem s_Frame_layWays_39  : wps rm K Q c_Frame_layWays_39 kc ks loc (st) h = wps rm K Q c_Frame_layWays_40 kc ks loc (.int (1) :: st) h := gk_ic (by decide)
theorem s_Frame_layWays_40 {x : Nat} {i : Int32} : wps rm K Q c_Frame_layWays_40 kc ks loc (.int i :: .ref (x + 1) :: st) h = eg_la h x i (fun v => wps rm K Q c_Frame_layWays_41 kc ks loc (.long v :: st) h) := gk_laload
theorem s_Frame_layWays_41 {x : Int32} {l0 l1 : Option Value} {l : eg_Lo} : wps rm K Q c_Frame_layWays_41 kc ks (l0 :: l1 :: some (.int x) :: l) (st) h = wps rm K Q c_Frame_layWays_42 kc ks (l0 :: l1 :: some (.int x) :: l) (.int x :: st) h := gk_iload rfl
theorem s_Frame_layWays_42 {x : Int32} : wps rm K Q c_Frame_layWays_42 kc ks loc (.int x :: st) h = wps rm K Q c_Frame_layWays_43 kc ks loc (.long (x.toInt64) :: st) h := gk_i2l
theorem s_Frame_layWays_43 {x y : Int64} : wps rm K Q c_Frame_layWays_43 kc ks loc (.long y :: .long x :: st) h = wps rm K Q c_Frame_layWays_44 kc ks loc (.long (x * y) :: st) h := gk_lmul
theorem s_Frame_layWays_44 {x y : Int64} : wps rm K Q c_Frame_layWays_44 kc ks loc (.long y :: .long x :: st) h = wps rm K Q c_Frame_layWays_45 kc ks loc (.long (x - y) :: st) h := gk_lsub
theorem s_Frame_layWays_45 {x : Int64} : wps rm K Q c_Frame_layWays_45 kc ks loc (.long x :: st) h = wps rm K Q c_Frame_layWays_47 kc ks (eg_set2 loc 9 (.long x)) (st) h := gk_lstore
theorem s_Frame_layWays_47 {x : Int64} {l0 l1 l2 l3 l4 : Option Value} {l : eg_Lo} : wps rm K Q c_Frame_layWays_47 kc ks (l0 :: l1 :: l2 :: l3 :: l4 :: some (.long x) :: l) (st) h = wps rm K Q c_Frame_layWays_49 kc ks (l0 :: l1 :: l2 :: l3 :: l4 :: some (.long x) :: l) (.long x :: st) h := gk_lload rfl
theorem s_Frame_layWays_49  : wps rm K Q c_Frame_layWays_49 kc ks loc (st) h = wps rm K Q c_Frame_layWays_50 kc ks loc (.long (0) :: st) h := gk_lc (by decide)
theorem s_Frame_layWays_50 {x y : Int64} : wps rm K Q c_Frame_layWays_50 kc ks loc (.long y :: .long x :: st) h = wps rm K Q c_Frame_layWays_51 kc ks loc (.int (lg_cmp x y) :: st) h := gk_lcmp
theorem s_Frame_layWays_51 {x : Int32} : wps rm K Q c_Frame_layWays_51 kc ks loc (.int x :: st) h = ((¬ x = 0 → K 70 kc ks loc st h) ∧ (x = 0 → wps rm K Q c_Frame_layWays_54 kc ks loc (st) h)) := gk_if1_ne
theorem s_Frame_layWays_54 {x : Int64} {l0 l1 l2 l3 l4 l5 l6 : Option Value} {l : eg_Lo} : wps rm K Q c_Frame_layWays_54 kc ks (l0 :: l1 :: l2 :: l3 :: l4 :: l5 :: l6 :: some (.long x) :: l) (st) h = wps rm K Q c_Frame_layWays_56 kc ks (l0 :: l1 :: l2 :: l3 :: l4 :: l5 :: l6 :: some (.long x) :: l) (.long x :: st) h := gk_lload rfl
theorem s_Frame_layWays_56  : wps rm K Q c_Frame_layWays_56 kc ks loc (st) h = wps rm K Q c_Frame_layWays_57 kc ks loc (.long (0) :: st) h := gk_lc (by decide)
theorem s_Frame_layWays_57 {x y : Int64} : wps rm K Q c_Frame_layWays_57 kc ks loc (.long y :: .long x :: st) h = wps rm K Q c_Frame_layWays_58 kc ks loc (.int (lg_cmp x y) :: st) h := gk_lcmp
theorem s_Frame_layWays_58 {x : Int32} : wps rm K Q c_Frame_layWays_58 kc ks loc (.int x :: st) h = ((¬ x = 0 → K 70 kc ks loc st h) ∧ (x = 0 → wps rm K Q c_Frame_layWays_61 kc ks loc (st) h)) := gk_if1_ne
theorem s_Frame_layWays_61 {x : Int64} {l0 l1 l2 l3 l4 l5 l6 l7 l8 : Option Value} {l : eg_Lo} : wps rm K Q c_Frame_layWays_61 kc ks (l0 :: l1 :: l2 :: l3 :: l4 :: l5 :: l6 :: l7 :: l8 :: some (.long x) :: l) (st) h = wps rm K Q c_Frame_layWays_63 kc ks (l0 :: l1 :: l2 :: l3 :: l4 :: l5 :: l6 :: l7 :: l8 :: some (.long x) :: l) (.long x :: st) h := gk_lload rfl
theorem s_Frame_layWays_63  : wps rm K Q c_Frame_layWays_63 kc ks loc (st) h = wps rm K Q c_Frame_layWays_64 kc ks loc (.long (0) :: st) h := gk_lc (by decide)
theorem s_Frame_layWays_64 {x y : Int64} : wps rm K Q c_Frame_layWays_64 kc ks loc (.long y :: .long x :: st) h = wps rm K Q c_Frame_layWays_65 kc ks loc (.int (lg_cmp x y) :: st) h := gk_lcmp
theorem s_Frame_layWays_65 {x : Int32} : wps rm K Q c_Frame_layWays_65 kc ks loc (.int x :: st) h = ((¬ x = 0 → K 70 kc ks loc st h) ∧ (x = 0 → wps rm K Q c_Frame_layWays_68 kc ks loc (st) h)) := gk_if1_ne
theorem s_Frame_layWays_68  : wps rm K Q c_Frame_layWays_68 kc ks loc (st) h = wps rm K Q c_Frame_layWays_69 kc ks loc (.int (0) :: st) h := gk_ic (by decide)
theorem s_Frame_layWays_69 {x : Int32} : wps rm K Q c_Frame_layWays_69 kc ks loc ([.int x]) h = (kc = rm.cells ∧ ((1 : Nat) = 1 → x = 0 ∨ x = 1) ∧ Q (some (.int x)) h) := gk_iret
theorem s_Frame_layWays_70 {x : Nat} {l0 : Option Value} {l : eg_Lo} : wps rm K Q c_Frame_layWays_70 kc ks (l0 :: some (.ref x) :: l) (st) h = wps rm K Q c_Frame_layWays_71 kc ks (l0 :: some (.ref x) :: l) (.ref x :: st) h := gk_aload rfl
theorem s_Frame_layWays_71  : wps rm K Q c_Frame_layWays_71 kc ks loc (st) h = wps rm K Q c_Frame_layWays_72 kc ks loc (.int (0) :: st) h := gk_ic (by decide)
theorem s_Frame_layWays_72 {x : Nat} {i : Int32} : wps rm K Q c_Frame_layWays_72 kc ks loc (.int i :: .ref (x + 1) :: st) h = eg_la h x i (fun v => wps rm K Q c_Frame_layWays_73 kc ks loc (.long v :: st) h) := gk_laload
theorem s_Frame_layWays_73 {x : Nat} {l0 : Option Value} {l : eg_Lo} : wps rm K Q c_Frame_layWays_73 kc ks (l0 :: some (.ref x) :: l) (st) h = wps rm K Q c_Frame_layWays_74 kc ks (l0 :: some (.ref x) :: l) (.ref x :: st) h := gk_aload rfl
theorem s_Frame_layWays_74  : wps rm K Q c_Frame_layWays_74 kc ks loc (st) h = wps rm K Q c_Frame_layWays_75 kc ks loc (.int (0) :: st) h := gk_ic (by decide)
theorem s_Frame_layWays_75 {x : Nat} {i : Int32} : wps rm K Q c_Frame_layWays_75 kc ks loc (.int i :: .ref (x + 1) :: st) h = eg_la h x i (fun v => wps rm K Q c_Frame_layWays_76 kc ks loc (.long v :: st) h) := gk_laload
theorem s_Frame_layWays_76 {x y : Int64} : wps rm K Q c_Frame_layWays_76 kc ks loc (.long y :: .long x :: st) h = wps rm K Q c_Frame_layWays_77 kc ks loc (.long (x * y) :: st) h := gk_lmul
theorem s_Frame_layWays_77 {x : Nat} {l0 : Option Value} {l : eg_Lo} : wps rm K Q c_Frame_layWays_77 kc ks (l0 :: some (.ref x) :: l) (st) h = wps rm K Q c_Frame_layWays_78 kc ks (l0 :: some (.ref x) :: l) (.ref x :: st) h := gk_aload rfl
theorem s_Frame_layWays_78  : wps rm K Q c_Frame_layWays_78 kc ks loc (st) h = wps rm K Q c_Frame_layWays_79 kc ks loc (.int (1) :: st) h := gk_ic (by decide)
theorem s_Frame_layWays_79 {x : Nat} {i : Int32} : wps rm K Q c_Frame_layWays_79 kc ks loc (.int i :: .ref (x + 1) :: st) h = eg_la h x i (fun v => wps rm K Q c_Frame_layWays_80 kc ks loc (.long v :: st) h) := gk_laload
theorem s_Frame_layWays_80 {x : Nat} {l0 : Option Value} {l : eg_Lo} : wps rm K Q c_Frame_layWays_80 kc ks (l0 :: some (.ref x) :: l) (st) h = wps rm K Q c_Frame_layWays_81 kc ks (l0 :: some (.ref x) :: l) (.ref x :: st) h := gk_aload rfl
theorem s_Frame_layWays_81  : wps rm K Q c_Frame_layWays_81 kc ks loc (st) h = wps rm K Q c_Frame_layWays_82 kc ks loc (.int (1) :: st) h := gk_ic (by decide)
theorem s_Frame_layWays_82 {x : Nat} {i : Int32} : wps rm K Q c_Frame_layWays_82 kc ks loc (.int i :: .ref (x + 1) :: st) h = eg_la h x i (fun v => wps rm K Q c_Frame_layWays_83 kc ks loc (.long v :: st) h) := gk_laload
theorem s_Frame_layWays_83 {x y : Int64} : wps rm K Q c_Frame_layWays_83 kc ks loc (.long y :: .long x :: st) h = wps rm K Q c_Frame_layWays_84 kc ks loc (.long (x * y) :: st) h := gk_lmul
theorem s_Frame_layWays_84 {x y : Int64} : wps rm K Q c_Frame_layWays_84 kc ks loc (.long y :: .long x :: st) h = wps rm K Q c_Frame_layWays_85 kc ks loc (.long (x + y) :: st) h := gk_ladd
theorem s_Frame_layWays_85 {x : Nat} {l0 : Option Value} {l : eg_Lo} : wps rm K Q c_Frame_layWays_85 kc ks (l0 :: some (.ref x) :: l) (st) h = wps rm K Q c_Frame_layWays_86 kc ks (l0 :: some (.ref x) :: l) (.ref x :: st) h := gk_aload rfl
theorem s_Frame_layWays_86  : wps rm K Q c_Frame_layWays_86 kc ks loc (st) h = wps rm K Q c_Frame_layWays_87 kc ks loc (.int (2) :: st) h := gk_ic (by decide)
theorem s_Frame_layWays_87 {x : Nat} {i : Int32} : wps rm K Q c_Frame_layWays_87 kc ks loc (.int i :: .ref (x + 1) :: st) h = eg_la h x i (fun v => wps rm K Q c_Frame_layWays_88 kc ks loc (.long v :: st) h) := gk_laload
theorem s_Frame_layWays_88 {x : Nat} {l0 : Option Value} {l : eg_Lo} : wps rm K Q c_Frame_layWays_88 kc ks (l0 :: some (.ref x) :: l) (st) h = wps rm K Q c_Frame_layWays_89 kc ks (l0 :: some (.ref x) :: l) (.ref x :: st) h := gk_aload rfl
theorem s_Frame_layWays_89  : wps rm K Q c_Frame_layWays_89 kc ks loc (st) h = wps rm K Q c_Frame_layWays_90 kc ks loc (.int (2) :: st) h := gk_ic (by decide)
theorem s_Frame_layWays_90 {x : Nat} {i : Int32} : wps rm K Q c_Frame_layWays_90 kc ks loc (.int i :: .ref (x + 1) :: st) h = eg_la h x i (fun v => wps rm K Q c_Frame_layWays_91 kc ks loc (.long v :: st) h) := gk_laload
theorem s_Frame_layWays_91 {x y : Int64} : wps rm K Q c_Frame_layWays_91 kc ks loc (.long y :: .long x :: st) h = wps rm K Q c_Frame_layWays_92 kc ks loc (.long (x * y) :: st) h := gk_lmul
theorem s_Frame_layWays_92 {x y : Int64} : wps rm K Q c_Frame_layWays_92 kc ks loc (.long y :: .long x :: st) h = wps rm K Q c_Frame_layWays_93 kc ks loc (.long (x + y) :: st) h := gk_ladd
theorem s_Frame_layWays_93 {x : Int64} : wps rm K Q c_Frame_layWays_93 kc ks loc (.long x :: st) h = wps rm K Q c_Frame_layWays_95 kc ks (eg_set2 loc 11 (.long x)) (st) h := gk_lstore
theorem s_Frame_layWays_95 {x : Nat} {l0 : Option Value} {l : eg_Lo} : wps rm K Q c_Frame_layWays_95 kc ks (l0 :: some (.ref x) :: l) (st) h = wps rm K Q c_Frame_layWays_96 kc ks (l0 :: some (.ref x) :: l) (.ref x :: st) h := gk_aload rfl
theorem s_Frame_layWays_96  : wps rm K Q c_Frame_layWays_96 kc ks loc (st) h = wps rm K Q c_Frame_layWays_97 kc ks loc (.int (0) :: st) h := gk_ic (by decide)
theorem s_Frame_layWays_97 {x : Nat} {i : Int32} : wps rm K Q c_Frame_layWays_97 kc ks loc (.int i :: .ref (x + 1) :: st) h = eg_la h x i (fun v => wps rm K Q c_Frame_layWays_98 kc ks loc (.long v :: st) h) := gk_laload
theorem s_Frame_layWays_98 {x : Int32} {l0 l1 : Option Value} {l : eg_Lo} : wps rm K Q c_Frame_layWays_98 kc ks (l0 :: l1 :: some (.int x) :: l) (st) h = wps rm K Q c_Frame_layWays_99 kc ks (l0 :: l1 :: some (.int x) :: l) (.int x :: st) h := gk_iload rfl
theorem s_Frame_layWays_99 {x : Int32} : wps rm K Q c_Frame_layWays_99 kc ks loc (.int x :: st) h = wps rm K Q c_Frame_layWays_100 kc ks loc (.long (x.toInt64) :: st) h := gk_i2l
theorem s_Frame_layWays_100 {x y : Int64} : wps rm K Q c_Frame_layWays_100 kc ks loc (.long y :: .long x :: st) h = wps rm K Q c_Frame_layWays_101 kc ks loc (.long (x * y) :: st) h := gk_lmul
theorem s_Frame_layWays_101 {x : Nat} {l0 : Option Value} {l : eg_Lo} : wps rm K Q c_Frame_layWays_101 kc ks (l0 :: some (.ref x) :: l) (st) h = wps rm K Q c_Frame_layWays_102 kc ks (l0 :: some (.ref x) :: l) (.ref x :: st) h := gk_aload rfl
theorem s_Frame_layWays_102  : wps rm K Q c_Frame_layWays_102 kc ks loc (st) h = wps rm K Q c_Frame_layWays_103 kc ks loc (.int (1) :: st) h := gk_ic (by decide)
theorem s_Frame_layWays_103 {x : Nat} {i : Int32} : wps rm K Q c_Frame_layWays_103 kc ks loc (.int i :: .ref (x + 1) :: st) h = eg_la h x i (fun v => wps rm K Q c_Frame_layWays_104 kc ks loc (.long v :: st) h) := gk_laload
theorem s_Frame_layWays_104 {x : Int32} {l0 l1 l2 : Option Value} {l : eg_Lo} : wps rm K Q c_Frame_layWays_104 kc ks (l0 :: l1 :: l2 :: some (.int x) :: l) (st) h = wps rm K Q c_Frame_layWays_105 kc ks (l0 :: l1 :: l2 :: some (.int x) :: l) (.int x :: st) h := gk_iload rfl
theorem s_Frame_layWays_105 {x : Int32} : wps rm K Q c_Frame_layWays_105 kc ks loc (.int x :: st) h = wps rm K Q c_Frame_layWays_106 kc ks loc (.long (x.toInt64) :: st) h := gk_i2l
theorem s_Frame_layWays_106 {x y : Int64} : wps rm K Q c_Frame_layWays_106 kc ks loc (.long y :: .long x :: st) h = wps rm K Q c_Frame_layWays_107 kc ks loc (.long (x * y) :: st) h := gk_lmul
theorem s_Frame_layWays_107 {x y : Int64} : wps rm K Q c_Frame_layWays_107 kc ks loc (.long y :: .long x :: st) h = wps rm K Q c_Frame_layWays_108 kc ks loc (.long (x + y) :: st) h := gk_ladd
theorem s_Frame_layWays_108 {x : Nat} {l0 : Option Value} {l : eg_Lo} : wps rm K Q c_Frame_layWays_108 kc ks (l0 :: some (.ref x) :: l) (st) h = wps rm K Q c_Frame_layWays_109 kc ks (l0 :: some (.ref x) :: l) (.ref x :: st) h := gk_aload rfl
theorem s_Frame_layWays_109  : wps rm K Q c_Frame_layWays_109 kc ks loc (st) h = wps rm K Q c_Frame_layWays_110 kc ks loc (.int (2) :: st) h := gk_ic (by decide)
theorem s_Frame_layWays_110 {x : Nat} {i : Int32} : wps rm K Q c_Frame_layWays_110 kc ks loc (.int i :: .ref (x + 1) :: st) h = eg_la h x i (fun v => wps rm K Q c_Frame_layWays_111 kc ks loc (.long v :: st) h) := gk_laload
theorem s_Frame_layWays_111 {x : Int32} {l0 l1 l2 l3 : Option Value} {l : eg_Lo} : wps rm K Q c_Frame_layWays_111 kc ks (l0 :: l1 :: l2 :: l3 :: some (.int x) :: l) (st) h = wps rm K Q c_Frame_layWays_113 kc ks (l0 :: l1 :: l2 :: l3 :: some (.int x) :: l) (.int x :: st) h := gk_iload rfl
theorem s_Frame_layWays_113 {x : Int32} : wps rm K Q c_Frame_layWays_113 kc ks loc (.int x :: st) h = wps rm K Q c_Frame_layWays_114 kc ks loc (.long (x.toInt64) :: st) h := gk_i2l
theorem s_Frame_layWays_114 {x y : Int64} : wps rm K Q c_Frame_layWays_114 kc ks loc (.long y :: .long x :: st) h = wps rm K Q c_Frame_layWays_115 kc ks loc (.long (x * y) :: st) h := gk_lmul
theorem s_Frame_layWays_115 {x y : Int64} : wps rm K Q c_Frame_layWays_115 kc ks loc (.long y :: .long x :: st) h = wps rm K Q c_Frame_layWays_116 kc ks loc (.long (x + y) :: st) h := gk_ladd
theorem s_Frame_layWays_116 {x : Int64} : wps rm K Q c_Frame_layWays_116 kc ks loc (.long x :: st) h = wps rm K Q c_Frame_layWays_118 kc ks (eg_set2 loc 13 (.long x)) (st) h := gk_lstore
theorem s_Frame_layWays_118 {x : Nat} {l : eg_Lo} : wps rm K Q c_Frame_layWays_118 kc ks (some (.ref x) :: l) (st) h = wps rm K Q c_Frame_layWays_119 kc ks (some (.ref x) :: l) (.ref x :: st) h := gk_aload rfl
theorem s_Frame_layWays_119  : wps rm K Q c_Frame_layWays_119 kc ks loc (st) h = wps rm K Q c_Frame_layWays_120 kc ks loc (.int (0) :: st) h := gk_ic (by decide)
theorem s_Frame_layWays_120 {x : Nat} {l0 : Option Value} {l : eg_Lo} : wps rm K Q c_Frame_layWays_120 kc ks (l0 :: some (.ref x) :: l) (st) h = wps rm K Q c_Frame_layWays_121 kc ks (l0 :: some (.ref x) :: l) (.ref x :: st) h := gk_aload rfl
theorem s_Frame_layWays_121  : wps rm K Q c_Frame_layWays_121 kc ks loc (st) h = wps rm K Q c_Frame_layWays_122 kc ks loc (.int (0) :: st) h := gk_ic (by decide)
theorem s_Frame_layWays_122 {x : Nat} {i : Int32} : wps rm K Q c_Frame_layWays_122 kc ks loc (.int i :: .ref (x + 1) :: st) h = eg_la h x i (fun v => wps rm K Q c_Frame_layWays_123 kc ks loc (.long v :: st) h) := gk_laload
theorem s_Frame_layWays_123 {x : Nat} {l0 : Option Value} {l : eg_Lo} : wps rm K Q c_Frame_layWays_123 kc ks (l0 :: some (.ref x) :: l) (st) h = wps rm K Q c_Frame_layWays_124 kc ks (l0 :: some (.ref x) :: l) (.ref x :: st) h := gk_aload rfl
theorem s_Frame_layWays_124  : wps rm K Q c_Frame_layWays_124 kc ks loc (st) h = wps rm K Q c_Frame_layWays_125 kc ks loc (.int (1) :: st) h := gk_ic (by decide)
theorem s_Frame_layWays_125 {x : Nat} {i : Int32} : wps rm K Q c_Frame_layWays_125 kc ks loc (.int i :: .ref (x + 1) :: st) h = eg_la h x i (fun v => wps rm K Q c_Frame_layWays_126 kc ks loc (.long v :: st) h) := gk_laload
theorem s_Frame_layWays_126 {x : Nat} {l0 : Option Value} {l : eg_Lo} : wps rm K Q c_Frame_layWays_126 kc ks (l0 :: some (.ref x) :: l) (st) h = wps rm K Q c_Frame_layWays_127 kc ks (l0 :: some (.ref x) :: l) (.ref x :: st) h := gk_aload rfl
theorem s_Frame_layWays_127  : wps rm K Q c_Frame_layWays_127 kc ks loc (st) h = wps rm K Q c_Frame_layWays_128 kc ks loc (.int (2) :: st) h := gk_ic (by decide)
theorem s_Frame_layWays_128 {x : Nat} {i : Int32} : wps rm K Q c_Frame_layWays_128 kc ks loc (.int i :: .ref (x + 1) :: st) h = eg_la h x i (fun v => wps rm K Q c_Frame_layWays_129 kc ks loc (.long v :: st) h) := gk_laload
theorem s_Frame_layWays_129  {a1 : Value} {a2 : Value} {a3 : Value} {a4 : Value} {x : Nat} : wps rm K Q c_Frame_layWays_129 kc ks loc (a4 :: a3 :: a2 :: a1 :: .ref (x + 1) :: st) h = (eg_cls h x 5 ∧ st.length ≤ 4 ∧ eg_Cs n_Frame_setWay (.ref (x + 1) :: [a1, a2, a3, a4]) h (fun v h9 => wps rm K Q c_Frame_layWays_132 kc ks loc (v.toList ++ st) h9)) := eg_c1_4
theorem s_Frame_layWays_132 {x : Nat} {l : eg_Lo} : wps rm K Q c_Frame_layWays_132 kc ks (some (.ref x) :: l) (st) h = wps rm K Q c_Frame_layWays_133 kc ks (some (.ref x) :: l) (.ref x :: st) h := gk_aload rfl
theorem s_Frame_layWays_133  : wps rm K Q c_Frame_layWays_133 kc ks loc (st) h = wps rm K Q c_Frame_layWays_134 kc ks loc (.int (1) :: st) h := gk_ic (by decide)
theorem s_Frame_layWays_134 {x : Int32} {l0 l1 : Option Value} {l : eg_Lo} : wps rm K Q c_Frame_layWays_134 kc ks (l0 :: l1 :: some (.int x) :: l) (st) h = wps rm K Q c_Frame_layWays_135 kc ks (l0 :: l1 :: some (.int x) :: l) (.int x :: st) h := gk_iload rfl
theorem s_Frame_layWays_135 {x : Int32} : wps rm K Q c_Frame_layWays_135 kc ks loc (.int x :: st) h = wps rm K Q c_Frame_layWays_136 kc ks loc (.long (x.toInt64) :: st) h := gk_i2l
theorem s_Frame_layWays_136 {x : Int64} {l0 l1 l2 l3 l4 l5 l6 l7 l8 l9 l10 : Option Value} {l : eg_Lo} : wps rm K Q c_Frame_layWays_136 kc ks (l0 :: l1 :: l2 :: l3 :: l4 :: l5 :: l6 :: l7 :: l8 :: l9 :: l10 :: some (.long x) :: l) (st) h = wps rm K Q c_Frame_layWays_138 kc ks (l0 :: l1 :: l2 :: l3 :: l4 :: l5 :: l6 :: l7 :: l8 :: l9 :: l10 :: some (.long x) :: l) (.long x :: st) h := gk_lload rfl
theorem s_Frame_layWays_138 {x y : Int64} : wps rm K Q c_Frame_layWays_138 kc ks loc (.long y :: .long x :: st) h = wps rm K Q c_Frame_layWays_139 kc ks loc (.long (x * y) :: st) h := gk_lmul
theorem s_Frame_layWays_139 {x : Nat} {l0 : Option Value} {l : eg_Lo} : wps rm K Q c_Frame_layWays_139 kc ks (l0 :: some (.ref x) :: l) (st) h = wps rm K Q c_Frame_layWays_140 kc ks (l0 :: some (.ref x) :: l) (.ref x :: st) h := gk_aload rfl
theorem s_Frame_layWays_140  : wps rm K Q c_Frame_layWays_140 kc ks loc (st) h = wps rm K Q c_Frame_layWays_141 kc ks loc (.int (0) :: st) h := gk_ic (by decide)
theorem s_Frame_layWays_141 {x : Nat} {i : Int32} : wps rm K Q c_Frame_layWays_141 kc ks loc (.int i :: .ref (x + 1) :: st) h = eg_la h x i (fun v => wps rm K Q c_Frame_layWays_142 kc ks loc (.long v :: st) h) := gk_laload
theorem s_Frame_layWays_142 {x : Int64} {l0 l1 l2 l3 l4 l5 l6 l7 l8 l9 l10 l11 l12 : Option Value} {l : eg_Lo} : wps rm K Q c_Frame_layWays_142 kc ks (l0 :: l1 :: l2 :: l3 :: l4 :: l5 :: l6 :: l7 :: l8 :: l9 :: l10 :: l11 :: l12 :: some (.long x) :: l) (st) h = wps rm K Q c_Frame_layWays_144 kc ks (l0 :: l1 :: l2 :: l3 :: l4 :: l5 :: l6 :: l7 :: l8 :: l9 :: l10 :: l11 :: l12 :: some (.long x) :: l) (.long x :: st) h := gk_lload rfl
theorem s_Frame_layWays_144 {x y : Int64} : wps rm K Q c_Frame_layWays_144 kc ks loc (.long y :: .long x :: st) h = wps rm K Q c_Frame_layWays_145 kc ks loc (.long (x * y) :: st) h := gk_lmul
theorem s_Frame_layWays_145 {x y : Int64} : wps rm K Q c_Frame_layWays_145 kc ks loc (.long y :: .long x :: st) h = wps rm K Q c_Frame_layWays_146 kc ks loc (.long (x - y) :: st) h := gk_lsub
theorem s_Frame_layWays_146 {x : Int32} {l0 l1 l2 : Option Value} {l : eg_Lo} : wps rm K Q c_Frame_layWays_146 kc ks (l0 :: l1 :: l2 :: some (.int x) :: l) (st) h = wps rm K Q c_Frame_layWays_147 kc ks (l0 :: l1 :: l2 :: some (.int x) :: l) (.int x :: st) h := gk_iload rfl
theorem s_Frame_layWays_147 {x : Int32} : wps rm K Q c_Frame_layWays_147 kc ks loc (.int x :: st) h = wps rm K Q c_Frame_layWays_148 kc ks loc (.long (x.toInt64) :: st) h := gk_i2l
theorem s_Frame_layWays_148 {x : Int64} {l0 l1 l2 l3 l4 l5 l6 l7 l8 l9 l10 : Option Value} {l : eg_Lo} : wps rm K Q c_Frame_layWays_148 kc ks (l0 :: l1 :: l2 :: l3 :: l4 :: l5 :: l6 :: l7 :: l8 :: l9 :: l10 :: some (.long x) :: l) (st) h = wps rm K Q c_Frame_layWays_150 kc ks (l0 :: l1 :: l2 :: l3 :: l4 :: l5 :: l6 :: l7 :: l8 :: l9 :: l10 :: some (.long x) :: l) (.long x :: st) h := gk_lload rfl
theorem s_Frame_layWays_150 {x y : Int64} : wps rm K Q c_Frame_layWays_150 kc ks loc (.long y :: .long x :: st) h = wps rm K Q c_Frame_layWays_151 kc ks loc (.long (x * y) :: st) h := gk_lmul
theorem s_Frame_layWays_151 {x : Nat} {l0 : Option Value} {l : eg_Lo} : wps rm K Q c_Frame_layWays_151 kc ks (l0 :: some (.ref x) :: l) (st) h = wps rm K Q c_Frame_layWays_152 kc ks (l0 :: some (.ref x) :: l) (.ref x :: st) h := gk_aload rfl
theorem s_Frame_layWays_152  : wps rm K Q c_Frame_layWays_152 kc ks loc (st) h = wps rm K Q c_Frame_layWays_153 kc ks loc (.int (1) :: st) h := gk_ic (by decide)
theorem s_Frame_layWays_153 {x : Nat} {i : Int32} : wps rm K Q c_Frame_layWays_153 kc ks loc (.int i :: .ref (x + 1) :: st) h = eg_la h x i (fun v => wps rm K Q c_Frame_layWays_154 kc ks loc (.long v :: st) h) := gk_laload
theorem s_Frame_layWays_154 {x : Int64} {l0 l1 l2 l3 l4 l5 l6 l7 l8 l9 l10 l11 l12 : Option Value} {l : eg_Lo} : wps rm K Q c_Frame_layWays_154 kc ks (l0 :: l1 :: l2 :: l3 :: l4 :: l5 :: l6 :: l7 :: l8 :: l9 :: l10 :: l11 :: l12 :: some (.long x) :: l) (st) h = wps rm K Q c_Frame_layWays_156 kc ks (l0 :: l1 :: l2 :: l3 :: l4 :: l5 :: l6 :: l7 :: l8 :: l9 :: l10 :: l11 :: l12 :: some (.long x) :: l) (.long x :: st) h := gk_lload rfl
theorem s_Frame_layWays_156 {x y : Int64} : wps rm K Q c_Frame_layWays_156 kc ks loc (.long y :: .long x :: st) h = wps rm K Q c_Frame_layWays_157 kc ks loc (.long (x * y) :: st) h := gk_lmul
theorem s_Frame_layWays_157 {x y : Int64} : wps rm K Q c_Frame_layWays_157 kc ks loc (.long y :: .long x :: st) h = wps rm K Q c_Frame_layWays_158 kc ks loc (.long (x - y) :: st) h := gk_lsub
theorem s_Frame_layWays_158 {x : Int32} {l0 l1 l2 l3 : Option Value} {l : eg_Lo} : wps rm K Q c_Frame_layWays_158 kc ks (l0 :: l1 :: l2 :: l3 :: some (.int x) :: l) (st) h = wps rm K Q c_Frame_layWays_160 kc ks (l0 :: l1 :: l2 :: l3 :: some (.int x) :: l) (.int x :: st) h := gk_iload rfl
theorem s_Frame_layWays_160 {x : Int32} : wps rm K Q c_Frame_layWays_160 kc ks loc (.int x :: st) h = wps rm K Q c_Frame_layWays_161 kc ks loc (.long (x.toInt64) :: st) h := gk_i2l
theorem s_Frame_layWays_161 {x : Int64} {l0 l1 l2 l3 l4 l5 l6 l7 l8 l9 l10 : Option Value} {l : eg_Lo} : wps rm K Q c_Frame_layWays_161 kc ks (l0 :: l1 :: l2 :: l3 :: l4 :: l5 :: l6 :: l7 :: l8 :: l9 :: l10 :: some (.long x) :: l) (st) h = wps rm K Q c_Frame_layWays_163 kc ks (l0 :: l1 :: l2 :: l3 :: l4 :: l5 :: l6 :: l7 :: l8 :: l9 :: l10 :: some (.long x) :: l) (.long x :: st) h := gk_lload rfl
theorem s_Frame_layWays_163 {x y : Int64} : wps rm K Q c_Frame_layWays_163 kc ks loc (.long y :: .long x :: st) h = wps rm K Q c_Frame_layWays_164 kc ks loc (.long (x * y) :: st) h := gk_lmul
theorem s_Frame_layWays_164 {x : Nat} {l0 : Option Value} {l : eg_Lo} : wps rm K Q c_Frame_layWays_164 kc ks (l0 :: some (.ref x) :: l) (st) h = wps rm K Q c_Frame_layWays_165 kc ks (l0 :: some (.ref x) :: l) (.ref x :: st) h := gk_aload rfl
theorem s_Frame_layWays_165  : wps rm K Q c_Frame_layWays_165 kc ks loc (st) h = wps rm K Q c_Frame_layWays_166 kc ks loc (.int (2) :: st) h := gk_ic (by decide)
theorem s_Frame_layWays_166 {x : Nat} {i : Int32} : wps rm K Q c_Frame_layWays_166 kc ks loc (.int i :: .ref (x + 1) :: st) h = eg_la h x i (fun v => wps rm K Q c_Frame_layWays_167 kc ks loc (.long v :: st) h) := gk_laload
theorem s_Frame_layWays_167 {x : Int64} {l0 l1 l2 l3 l4 l5 l6 l7 l8 l9 l10 l11 l12 : Option Value} {l : eg_Lo} : wps rm K Q c_Frame_layWays_167 kc ks (l0 :: l1 :: l2 :: l3 :: l4 :: l5 :: l6 :: l7 :: l8 :: l9 :: l10 :: l11 :: l12 :: some (.long x) :: l) (st) h = wps rm K Q c_Frame_layWays_169 kc ks (l0 :: l1 :: l2 :: l3 :: l4 :: l5 :: l6 :: l7 :: l8 :: l9 :: l10 :: l11 :: l12 :: some (.long x) :: l) (.long x :: st) h := gk_lload rfl
theorem s_Frame_layWays_169 {x y : Int64} : wps rm K Q c_Frame_layWays_169 kc ks loc (.long y :: .long x :: st) h = wps rm K Q c_Frame_layWays_170 kc ks loc (.long (x * y) :: st) h := gk_lmul
theorem s_Frame_layWays_170 {x y : Int64} : wps rm K Q c_Frame_layWays_170 kc ks loc (.long y :: .long x :: st) h = wps rm K Q c_Frame_layWays_171 kc ks loc (.long (x - y) :: st) h := gk_lsub
theorem s_Frame_layWays_171  {a1 : Value} {a2 : Value} {a3 : Value} {a4 : Value} {x : Nat} : wps rm K Q c_Frame_layWays_171 kc ks loc (a4 :: a3 :: a2 :: a1 :: .ref (x + 1) :: st) h = (eg_cls h x 5 ∧ st.length ≤ 4 ∧ eg_Cs n_Frame_setWay (.ref (x + 1) :: [a1, a2, a3, a4]) h (fun v h9 => wps rm K Q c_Frame_layWays_174 kc ks loc (v.toList ++ st) h9)) := eg_c1_4
theorem s_Frame_layWays_174 {x : Nat} {l : eg_Lo} : wps rm K Q c_Frame_layWays_174 kc ks (some (.ref x) :: l) (st) h = wps rm K Q c_Frame_layWays_175 kc ks (some (.ref x) :: l) (.ref x :: st) h := gk_aload rfl
theorem s_Frame_layWays_175  : wps rm K Q c_Frame_layWays_175 kc ks loc (st) h = wps rm K Q c_Frame_layWays_176 kc ks loc (.int (2) :: st) h := gk_ic (by decide)
theorem s_Frame_layWays_176 {x : Int64} {l0 l1 l2 l3 l4 : Option Value} {l : eg_Lo} : wps rm K Q c_Frame_layWays_176 kc ks (l0 :: l1 :: l2 :: l3 :: l4 :: some (.long x) :: l) (st) h = wps rm K Q c_Frame_layWays_178 kc ks (l0 :: l1 :: l2 :: l3 :: l4 :: some (.long x) :: l) (.long x :: st) h := gk_lload rfl
theorem s_Frame_layWays_178 {x : Int64} {l0 l1 l2 l3 l4 l5 l6 : Option Value} {l : eg_Lo} : wps rm K Q c_Frame_layWays_178 kc ks (l0 :: l1 :: l2 :: l3 :: l4 :: l5 :: l6 :: some (.long x) :: l) (st) h = wps rm K Q c_Frame_layWays_180 kc ks (l0 :: l1 :: l2 :: l3 :: l4 :: l5 :: l6 :: some (.long x) :: l) (.long x :: st) h := gk_lload rfl
theorem s_Frame_layWays_180 {x : Int64} {l0 l1 l2 l3 l4 l5 l6 l7 l8 : Option Value} {l : eg_Lo} : wps rm K Q c_Frame_layWays_180 kc ks (l0 :: l1 :: l2 :: l3 :: l4 :: l5 :: l6 :: l7 :: l8 :: some (.long x) :: l) (st) h = wps rm K Q c_Frame_layWays_182 kc ks (l0 :: l1 :: l2 :: l3 :: l4 :: l5 :: l6 :: l7 :: l8 :: some (.long x) :: l) (.long x :: st) h := gk_lload rfl
theorem s_Frame_layWays_182  {a1 : Value} {a2 : Value} {a3 : Value} {a4 : Value} {x : Nat} : wps rm K Q c_Frame_layWays_182 kc ks loc (a4 :: a3 :: a2 :: a1 :: .ref (x + 1) :: st) h = (eg_cls h x 5 ∧ st.length ≤ 4 ∧ eg_Cs n_Frame_setWay (.ref (x + 1) :: [a1, a2, a3, a4]) h (fun v h9 => wps rm K Q c_Frame_layWays_185 kc ks loc (v.toList ++ st) h9)) := eg_c1_4
theorem s_Frame_layWays_185  : wps rm K Q c_Frame_layWays_185 kc ks loc (st) h = wps rm K Q c_Frame_layWays_186 kc ks loc (.int (1) :: st) h := gk_ic (by decide)
theorem s_Frame_layWays_186 {x : Int32} : wps rm K Q c_Frame_layWays_186 kc ks loc ([.int x]) h = (kc = rm.cells ∧ ((1 : Nat) = 1 → x = 0 ∨ x = 1) ∧ Q (some (.int x)) h) := gk_iret
def T_Frame_layWays : List (Nat × List eg_I) := [(70, c_Frame_layWays_70)]
theorem j_Frame_layWays_70 {R : Nat → Nat → Nat → eg_Lo → List Value → List eg_E → Prop} {f pc0 : Nat} : eg_run rm R Q T_Frame_layWays (f + 1) 70 kc ks loc st h = wps rm (eg_run rm R Q T_Frame_layWays f) Q c_Frame_layWays_70 kc ks loc st h := rfl
end
theorem y_Frame_layWays_0 : eg_seq m_Frame_layWays 0 c_Frame_layWays_0 = true := by decide +kernel
theorem y_Frame_layWays_70 : eg_seq m_Frame_layWays 70 c_Frame_layWays_70 = true := by decide +kernel
theorem q_Frame_layWays : ∀ q ∈ T_Frame_layWays, eg_seq m_Frame_layWays q.1 q.2 = true := by
  intro q hq
  simp only [T_Frame_layWays, List.mem_cons, List.not_mem_nil, or_false] at hq
  rcases hq with rfl
  · exact y_Frame_layWays_70
theorem b_Frame_layWays {as : List Value} {h : List eg_E} {Q : Option Value → List eg_E → Prop} (hf : (eg_fl as).length ≤ 15) (hw : wps (eg_rm m_Frame_layWays) (eg_run (eg_rm m_Frame_layWays) (eg_R m_Frame_layWays Q (h.length + 0)) Q T_Frame_layWays 3) Q c_Frame_layWays_0 0 0 (eg_entry 15 as) [] h) : eg_Runs n_Frame_layWays as h Q := eg_begin2 (d := m_Frame_layWays) rfl (by decide) y_Frame_layWays_0 q_Frame_layWays hf hw
/-! ===== Frame_setWay ===== -/
def c_Frame_setWay_53 : List eg_I := .inl (53, 1, .return_, 0, 0) :: []
def c_Frame_setWay_50 : List eg_I := .inr (50, 0, 17, n_Frac_lower, 2, 4, 0, 0) :: c_Frame_setWay_53
def c_Frame_setWay_49 : List eg_I := .inl (49, 1, .imul, 0, 0) :: c_Frame_setWay_50
def c_Frame_setWay_48 : List eg_I := .inl (48, 1, .iload 1, 0, 0) :: c_Frame_setWay_49
def c_Frame_setWay_47 : List eg_I := .inl (47, 1, .iconst (3), 0, 0) :: c_Frame_setWay_48
def c_Frame_setWay_44 : List eg_I := .inl (44, 3, .getfield 7, 5, 0) :: c_Frame_setWay_47
def c_Frame_setWay_43 : List eg_I := .inl (43, 1, .aload 0, 0, 0) :: c_Frame_setWay_44
def c_Frame_setWay_42 : List eg_I := .inl (42, 1, .lastore, 0, 0) :: c_Frame_setWay_43
def c_Frame_setWay_40 : List eg_I := .inl (40, 2, .lload 6, 0, 0) :: c_Frame_setWay_42
def c_Frame_setWay_39 : List eg_I := .inl (39, 1, .iadd, 0, 0) :: c_Frame_setWay_40
def c_Frame_setWay_38 : List eg_I := .inl (38, 1, .iconst (2), 0, 0) :: c_Frame_setWay_39
def c_Frame_setWay_37 : List eg_I := .inl (37, 1, .imul, 0, 0) :: c_Frame_setWay_38
def c_Frame_setWay_36 : List eg_I := .inl (36, 1, .iload 1, 0, 0) :: c_Frame_setWay_37
def c_Frame_setWay_35 : List eg_I := .inl (35, 1, .iconst (3), 0, 0) :: c_Frame_setWay_36
def c_Frame_setWay_32 : List eg_I := .inl (32, 3, .getfield 7, 5, 0) :: c_Frame_setWay_35
def c_Frame_setWay_31 : List eg_I := .inl (31, 1, .aload 0, 0, 0) :: c_Frame_setWay_32
def c_Frame_setWay_30 : List eg_I := .inl (30, 1, .lastore, 0, 0) :: c_Frame_setWay_31
def c_Frame_setWay_28 : List eg_I := .inl (28, 2, .lload 4, 0, 0) :: c_Frame_setWay_30
def c_Frame_setWay_27 : List eg_I := .inl (27, 1, .iadd, 0, 0) :: c_Frame_setWay_28
def c_Frame_setWay_26 : List eg_I := .inl (26, 1, .iconst (1), 0, 0) :: c_Frame_setWay_27
def c_Frame_setWay_25 : List eg_I := .inl (25, 1, .imul, 0, 0) :: c_Frame_setWay_26
def c_Frame_setWay_24 : List eg_I := .inl (24, 1, .iload 1, 0, 0) :: c_Frame_setWay_25
def c_Frame_setWay_23 : List eg_I := .inl (23, 1, .iconst (3), 0, 0) :: c_Frame_setWay_24
def c_Frame_setWay_20 : List eg_I := .inl (20, 3, .getfield 7, 5, 0) :: c_Frame_setWay_23
def c_Frame_setWay_19 : List eg_I := .inl (19, 1, .aload 0, 0, 0) :: c_Frame_setWay_20
def c_Frame_setWay_18 : List eg_I := .inl (18, 1, .lastore, 0, 0) :: c_Frame_setWay_19
def c_Frame_setWay_17 : List eg_I := .inl (17, 1, .lload 2, 0, 0) :: c_Frame_setWay_18
def c_Frame_setWay_16 : List eg_I := .inl (16, 1, .imul, 0, 0) :: c_Frame_setWay_17
def c_Frame_setWay_15 : List eg_I := .inl (15, 1, .iload 1, 0, 0) :: c_Frame_setWay_16
def c_Frame_setWay_14 : List eg_I := .inl (14, 1, .iconst (3), 0, 0) :: c_Frame_setWay_15
def c_Frame_setWay_11 : List eg_I := .inl (11, 3, .getfield 7, 5, 0) :: c_Frame_setWay_14
def c_Frame_setWay_10 : List eg_I := .inl (10, 1, .aload 0, 0, 0) :: c_Frame_setWay_11
def c_Frame_setWay_9 : List eg_I := .inl (9, 1, .return_, 0, 0) :: []
def c_Frame_setWay_6 : List eg_I := .inl (6, 3, .if_icmp .le (4), 10, 0) :: c_Frame_setWay_9
def c_Frame_setWay_5 : List eg_I := .inl (5, 1, .iconst (2), 0, 0) :: c_Frame_setWay_6
def c_Frame_setWay_4 : List eg_I := .inl (4, 1, .iload 1, 0, 0) :: c_Frame_setWay_5
def c_Frame_setWay_1 : List eg_I := .inl (1, 3, .ifCond .lt (8), 9, 0) :: c_Frame_setWay_4
def c_Frame_setWay_0 : List eg_I := .inl (0, 1, .iload 1, 0, 0) :: c_Frame_setWay_1
section
variable {rm : Room} {K : Nat → Nat → Nat → eg_Lo → List Value → List eg_E → Prop} {Q : Option Value → List eg_E → Prop} {kc ks : Nat} {loc : eg_Lo} {st : List Value} {h : List eg_E}
theorem s_Frame_setWay_0 {x : Int32} {l0 : Option Value} {l : eg_Lo} : wps rm K Q c_Frame_setWay_0 kc ks (l0 :: some (.int x) :: l) (st) h = wps rm K Q c_Frame_setWay_1 kc ks (l0 :: some (.int x) :: l) (.int x :: st) h := gk_iload rfl
theorem s_Frame_setWay_1 {x : Int32} : wps rm K Q c_Frame_setWay_1 kc ks loc (.int x :: st) h = ((x < 0 → K 9 kc ks loc st h) ∧ (¬ x < 0 → wps rm K Q c_Frame_setWay_4 kc ks loc (st) h)) := gk_if1_lt
theorem s_Frame_setWay_4 {x : Int32} {l0 : Option Value} {l : eg_Lo} : wps rm K Q c_Frame_setWay_4 kc ks (l0 :: some (.int x) :: l) (st) h = wps rm K Q c_Frame_setWay_5 kc ks (l0 :: some (.int x) :: l) (.int x :: st) h := gk_iload rfl
theorem s_Frame_setWay_5  : wps rm K Q c_Frame_setWay_5 kc ks loc (st) h = wps rm K Q c_Frame_setWay_6 kc ks loc (.int (2) :: st) h := gk_ic (by decide)
theorem s_Frame_setWay_6 {x y : Int32} : wps rm K Q c_Frame_setWay_6 kc ks loc (.int y :: .int x :: st) h = ((x ≤ y → K 10 kc ks loc st h) ∧ (¬ x ≤ y → wps rm K Q c_Frame_setWay_9 kc ks loc (st) h)) := gk_if2_le
theorem s_Frame_setWay_9  : wps rm K Q c_Frame_setWay_9 kc ks loc ([]) h = (kc = rm.cells ∧ Q none h) := gk_vret
theorem s_Frame_setWay_10 {x : Nat} {l : eg_Lo} : wps rm K Q c_Frame_setWay_10 kc ks (some (.ref x) :: l) (st) h = wps rm K Q c_Frame_setWay_11 kc ks (some (.ref x) :: l) (.ref x :: st) h := gk_aload rfl
theorem s_Frame_setWay_11 {x : Nat} : wps rm K Q c_Frame_setWay_11 kc ks loc (.ref (x + 1) :: st) h = eg_gf h x 5 0 (fun v => wps rm K Q c_Frame_setWay_14 kc ks loc (v :: st) h) := gk_gf
theorem s_Frame_setWay_14  : wps rm K Q c_Frame_setWay_14 kc ks loc (st) h = wps rm K Q c_Frame_setWay_15 kc ks loc (.int (3) :: st) h := gk_ic (by decide)
theorem s_Frame_setWay_15 {x : Int32} {l0 : Option Value} {l : eg_Lo} : wps rm K Q c_Frame_setWay_15 kc ks (l0 :: some (.int x) :: l) (st) h = wps rm K Q c_Frame_setWay_16 kc ks (l0 :: some (.int x) :: l) (.int x :: st) h := gk_iload rfl
theorem s_Frame_setWay_16 {x y : Int32} : wps rm K Q c_Frame_setWay_16 kc ks loc (.int y :: .int x :: st) h = wps rm K Q c_Frame_setWay_17 kc ks loc (.int (x * y) :: st) h := gk_imul
theorem s_Frame_setWay_17 {x : Int64} {l0 l1 : Option Value} {l : eg_Lo} : wps rm K Q c_Frame_setWay_17 kc ks (l0 :: l1 :: some (.long x) :: l) (st) h = wps rm K Q c_Frame_setWay_18 kc ks (l0 :: l1 :: some (.long x) :: l) (.long x :: st) h := gk_lload rfl
theorem s_Frame_setWay_18 {x : Nat} {i : Int32} {v : Int64} : wps rm K Q c_Frame_setWay_18 kc ks loc (.long v :: .int i :: .ref (x + 1) :: st) h = eg_lst h x i v (fun h9 => wps rm K Q c_Frame_setWay_19 kc ks loc (st) h9) := gk_lastore
theorem s_Frame_setWay_19 {x : Nat} {l : eg_Lo} : wps rm K Q c_Frame_setWay_19 kc ks (some (.ref x) :: l) (st) h = wps rm K Q c_Frame_setWay_20 kc ks (some (.ref x) :: l) (.ref x :: st) h := gk_aload rfl
theorem s_Frame_setWay_20 {x : Nat} : wps rm K Q c_Frame_setWay_20 kc ks loc (.ref (x + 1) :: st) h = eg_gf h x 5 0 (fun v => wps rm K Q c_Frame_setWay_23 kc ks loc (v :: st) h) := gk_gf
theorem s_Frame_setWay_23  : wps rm K Q c_Frame_setWay_23 kc ks loc (st) h = wps rm K Q c_Frame_setWay_24 kc ks loc (.int (3) :: st) h := gk_ic (by decide)
theorem s_Frame_setWay_24 {x : Int32} {l0 : Option Value} {l : eg_Lo} : wps rm K Q c_Frame_setWay_24 kc ks (l0 :: some (.int x) :: l) (st) h = wps rm K Q c_Frame_setWay_25 kc ks (l0 :: some (.int x) :: l) (.int x :: st) h := gk_iload rfl
theorem s_Frame_setWay_25 {x y : Int32} : wps rm K Q c_Frame_setWay_25 kc ks loc (.int y :: .int x :: st) h = wps rm K Q c_Frame_setWay_26 kc ks loc (.int (x * y) :: st) h := gk_imul
theorem s_Frame_setWay_26  : wps rm K Q c_Frame_setWay_26 kc ks loc (st) h = wps rm K Q c_Frame_setWay_27 kc ks loc (.int (1) :: st) h := gk_ic (by decide)
theorem s_Frame_setWay_27 {x y : Int32} : wps rm K Q c_Frame_setWay_27 kc ks loc (.int y :: .int x :: st) h = wps rm K Q c_Frame_setWay_28 kc ks loc (.int (x + y) :: st) h := gk_iadd
theorem s_Frame_setWay_28 {x : Int64} {l0 l1 l2 l3 : Option Value} {l : eg_Lo} : wps rm K Q c_Frame_setWay_28 kc ks (l0 :: l1 :: l2 :: l3 :: some (.long x) :: l) (st) h = wps rm K Q c_Frame_setWay_30 kc ks (l0 :: l1 :: l2 :: l3 :: some (.long x) :: l) (.long x :: st) h := gk_lload rfl
theorem s_Frame_setWay_30 {x : Nat} {i : Int32} {v : Int64} : wps rm K Q c_Frame_setWay_30 kc ks loc (.long v :: .int i :: .ref (x + 1) :: st) h = eg_lst h x i v (fun h9 => wps rm K Q c_Frame_setWay_31 kc ks loc (st) h9) := gk_lastore
theorem s_Frame_setWay_31 {x : Nat} {l : eg_Lo} : wps rm K Q c_Frame_setWay_31 kc ks (some (.ref x) :: l) (st) h = wps rm K Q c_Frame_setWay_32 kc ks (some (.ref x) :: l) (.ref x :: st) h := gk_aload rfl
theorem s_Frame_setWay_32 {x : Nat} : wps rm K Q c_Frame_setWay_32 kc ks loc (.ref (x + 1) :: st) h = eg_gf h x 5 0 (fun v => wps rm K Q c_Frame_setWay_35 kc ks loc (v :: st) h) := gk_gf
theorem s_Frame_setWay_35  : wps rm K Q c_Frame_setWay_35 kc ks loc (st) h = wps rm K Q c_Frame_setWay_36 kc ks loc (.int (3) :: st) h := gk_ic (by decide)
theorem s_Frame_setWay_36 {x : Int32} {l0 : Option Value} {l : eg_Lo} : wps rm K Q c_Frame_setWay_36 kc ks (l0 :: some (.int x) :: l) (st) h = wps rm K Q c_Frame_setWay_37 kc ks (l0 :: some (.int x) :: l) (.int x :: st) h := gk_iload rfl
theorem s_Frame_setWay_37 {x y : Int32} : wps rm K Q c_Frame_setWay_37 kc ks loc (.int y :: .int x :: st) h = wps rm K Q c_Frame_setWay_38 kc ks loc (.int (x * y) :: st) h := gk_imul
theorem s_Frame_setWay_38  : wps rm K Q c_Frame_setWay_38 kc ks loc (st) h = wps rm K Q c_Frame_setWay_39 kc ks loc (.int (2) :: st) h := gk_ic (by decide)
theorem s_Frame_setWay_39 {x y : Int32} : wps rm K Q c_Frame_setWay_39 kc ks loc (.int y :: .int x :: st) h = wps rm K Q c_Frame_setWay_40 kc ks loc (.int (x + y) :: st) h := gk_iadd
theorem s_Frame_setWay_40 {x : Int64} {l0 l1 l2 l3 l4 l5 : Option Value} {l : eg_Lo} : wps rm K Q c_Frame_setWay_40 kc ks (l0 :: l1 :: l2 :: l3 :: l4 :: l5 :: some (.long x) :: l) (st) h = wps rm K Q c_Frame_setWay_42 kc ks (l0 :: l1 :: l2 :: l3 :: l4 :: l5 :: some (.long x) :: l) (.long x :: st) h := gk_lload rfl
theorem s_Frame_setWay_42 {x : Nat} {i : Int32} {v : Int64} : wps rm K Q c_Frame_setWay_42 kc ks loc (.long v :: .int i :: .ref (x + 1) :: st) h = eg_lst h x i v (fun h9 => wps rm K Q c_Frame_setWay_43 kc ks loc (st) h9) := gk_lastore
theorem s_Frame_setWay_43 {x : Nat} {l : eg_Lo} : wps rm K Q c_Frame_setWay_43 kc ks (some (.ref x) :: l) (st) h = wps rm K Q c_Frame_setWay_44 kc ks (some (.ref x) :: l) (.ref x :: st) h := gk_aload rfl
theorem s_Frame_setWay_44 {x : Nat} : wps rm K Q c_Frame_setWay_44 kc ks loc (.ref (x + 1) :: st) h = eg_gf h x 5 0 (fun v => wps rm K Q c_Frame_setWay_47 kc ks loc (v :: st) h) := gk_gf
theorem s_Frame_setWay_47  : wps rm K Q c_Frame_setWay_47 kc ks loc (st) h = wps rm K Q c_Frame_setWay_48 kc ks loc (.int (3) :: st) h := gk_ic (by decide)
theorem s_Frame_setWay_48 {x : Int32} {l0 : Option Value} {l : eg_Lo} : wps rm K Q c_Frame_setWay_48 kc ks (l0 :: some (.int x) :: l) (st) h = wps rm K Q c_Frame_setWay_49 kc ks (l0 :: some (.int x) :: l) (.int x :: st) h := gk_iload rfl
theorem s_Frame_setWay_49 {x y : Int32} : wps rm K Q c_Frame_setWay_49 kc ks loc (.int y :: .int x :: st) h = wps rm K Q c_Frame_setWay_50 kc ks loc (.int (x * y) :: st) h := gk_imul
theorem s_Frame_setWay_50  {a1 : Value} {a2 : Value} : wps rm K Q c_Frame_setWay_50 kc ks loc (a2 :: a1 :: st) h = (st.length ≤ 4 ∧ eg_Cs n_Frac_lower [a1, a2] h (fun v h9 => wps rm K Q c_Frame_setWay_53 kc ks loc (v.toList ++ st) h9)) := eg_c0_2
theorem s_Frame_setWay_53  : wps rm K Q c_Frame_setWay_53 kc ks loc ([]) h = (kc = rm.cells ∧ Q none h) := gk_vret
def T_Frame_setWay : List (Nat × List eg_I) := [(9, c_Frame_setWay_9), (10, c_Frame_setWay_10)]
theorem j_Frame_setWay_9 {R : Nat → Nat → Nat → eg_Lo → List Value → List eg_E → Prop} {f pc0 : Nat} : eg_run rm R Q T_Frame_setWay (f + 1) 9 kc ks loc st h = wps rm (eg_run rm R Q T_Frame_setWay f) Q c_Frame_setWay_9 kc ks loc st h := rfl
theorem j_Frame_setWay_10 {R : Nat → Nat → Nat → eg_Lo → List Value → List eg_E → Prop} {f pc0 : Nat} : eg_run rm R Q T_Frame_setWay (f + 1) 10 kc ks loc st h = wps rm (eg_run rm R Q T_Frame_setWay f) Q c_Frame_setWay_10 kc ks loc st h := rfl
end
theorem y_Frame_setWay_0 : eg_seq m_Frame_setWay 0 c_Frame_setWay_0 = true := by decide +kernel
theorem y_Frame_setWay_10 : eg_seq m_Frame_setWay 10 c_Frame_setWay_10 = true := by decide +kernel
theorem q_Frame_setWay : ∀ q ∈ T_Frame_setWay, eg_seq m_Frame_setWay q.1 q.2 = true := by
  intro q hq
  simp only [T_Frame_setWay, List.mem_cons, List.not_mem_nil, or_false] at hq
  rcases hq with rfl | rfl
  · exact (eg_seq_drop y_Frame_setWay_0 5 : eg_seq m_Frame_setWay 9 c_Frame_setWay_9 = true)
  · exact y_Frame_setWay_10
theorem b_Frame_setWay {as : List Value} {h : List eg_E} {Q : Option Value → List eg_E → Prop} (hf : (eg_fl as).length ≤ 8) (hw : wps (eg_rm m_Frame_setWay) (eg_run (eg_rm m_Frame_setWay) (eg_R m_Frame_setWay Q (h.length + 0)) Q T_Frame_setWay 4) Q c_Frame_setWay_0 0 0 (eg_entry 8 as) [] h) : eg_Runs n_Frame_setWay as h Q := eg_begin2 (d := m_Frame_setWay) rfl (by decide) y_Frame_setWay_0 q_Frame_setWay hf hw
/-! ===== Frame_begin ===== -/
def c_Frame_begin_35 : List eg_I := .inl (35, 1, .return_, 0, 0) :: []
def c_Frame_begin_32 : List eg_I := .inl (32, 3, .putstatic 45, 5, 1) :: c_Frame_begin_35
def c_Frame_begin_31 : List eg_I := .inl (31, 1, .iconst (1), 0, 0) :: c_Frame_begin_32
def c_Frame_begin_30 : List eg_I := .inl (30, 1, .aload 0, 0, 0) :: c_Frame_begin_31
def c_Frame_begin_27 : List eg_I := .inl (27, 3, .putfield 42, 5, 4) :: c_Frame_begin_30
def c_Frame_begin_26 : List eg_I := .inl (26, 1, .iaload, 0, 0) :: c_Frame_begin_27
def c_Frame_begin_25 : List eg_I := .inl (25, 1, .iload 2, 0, 0) :: c_Frame_begin_26
def c_Frame_begin_22 : List eg_I := .inl (22, 3, .getfield 39, 8, 2) :: c_Frame_begin_25
def c_Frame_begin_21 : List eg_I := .inl (21, 1, .aload 1, 0, 0) :: c_Frame_begin_22
def c_Frame_begin_20 : List eg_I := .inl (20, 1, .aload 0, 0, 0) :: c_Frame_begin_21
def c_Frame_begin_17 : List eg_I := .inl (17, 3, .putfield 36, 5, 3) :: c_Frame_begin_20
def c_Frame_begin_16 : List eg_I := .inl (16, 1, .iaload, 0, 0) :: c_Frame_begin_17
def c_Frame_begin_15 : List eg_I := .inl (15, 1, .iload 2, 0, 0) :: c_Frame_begin_16
def c_Frame_begin_12 : List eg_I := .inl (12, 3, .getfield 33, 8, 1) :: c_Frame_begin_15
def c_Frame_begin_11 : List eg_I := .inl (11, 1, .aload 1, 0, 0) :: c_Frame_begin_12
def c_Frame_begin_10 : List eg_I := .inl (10, 1, .aload 0, 0, 0) :: c_Frame_begin_11
def c_Frame_begin_7 : List eg_I := .inl (7, 3, .putfield 29, 5, 2) :: c_Frame_begin_10
def c_Frame_begin_6 : List eg_I := .inl (6, 1, .iaload, 0, 0) :: c_Frame_begin_7
def c_Frame_begin_5 : List eg_I := .inl (5, 1, .iload 2, 0, 0) :: c_Frame_begin_6
def c_Frame_begin_2 : List eg_I := .inl (2, 3, .getfield 23, 8, 0) :: c_Frame_begin_5
def c_Frame_begin_1 : List eg_I := .inl (1, 1, .aload 1, 0, 0) :: c_Frame_begin_2
def c_Frame_begin_0 : List eg_I := .inl (0, 1, .aload 0, 0, 0) :: c_Frame_begin_1
section
variable {rm : Room} {K : Nat → Nat → Nat → eg_Lo → List Value → List eg_E → Prop} {Q : Option Value → List eg_E → Prop} {kc ks : Nat} {loc : eg_Lo} {st : List Value} {h : List eg_E}
theorem s_Frame_begin_0 {x : Nat} {l : eg_Lo} : wps rm K Q c_Frame_begin_0 kc ks (some (.ref x) :: l) (st) h = wps rm K Q c_Frame_begin_1 kc ks (some (.ref x) :: l) (.ref x :: st) h := gk_aload rfl
theorem s_Frame_begin_1 {x : Nat} {l0 : Option Value} {l : eg_Lo} : wps rm K Q c_Frame_begin_1 kc ks (l0 :: some (.ref x) :: l) (st) h = wps rm K Q c_Frame_begin_2 kc ks (l0 :: some (.ref x) :: l) (.ref x :: st) h := gk_aload rfl
theorem s_Frame_begin_2 {x : Nat} : wps rm K Q c_Frame_begin_2 kc ks loc (.ref (x + 1) :: st) h = eg_gf h x 8 0 (fun v => wps rm K Q c_Frame_begin_5 kc ks loc (v :: st) h) := gk_gf
theorem s_Frame_begin_5 {x : Int32} {l0 l1 : Option Value} {l : eg_Lo} : wps rm K Q c_Frame_begin_5 kc ks (l0 :: l1 :: some (.int x) :: l) (st) h = wps rm K Q c_Frame_begin_6 kc ks (l0 :: l1 :: some (.int x) :: l) (.int x :: st) h := gk_iload rfl
theorem s_Frame_begin_6 {x : Nat} {i : Int32} : wps rm K Q c_Frame_begin_6 kc ks loc (.int i :: .ref (x + 1) :: st) h = eg_ia h x i (fun v => wps rm K Q c_Frame_begin_7 kc ks loc (.int v :: st) h) := gk_iaload
theorem s_Frame_begin_7 {x : Nat} {v : Value} : wps rm K Q c_Frame_begin_7 kc ks loc (v :: .ref (x + 1) :: st) h = eg_pf h x 5 2 v (fun h9 => wps rm K Q c_Frame_begin_10 kc ks loc (st) h9) := gk_pf
theorem s_Frame_begin_10 {x : Nat} {l : eg_Lo} : wps rm K Q c_Frame_begin_10 kc ks (some (.ref x) :: l) (st) h = wps rm K Q c_Frame_begin_11 kc ks (some (.ref x) :: l) (.ref x :: st) h := gk_aload rfl
theorem s_Frame_begin_11 {x : Nat} {l0 : Option Value} {l : eg_Lo} : wps rm K Q c_Frame_begin_11 kc ks (l0 :: some (.ref x) :: l) (st) h = wps rm K Q c_Frame_begin_12 kc ks (l0 :: some (.ref x) :: l) (.ref x :: st) h := gk_aload rfl
theorem s_Frame_begin_12 {x : Nat} : wps rm K Q c_Frame_begin_12 kc ks loc (.ref (x + 1) :: st) h = eg_gf h x 8 1 (fun v => wps rm K Q c_Frame_begin_15 kc ks loc (v :: st) h) := gk_gf
theorem s_Frame_begin_15 {x : Int32} {l0 l1 : Option Value} {l : eg_Lo} : wps rm K Q c_Frame_begin_15 kc ks (l0 :: l1 :: some (.int x) :: l) (st) h = wps rm K Q c_Frame_begin_16 kc ks (l0 :: l1 :: some (.int x) :: l) (.int x :: st) h := gk_iload rfl
theorem s_Frame_begin_16 {x : Nat} {i : Int32} : wps rm K Q c_Frame_begin_16 kc ks loc (.int i :: .ref (x + 1) :: st) h = eg_ia h x i (fun v => wps rm K Q c_Frame_begin_17 kc ks loc (.int v :: st) h) := gk_iaload
theorem s_Frame_begin_17 {x : Nat} {v : Value} : wps rm K Q c_Frame_begin_17 kc ks loc (v :: .ref (x + 1) :: st) h = eg_pf h x 5 3 v (fun h9 => wps rm K Q c_Frame_begin_20 kc ks loc (st) h9) := gk_pf
theorem s_Frame_begin_20 {x : Nat} {l : eg_Lo} : wps rm K Q c_Frame_begin_20 kc ks (some (.ref x) :: l) (st) h = wps rm K Q c_Frame_begin_21 kc ks (some (.ref x) :: l) (.ref x :: st) h := gk_aload rfl
theorem s_Frame_begin_21 {x : Nat} {l0 : Option Value} {l : eg_Lo} : wps rm K Q c_Frame_begin_21 kc ks (l0 :: some (.ref x) :: l) (st) h = wps rm K Q c_Frame_begin_22 kc ks (l0 :: some (.ref x) :: l) (.ref x :: st) h := gk_aload rfl
theorem s_Frame_begin_22 {x : Nat} : wps rm K Q c_Frame_begin_22 kc ks loc (.ref (x + 1) :: st) h = eg_gf h x 8 2 (fun v => wps rm K Q c_Frame_begin_25 kc ks loc (v :: st) h) := gk_gf
theorem s_Frame_begin_25 {x : Int32} {l0 l1 : Option Value} {l : eg_Lo} : wps rm K Q c_Frame_begin_25 kc ks (l0 :: l1 :: some (.int x) :: l) (st) h = wps rm K Q c_Frame_begin_26 kc ks (l0 :: l1 :: some (.int x) :: l) (.int x :: st) h := gk_iload rfl
theorem s_Frame_begin_26 {x : Nat} {i : Int32} : wps rm K Q c_Frame_begin_26 kc ks loc (.int i :: .ref (x + 1) :: st) h = eg_ia h x i (fun v => wps rm K Q c_Frame_begin_27 kc ks loc (.int v :: st) h) := gk_iaload
theorem s_Frame_begin_27 {x : Nat} {v : Value} : wps rm K Q c_Frame_begin_27 kc ks loc (v :: .ref (x + 1) :: st) h = eg_pf h x 5 4 v (fun h9 => wps rm K Q c_Frame_begin_30 kc ks loc (st) h9) := gk_pf
theorem s_Frame_begin_30 {x : Nat} {l : eg_Lo} : wps rm K Q c_Frame_begin_30 kc ks (some (.ref x) :: l) (st) h = wps rm K Q c_Frame_begin_31 kc ks (some (.ref x) :: l) (.ref x :: st) h := gk_aload rfl
theorem s_Frame_begin_31  : wps rm K Q c_Frame_begin_31 kc ks loc (st) h = wps rm K Q c_Frame_begin_32 kc ks loc (.int (1) :: st) h := gk_ic (by decide)
theorem s_Frame_begin_32 {x : Nat} {v : Int32} : wps rm K Q c_Frame_begin_32 kc ks loc (.int v :: .ref (x + 1) :: st) h = eg_pb h x 5 1 v (fun h9 => wps rm K Q c_Frame_begin_35 kc ks loc (st) h9) := gk_pb
theorem s_Frame_begin_35  : wps rm K Q c_Frame_begin_35 kc ks loc ([]) h = (kc = rm.cells ∧ Q none h) := gk_vret
def T_Frame_begin : List (Nat × List eg_I) := []
end
theorem y_Frame_begin_0 : eg_seq m_Frame_begin 0 c_Frame_begin_0 = true := by decide +kernel
theorem q_Frame_begin : ∀ q ∈ T_Frame_begin, eg_seq m_Frame_begin q.1 q.2 = true := by
  intro q hq
  cases hq
theorem b_Frame_begin {as : List Value} {h : List eg_E} {Q : Option Value → List eg_E → Prop} (hf : (eg_fl as).length ≤ 3) (hw : wps (eg_rm m_Frame_begin) (eg_run (eg_rm m_Frame_begin) (eg_R m_Frame_begin Q (h.length + 0)) Q T_Frame_begin 2) Q c_Frame_begin_0 0 0 (eg_entry 3 as) [] h) : eg_Runs n_Frame_begin as h Q := eg_begin2 (d := m_Frame_begin) rfl (by decide) y_Frame_begin_0 q_Frame_begin hf hw
/-! ===== Frame_along ===== -/
def c_Frame_along_69 : List eg_I := .inl (69, 1, .lreturn, 0, 0) :: []
def c_Frame_along_68 : List eg_I := .inl (68, 1, .ladd, 0, 0) :: c_Frame_along_69
def c_Frame_along_67 : List eg_I := .inl (67, 1, .lmul, 0, 0) :: c_Frame_along_68
def c_Frame_along_66 : List eg_I := .inl (66, 1, .i2l, 0, 0) :: c_Frame_along_67
def c_Frame_along_65 : List eg_I := .inl (65, 1, .isub, 0, 0) :: c_Frame_along_66
def c_Frame_along_62 : List eg_I := .inl (62, 3, .getfield 42, 5, 4) :: c_Frame_along_65
def c_Frame_along_61 : List eg_I := .inl (61, 1, .aload 0, 0, 0) :: c_Frame_along_62
def c_Frame_along_60 : List eg_I := .inl (60, 1, .iaload, 0, 0) :: c_Frame_along_61
def c_Frame_along_59 : List eg_I := .inl (59, 1, .iload 3, 0, 0) :: c_Frame_along_60
def c_Frame_along_56 : List eg_I := .inl (56, 3, .getfield 39, 8, 2) :: c_Frame_along_59
def c_Frame_along_55 : List eg_I := .inl (55, 1, .aload 2, 0, 0) :: c_Frame_along_56
def c_Frame_along_54 : List eg_I := .inl (54, 1, .laload, 0, 0) :: c_Frame_along_55
def c_Frame_along_53 : List eg_I := .inl (53, 1, .iadd, 0, 0) :: c_Frame_along_54
def c_Frame_along_52 : List eg_I := .inl (52, 1, .iconst (2), 0, 0) :: c_Frame_along_53
def c_Frame_along_51 : List eg_I := .inl (51, 1, .imul, 0, 0) :: c_Frame_along_52
def c_Frame_along_50 : List eg_I := .inl (50, 1, .iload 1, 0, 0) :: c_Frame_along_51
def c_Frame_along_49 : List eg_I := .inl (49, 1, .iconst (3), 0, 0) :: c_Frame_along_50
def c_Frame_along_46 : List eg_I := .inl (46, 3, .getfield 7, 5, 0) :: c_Frame_along_49
def c_Frame_along_45 : List eg_I := .inl (45, 1, .aload 0, 0, 0) :: c_Frame_along_46
def c_Frame_along_44 : List eg_I := .inl (44, 1, .ladd, 0, 0) :: c_Frame_along_45
def c_Frame_along_43 : List eg_I := .inl (43, 1, .lmul, 0, 0) :: c_Frame_along_44
def c_Frame_along_42 : List eg_I := .inl (42, 1, .i2l, 0, 0) :: c_Frame_along_43
def c_Frame_along_41 : List eg_I := .inl (41, 1, .isub, 0, 0) :: c_Frame_along_42
def c_Frame_along_38 : List eg_I := .inl (38, 3, .getfield 36, 5, 3) :: c_Frame_along_41
def c_Frame_along_37 : List eg_I := .inl (37, 1, .aload 0, 0, 0) :: c_Frame_along_38
def c_Frame_along_36 : List eg_I := .inl (36, 1, .iaload, 0, 0) :: c_Frame_along_37
def c_Frame_along_35 : List eg_I := .inl (35, 1, .iload 3, 0, 0) :: c_Frame_along_36
def c_Frame_along_32 : List eg_I := .inl (32, 3, .getfield 33, 8, 1) :: c_Frame_along_35
def c_Frame_along_31 : List eg_I := .inl (31, 1, .aload 2, 0, 0) :: c_Frame_along_32
def c_Frame_along_30 : List eg_I := .inl (30, 1, .laload, 0, 0) :: c_Frame_along_31
def c_Frame_along_29 : List eg_I := .inl (29, 1, .iadd, 0, 0) :: c_Frame_along_30
def c_Frame_along_28 : List eg_I := .inl (28, 1, .iconst (1), 0, 0) :: c_Frame_along_29
def c_Frame_along_27 : List eg_I := .inl (27, 1, .imul, 0, 0) :: c_Frame_along_28
def c_Frame_along_26 : List eg_I := .inl (26, 1, .iload 1, 0, 0) :: c_Frame_along_27
def c_Frame_along_25 : List eg_I := .inl (25, 1, .iconst (3), 0, 0) :: c_Frame_along_26
def c_Frame_along_22 : List eg_I := .inl (22, 3, .getfield 7, 5, 0) :: c_Frame_along_25
def c_Frame_along_21 : List eg_I := .inl (21, 1, .aload 0, 0, 0) :: c_Frame_along_22
def c_Frame_along_20 : List eg_I := .inl (20, 1, .lmul, 0, 0) :: c_Frame_along_21
def c_Frame_along_19 : List eg_I := .inl (19, 1, .i2l, 0, 0) :: c_Frame_along_20
def c_Frame_along_18 : List eg_I := .inl (18, 1, .isub, 0, 0) :: c_Frame_along_19
def c_Frame_along_15 : List eg_I := .inl (15, 3, .getfield 29, 5, 2) :: c_Frame_along_18
def c_Frame_along_14 : List eg_I := .inl (14, 1, .aload 0, 0, 0) :: c_Frame_along_15
def c_Frame_along_13 : List eg_I := .inl (13, 1, .iaload, 0, 0) :: c_Frame_along_14
def c_Frame_along_12 : List eg_I := .inl (12, 1, .iload 3, 0, 0) :: c_Frame_along_13
def c_Frame_along_9 : List eg_I := .inl (9, 3, .getfield 23, 8, 0) :: c_Frame_along_12
def c_Frame_along_8 : List eg_I := .inl (8, 1, .aload 2, 0, 0) :: c_Frame_along_9
def c_Frame_along_7 : List eg_I := .inl (7, 1, .laload, 0, 0) :: c_Frame_along_8
def c_Frame_along_6 : List eg_I := .inl (6, 1, .imul, 0, 0) :: c_Frame_along_7
def c_Frame_along_5 : List eg_I := .inl (5, 1, .iload 1, 0, 0) :: c_Frame_along_6
def c_Frame_along_4 : List eg_I := .inl (4, 1, .iconst (3), 0, 0) :: c_Frame_along_5
def c_Frame_along_1 : List eg_I := .inl (1, 3, .getfield 7, 5, 0) :: c_Frame_along_4
def c_Frame_along_0 : List eg_I := .inl (0, 1, .aload 0, 0, 0) :: c_Frame_along_1
section
variable {rm : Room} {K : Nat → Nat → Nat → eg_Lo → List Value → List eg_E → Prop} {Q : Option Value → List eg_E → Prop} {kc ks : Nat} {loc : eg_Lo} {st : List Value} {h : List eg_E}
theorem s_Frame_along_0 {x : Nat} {l : eg_Lo} : wps rm K Q c_Frame_along_0 kc ks (some (.ref x) :: l) (st) h = wps rm K Q c_Frame_along_1 kc ks (some (.ref x) :: l) (.ref x :: st) h := gk_aload rfl
theorem s_Frame_along_1 {x : Nat} : wps rm K Q c_Frame_along_1 kc ks loc (.ref (x + 1) :: st) h = eg_gf h x 5 0 (fun v => wps rm K Q c_Frame_along_4 kc ks loc (v :: st) h) := gk_gf
theorem s_Frame_along_4  : wps rm K Q c_Frame_along_4 kc ks loc (st) h = wps rm K Q c_Frame_along_5 kc ks loc (.int (3) :: st) h := gk_ic (by decide)
theorem s_Frame_along_5 {x : Int32} {l0 : Option Value} {l : eg_Lo} : wps rm K Q c_Frame_along_5 kc ks (l0 :: some (.int x) :: l) (st) h = wps rm K Q c_Frame_along_6 kc ks (l0 :: some (.int x) :: l) (.int x :: st) h := gk_iload rfl
theorem s_Frame_along_6 {x y : Int32} : wps rm K Q c_Frame_along_6 kc ks loc (.int y :: .int x :: st) h = wps rm K Q c_Frame_along_7 kc ks loc (.int (x * y) :: st) h := gk_imul
theorem s_Frame_along_7 {x : Nat} {i : Int32} : wps rm K Q c_Frame_along_7 kc ks loc (.int i :: .ref (x + 1) :: st) h = eg_la h x i (fun v => wps rm K Q c_Frame_along_8 kc ks loc (.long v :: st) h) := gk_laload
theorem s_Frame_along_8 {x : Nat} {l0 l1 : Option Value} {l : eg_Lo} : wps rm K Q c_Frame_along_8 kc ks (l0 :: l1 :: some (.ref x) :: l) (st) h = wps rm K Q c_Frame_along_9 kc ks (l0 :: l1 :: some (.ref x) :: l) (.ref x :: st) h := gk_aload rfl
theorem s_Frame_along_9 {x : Nat} : wps rm K Q c_Frame_along_9 kc ks loc (.ref (x + 1) :: st) h = eg_gf h x 8 0 (fun v => wps rm K Q c_Frame_along_12 kc ks loc (v :: st) h) := gk_gf
theorem s_Frame_along_12 {x : Int32} {l0 l1 l2 : Option Value} {l : eg_Lo} : wps rm K Q c_Frame_along_12 kc ks (l0 :: l1 :: l2 :: some (.int x) :: l) (st) h = wps rm K Q c_Frame_along_13 kc ks (l0 :: l1 :: l2 :: some (.int x) :: l) (.int x :: st) h := gk_iload rfl
theorem s_Frame_along_13 {x : Nat} {i : Int32} : wps rm K Q c_Frame_along_13 kc ks loc (.int i :: .ref (x + 1) :: st) h = eg_ia h x i (fun v => wps rm K Q c_Frame_along_14 kc ks loc (.int v :: st) h) := gk_iaload
theorem s_Frame_along_14 {x : Nat} {l : eg_Lo} : wps rm K Q c_Frame_along_14 kc ks (some (.ref x) :: l) (st) h = wps rm K Q c_Frame_along_15 kc ks (some (.ref x) :: l) (.ref x :: st) h := gk_aload rfl
theorem s_Frame_along_15 {x : Nat} : wps rm K Q c_Frame_along_15 kc ks loc (.ref (x + 1) :: st) h = eg_gf h x 5 2 (fun v => wps rm K Q c_Frame_along_18 kc ks loc (v :: st) h) := gk_gf
theorem s_Frame_along_18 {x y : Int32} : wps rm K Q c_Frame_along_18 kc ks loc (.int y :: .int x :: st) h = wps rm K Q c_Frame_along_19 kc ks loc (.int (x - y) :: st) h := gk_isub
theorem s_Frame_along_19 {x : Int32} : wps rm K Q c_Frame_along_19 kc ks loc (.int x :: st) h = wps rm K Q c_Frame_along_20 kc ks loc (.long (x.toInt64) :: st) h := gk_i2l
theorem s_Frame_along_20 {x y : Int64} : wps rm K Q c_Frame_along_20 kc ks loc (.long y :: .long x :: st) h = wps rm K Q c_Frame_along_21 kc ks loc (.long (x * y) :: st) h := gk_lmul
theorem s_Frame_along_21 {x : Nat} {l : eg_Lo} : wps rm K Q c_Frame_along_21 kc ks (some (.ref x) :: l) (st) h = wps rm K Q c_Frame_along_22 kc ks (some (.ref x) :: l) (.ref x :: st) h := gk_aload rfl
theorem s_Frame_along_22 {x : Nat} : wps rm K Q c_Frame_along_22 kc ks loc (.ref (x + 1) :: st) h = eg_gf h x 5 0 (fun v => wps rm K Q c_Frame_along_25 kc ks loc (v :: st) h) := gk_gf
theorem s_Frame_along_25  : wps rm K Q c_Frame_along_25 kc ks loc (st) h = wps rm K Q c_Frame_along_26 kc ks loc (.int (3) :: st) h := gk_ic (by decide)
theorem s_Frame_along_26 {x : Int32} {l0 : Option Value} {l : eg_Lo} : wps rm K Q c_Frame_along_26 kc ks (l0 :: some (.int x) :: l) (st) h = wps rm K Q c_Frame_along_27 kc ks (l0 :: some (.int x) :: l) (.int x :: st) h := gk_iload rfl
theorem s_Frame_along_27 {x y : Int32} : wps rm K Q c_Frame_along_27 kc ks loc (.int y :: .int x :: st) h = wps rm K Q c_Frame_along_28 kc ks loc (.int (x * y) :: st) h := gk_imul
theorem s_Frame_along_28  : wps rm K Q c_Frame_along_28 kc ks loc (st) h = wps rm K Q c_Frame_along_29 kc ks loc (.int (1) :: st) h := gk_ic (by decide)
theorem s_Frame_along_29 {x y : Int32} : wps rm K Q c_Frame_along_29 kc ks loc (.int y :: .int x :: st) h = wps rm K Q c_Frame_along_30 kc ks loc (.int (x + y) :: st) h := gk_iadd
theorem s_Frame_along_30 {x : Nat} {i : Int32} : wps rm K Q c_Frame_along_30 kc ks loc (.int i :: .ref (x + 1) :: st) h = eg_la h x i (fun v => wps rm K Q c_Frame_along_31 kc ks loc (.long v :: st) h) := gk_laload
theorem s_Frame_along_31 {x : Nat} {l0 l1 : Option Value} {l : eg_Lo} : wps rm K Q c_Frame_along_31 kc ks (l0 :: l1 :: some (.ref x) :: l) (st) h = wps rm K Q c_Frame_along_32 kc ks (l0 :: l1 :: some (.ref x) :: l) (.ref x :: st) h := gk_aload rfl
theorem s_Frame_along_32 {x : Nat} : wps rm K Q c_Frame_along_32 kc ks loc (.ref (x + 1) :: st) h = eg_gf h x 8 1 (fun v => wps rm K Q c_Frame_along_35 kc ks loc (v :: st) h) := gk_gf
theorem s_Frame_along_35 {x : Int32} {l0 l1 l2 : Option Value} {l : eg_Lo} : wps rm K Q c_Frame_along_35 kc ks (l0 :: l1 :: l2 :: some (.int x) :: l) (st) h = wps rm K Q c_Frame_along_36 kc ks (l0 :: l1 :: l2 :: some (.int x) :: l) (.int x :: st) h := gk_iload rfl
theorem s_Frame_along_36 {x : Nat} {i : Int32} : wps rm K Q c_Frame_along_36 kc ks loc (.int i :: .ref (x + 1) :: st) h = eg_ia h x i (fun v => wps rm K Q c_Frame_along_37 kc ks loc (.int v :: st) h) := gk_iaload
theorem s_Frame_along_37 {x : Nat} {l : eg_Lo} : wps rm K Q c_Frame_along_37 kc ks (some (.ref x) :: l) (st) h = wps rm K Q c_Frame_along_38 kc ks (some (.ref x) :: l) (.ref x :: st) h := gk_aload rfl
theorem s_Frame_along_38 {x : Nat} : wps rm K Q c_Frame_along_38 kc ks loc (.ref (x + 1) :: st) h = eg_gf h x 5 3 (fun v => wps rm K Q c_Frame_along_41 kc ks loc (v :: st) h) := gk_gf
theorem s_Frame_along_41 {x y : Int32} : wps rm K Q c_Frame_along_41 kc ks loc (.int y :: .int x :: st) h = wps rm K Q c_Frame_along_42 kc ks loc (.int (x - y) :: st) h := gk_isub
theorem s_Frame_along_42 {x : Int32} : wps rm K Q c_Frame_along_42 kc ks loc (.int x :: st) h = wps rm K Q c_Frame_along_43 kc ks loc (.long (x.toInt64) :: st) h := gk_i2l
theorem s_Frame_along_43 {x y : Int64} : wps rm K Q c_Frame_along_43 kc ks loc (.long y :: .long x :: st) h = wps rm K Q c_Frame_along_44 kc ks loc (.long (x * y) :: st) h := gk_lmul
theorem s_Frame_along_44 {x y : Int64} : wps rm K Q c_Frame_along_44 kc ks loc (.long y :: .long x :: st) h = wps rm K Q c_Frame_along_45 kc ks loc (.long (x + y) :: st) h := gk_ladd
theorem s_Frame_along_45 {x : Nat} {l : eg_Lo} : wps rm K Q c_Frame_along_45 kc ks (some (.ref x) :: l) (st) h = wps rm K Q c_Frame_along_46 kc ks (some (.ref x) :: l) (.ref x :: st) h := gk_aload rfl
theorem s_Frame_along_46 {x : Nat} : wps rm K Q c_Frame_along_46 kc ks loc (.ref (x + 1) :: st) h = eg_gf h x 5 0 (fun v => wps rm K Q c_Frame_along_49 kc ks loc (v :: st) h) := gk_gf
theorem s_Frame_along_49  : wps rm K Q c_Frame_along_49 kc ks loc (st) h = wps rm K Q c_Frame_along_50 kc ks loc (.int (3) :: st) h := gk_ic (by decide)
theorem s_Frame_along_50 {x : Int32} {l0 : Option Value} {l : eg_Lo} : wps rm K Q c_Frame_along_50 kc ks (l0 :: some (.int x) :: l) (st) h = wps rm K Q c_Frame_along_51 kc ks (l0 :: some (.int x) :: l) (.int x :: st) h := gk_iload rfl
theorem s_Frame_along_51 {x y : Int32} : wps rm K Q c_Frame_along_51 kc ks loc (.int y :: .int x :: st) h = wps rm K Q c_Frame_along_52 kc ks loc (.int (x * y) :: st) h := gk_imul
theorem s_Frame_along_52  : wps rm K Q c_Frame_along_52 kc ks loc (st) h = wps rm K Q c_Frame_along_53 kc ks loc (.int (2) :: st) h := gk_ic (by decide)
theorem s_Frame_along_53 {x y : Int32} : wps rm K Q c_Frame_along_53 kc ks loc (.int y :: .int x :: st) h = wps rm K Q c_Frame_along_54 kc ks loc (.int (x + y) :: st) h := gk_iadd
theorem s_Frame_along_54 {x : Nat} {i : Int32} : wps rm K Q c_Frame_along_54 kc ks loc (.int i :: .ref (x + 1) :: st) h = eg_la h x i (fun v => wps rm K Q c_Frame_along_55 kc ks loc (.long v :: st) h) := gk_laload
theorem s_Frame_along_55 {x : Nat} {l0 l1 : Option Value} {l : eg_Lo} : wps rm K Q c_Frame_along_55 kc ks (l0 :: l1 :: some (.ref x) :: l) (st) h = wps rm K Q c_Frame_along_56 kc ks (l0 :: l1 :: some (.ref x) :: l) (.ref x :: st) h := gk_aload rfl
theorem s_Frame_along_56 {x : Nat} : wps rm K Q c_Frame_along_56 kc ks loc (.ref (x + 1) :: st) h = eg_gf h x 8 2 (fun v => wps rm K Q c_Frame_along_59 kc ks loc (v :: st) h) := gk_gf
theorem s_Frame_along_59 {x : Int32} {l0 l1 l2 : Option Value} {l : eg_Lo} : wps rm K Q c_Frame_along_59 kc ks (l0 :: l1 :: l2 :: some (.int x) :: l) (st) h = wps rm K Q c_Frame_along_60 kc ks (l0 :: l1 :: l2 :: some (.int x) :: l) (.int x :: st) h := gk_iload rfl
theorem s_Frame_along_60 {x : Nat} {i : Int32} : wps rm K Q c_Frame_along_60 kc ks loc (.int i :: .ref (x + 1) :: st) h = eg_ia h x i (fun v => wps rm K Q c_Frame_along_61 kc ks loc (.int v :: st) h) := gk_iaload
theorem s_Frame_along_61 {x : Nat} {l : eg_Lo} : wps rm K Q c_Frame_along_61 kc ks (some (.ref x) :: l) (st) h = wps rm K Q c_Frame_along_62 kc ks (some (.ref x) :: l) (.ref x :: st) h := gk_aload rfl
theorem s_Frame_along_62 {x : Nat} : wps rm K Q c_Frame_along_62 kc ks loc (.ref (x + 1) :: st) h = eg_gf h x 5 4 (fun v => wps rm K Q c_Frame_along_65 kc ks loc (v :: st) h) := gk_gf
theorem s_Frame_along_65 {x y : Int32} : wps rm K Q c_Frame_along_65 kc ks loc (.int y :: .int x :: st) h = wps rm K Q c_Frame_along_66 kc ks loc (.int (x - y) :: st) h := gk_isub
theorem s_Frame_along_66 {x : Int32} : wps rm K Q c_Frame_along_66 kc ks loc (.int x :: st) h = wps rm K Q c_Frame_along_67 kc ks loc (.long (x.toInt64) :: st) h := gk_i2l
theorem s_Frame_along_67 {x y : Int64} : wps rm K Q c_Frame_along_67 kc ks loc (.long y :: .long x :: st) h = wps rm K Q c_Frame_along_68 kc ks loc (.long (x * y) :: st) h := gk_lmul
theorem s_Frame_along_68 {x y : Int64} : wps rm K Q c_Frame_along_68 kc ks loc (.long y :: .long x :: st) h = wps rm K Q c_Frame_along_69 kc ks loc (.long (x + y) :: st) h := gk_ladd
theorem s_Frame_along_69 {x : Int64} : wps rm K Q c_Frame_along_69 kc ks loc ([.long x]) h = (kc = rm.cells ∧ Q (some (.long x)) h) := gk_lret
def T_Frame_along : List (Nat × List eg_I) := []
end
theorem y_Frame_along_0 : eg_seq m_Frame_along 0 c_Frame_along_0 = true := by decide +kernel
theorem q_Frame_along : ∀ q ∈ T_Frame_along, eg_seq m_Frame_along q.1 q.2 = true := by
  intro q hq
  cases hq
theorem b_Frame_along {as : List Value} {h : List eg_E} {Q : Option Value → List eg_E → Prop} (hf : (eg_fl as).length ≤ 4) (hw : wps (eg_rm m_Frame_along) (eg_run (eg_rm m_Frame_along) (eg_R m_Frame_along Q (h.length + 0)) Q T_Frame_along 2) Q c_Frame_along_0 0 0 (eg_entry 4 as) [] h) : eg_Runs n_Frame_along as h Q := eg_begin2 (d := m_Frame_along) rfl (by decide) y_Frame_along_0 q_Frame_along hf hw
/-! ===== Grid_init ===== -/
def c_Grid_init_20 : List eg_I := .inl (20, 1, .return_, 0, 0) :: []
def c_Grid_init_17 : List eg_I := .inl (17, 3, .putfield 15, 6, 1) :: c_Grid_init_20
def c_Grid_init_15 : List eg_I := .inl (15, 2, .newarray .int, 0, 0) :: c_Grid_init_17
def c_Grid_init_13 : List eg_I := .inl (13, 2, .iconst (9), 0, 0) :: c_Grid_init_15
def c_Grid_init_12 : List eg_I := .inl (12, 1, .aload 0, 0, 0) :: c_Grid_init_13
def c_Grid_init_9 : List eg_I := .inl (9, 3, .putfield 9, 6, 0) :: c_Grid_init_12
def c_Grid_init_7 : List eg_I := .inl (7, 2, .newarray .int, 0, 0) :: c_Grid_init_9
def c_Grid_init_5 : List eg_I := .inl (5, 2, .iconst (9), 0, 0) :: c_Grid_init_7
def c_Grid_init_4 : List eg_I := .inl (4, 1, .aload 0, 0, 0) :: c_Grid_init_5
def c_Grid_init_1 : List eg_I := .inl (1, 3, .athrow, 3, 0) :: c_Grid_init_4
def c_Grid_init_0 : List eg_I := .inl (0, 1, .aload 0, 0, 0) :: c_Grid_init_1
section
variable {rm : Room} {K : Nat → Nat → Nat → eg_Lo → List Value → List eg_E → Prop} {Q : Option Value → List eg_E → Prop} {kc ks : Nat} {loc : eg_Lo} {st : List Value} {h : List eg_E}
theorem s_Grid_init_0 {x : Nat} {l : eg_Lo} : wps rm K Q c_Grid_init_0 kc ks (some (.ref x) :: l) (st) h = wps rm K Q c_Grid_init_1 kc ks (some (.ref x) :: l) (.ref x :: st) h := gk_aload rfl
theorem s_Grid_init_1 {x : Nat} : wps rm K Q c_Grid_init_1 kc ks loc (.ref (x + 1) :: st) h = (st.length ≤ 4 ∧ wps rm K Q c_Grid_init_4 kc ks loc (st) h) := gk_oi
theorem s_Grid_init_4 {x : Nat} {l : eg_Lo} : wps rm K Q c_Grid_init_4 kc ks (some (.ref x) :: l) (st) h = wps rm K Q c_Grid_init_5 kc ks (some (.ref x) :: l) (.ref x :: st) h := gk_aload rfl
theorem s_Grid_init_5  : wps rm K Q c_Grid_init_5 kc ks loc (st) h = wps rm K Q c_Grid_init_7 kc ks loc (.int (9) :: st) h := gk_ic (by decide)
theorem s_Grid_init_7 {x : Int32} : wps rm K Q c_Grid_init_7 kc ks loc (.int x :: st) h = (¬ x < 0 ∧ x.toNatClampNeg ≤ 1000 ∧ kc + 1 ≤ rm.cells ∧ ks + x.toNatClampNeg ≤ rm.slots ∧ wps rm K Q c_Grid_init_9 (kc + 1) (ks + x.toNatClampNeg) loc (.ref (h.length + 1) :: st) (h ++ [.inl (0, eg_zero 0 x.toNatClampNeg)])) := gk_na
theorem s_Grid_init_9 {x : Nat} {v : Value} : wps rm K Q c_Grid_init_9 kc ks loc (v :: .ref (x + 1) :: st) h = eg_pf h x 6 0 v (fun h9 => wps rm K Q c_Grid_init_12 kc ks loc (st) h9) := gk_pf
theorem s_Grid_init_12 {x : Nat} {l : eg_Lo} : wps rm K Q c_Grid_init_12 kc ks (some (.ref x) :: l) (st) h = wps rm K Q c_Grid_init_13 kc ks (some (.ref x) :: l) (.ref x :: st) h := gk_aload rfl
theorem s_Grid_init_13  : wps rm K Q c_Grid_init_13 kc ks loc (st) h = wps rm K Q c_Grid_init_15 kc ks loc (.int (9) :: st) h := gk_ic (by decide)
theorem s_Grid_init_15 {x : Int32} : wps rm K Q c_Grid_init_15 kc ks loc (.int x :: st) h = (¬ x < 0 ∧ x.toNatClampNeg ≤ 1000 ∧ kc + 1 ≤ rm.cells ∧ ks + x.toNatClampNeg ≤ rm.slots ∧ wps rm K Q c_Grid_init_17 (kc + 1) (ks + x.toNatClampNeg) loc (.ref (h.length + 1) :: st) (h ++ [.inl (0, eg_zero 0 x.toNatClampNeg)])) := gk_na
theorem s_Grid_init_17 {x : Nat} {v : Value} : wps rm K Q c_Grid_init_17 kc ks loc (v :: .ref (x + 1) :: st) h = eg_pf h x 6 1 v (fun h9 => wps rm K Q c_Grid_init_20 kc ks loc (st) h9) := gk_pf
theorem s_Grid_init_20  : wps rm K Q c_Grid_init_20 kc ks loc ([]) h = (kc = rm.cells ∧ Q none h) := gk_vret
def T_Grid_init : List (Nat × List eg_I) := []
end
theorem y_Grid_init_0 : eg_seq m_Grid_init 0 c_Grid_init_0 = true := by decide +kernel
theorem q_Grid_init : ∀ q ∈ T_Grid_init, eg_seq m_Grid_init q.1 q.2 = true := by
  intro q hq
  cases hq
theorem b_Grid_init {as : List Value} {h : List eg_E} {Q : Option Value → List eg_E → Prop} (hf : (eg_fl as).length ≤ 1) (hw : wps (eg_rm m_Grid_init) (eg_run (eg_rm m_Grid_init) (eg_R m_Grid_init Q (h.length + 2)) Q T_Grid_init 2) Q c_Grid_init_0 0 0 (eg_entry 1 as) [] h) : eg_Runs n_Grid_init as h Q := eg_begin2 (d := m_Grid_init) rfl (by decide) y_Grid_init_0 q_Grid_init hf hw
/-! ===== Grid_tooGreat ===== -/
def c_Grid_tooGreat_130 : List eg_I := .inl (130, 1, .ireturn, 0, 0) :: []
def c_Grid_tooGreat_127 : List eg_I := .inr (127, 0, 19, n_Math_floorDiv, 2, 13, 0, 0) :: c_Grid_tooGreat_130
def c_Grid_tooGreat_125 : List eg_I := .inl (125, 2, .iconst (90000), 18, 0) :: c_Grid_tooGreat_127
def c_Grid_tooGreat_123 : List eg_I := .inl (123, 2, .iload 8, 0, 0) :: c_Grid_tooGreat_125
def c_Grid_tooGreat_121 : List eg_I := .inl (121, 2, .istore 8, 0, 0) :: c_Grid_tooGreat_123
def c_Grid_tooGreat_120 : List eg_I := .inl (120, 1, .iadd, 0, 0) :: c_Grid_tooGreat_121
def c_Grid_tooGreat_119 : List eg_I := .inl (119, 1, .imul, 0, 0) :: c_Grid_tooGreat_120
def c_Grid_tooGreat_117 : List eg_I := .inl (117, 2, .iload 6, 0, 0) :: c_Grid_tooGreat_119
def c_Grid_tooGreat_116 : List eg_I := .inl (116, 1, .imul, 0, 0) :: c_Grid_tooGreat_117
def c_Grid_tooGreat_114 : List eg_I := .inl (114, 2, .iload 5, 0, 0) :: c_Grid_tooGreat_116
def c_Grid_tooGreat_113 : List eg_I := .inl (113, 1, .iaload, 0, 0) :: c_Grid_tooGreat_114
def c_Grid_tooGreat_112 : List eg_I := .inl (112, 1, .iadd, 0, 0) :: c_Grid_tooGreat_113
def c_Grid_tooGreat_111 : List eg_I := .inl (111, 1, .iconst (4), 0, 0) :: c_Grid_tooGreat_112
def c_Grid_tooGreat_109 : List eg_I := .inl (109, 2, .iload 7, 0, 0) :: c_Grid_tooGreat_111
def c_Grid_tooGreat_108 : List eg_I := .inl (108, 1, .aload 0, 0, 0) :: c_Grid_tooGreat_109
def c_Grid_tooGreat_107 : List eg_I := .inl (107, 1, .iadd, 0, 0) :: c_Grid_tooGreat_108
def c_Grid_tooGreat_106 : List eg_I := .inl (106, 1, .imul, 0, 0) :: c_Grid_tooGreat_107
def c_Grid_tooGreat_104 : List eg_I := .inl (104, 2, .iload 6, 0, 0) :: c_Grid_tooGreat_106
def c_Grid_tooGreat_103 : List eg_I := .inl (103, 1, .imul, 0, 0) :: c_Grid_tooGreat_104
def c_Grid_tooGreat_102 : List eg_I := .inl (102, 1, .isub, 0, 0) :: c_Grid_tooGreat_103
def c_Grid_tooGreat_100 : List eg_I := .inl (100, 2, .iload 5, 0, 0) :: c_Grid_tooGreat_102
def c_Grid_tooGreat_97 : List eg_I := .inl (97, 3, .iconst (300), 0, 0) :: c_Grid_tooGreat_100
def c_Grid_tooGreat_96 : List eg_I := .inl (96, 1, .iaload, 0, 0) :: c_Grid_tooGreat_97
def c_Grid_tooGreat_95 : List eg_I := .inl (95, 1, .iadd, 0, 0) :: c_Grid_tooGreat_96
def c_Grid_tooGreat_94 : List eg_I := .inl (94, 1, .iconst (3), 0, 0) :: c_Grid_tooGreat_95
def c_Grid_tooGreat_92 : List eg_I := .inl (92, 2, .iload 7, 0, 0) :: c_Grid_tooGreat_94
def c_Grid_tooGreat_91 : List eg_I := .inl (91, 1, .aload 0, 0, 0) :: c_Grid_tooGreat_92
def c_Grid_tooGreat_90 : List eg_I := .inl (90, 1, .iadd, 0, 0) :: c_Grid_tooGreat_91
def c_Grid_tooGreat_89 : List eg_I := .inl (89, 1, .imul, 0, 0) :: c_Grid_tooGreat_90
def c_Grid_tooGreat_88 : List eg_I := .inl (88, 1, .isub, 0, 0) :: c_Grid_tooGreat_89
def c_Grid_tooGreat_86 : List eg_I := .inl (86, 2, .iload 6, 0, 0) :: c_Grid_tooGreat_88
def c_Grid_tooGreat_83 : List eg_I := .inl (83, 3, .iconst (300), 0, 0) :: c_Grid_tooGreat_86
def c_Grid_tooGreat_82 : List eg_I := .inl (82, 1, .imul, 0, 0) :: c_Grid_tooGreat_83
def c_Grid_tooGreat_80 : List eg_I := .inl (80, 2, .iload 5, 0, 0) :: c_Grid_tooGreat_82
def c_Grid_tooGreat_79 : List eg_I := .inl (79, 1, .iaload, 0, 0) :: c_Grid_tooGreat_80
def c_Grid_tooGreat_78 : List eg_I := .inl (78, 1, .iadd, 0, 0) :: c_Grid_tooGreat_79
def c_Grid_tooGreat_77 : List eg_I := .inl (77, 1, .iconst (1), 0, 0) :: c_Grid_tooGreat_78
def c_Grid_tooGreat_75 : List eg_I := .inl (75, 2, .iload 7, 0, 0) :: c_Grid_tooGreat_77
def c_Grid_tooGreat_74 : List eg_I := .inl (74, 1, .aload 0, 0, 0) :: c_Grid_tooGreat_75
def c_Grid_tooGreat_73 : List eg_I := .inl (73, 1, .imul, 0, 0) :: c_Grid_tooGreat_74
def c_Grid_tooGreat_72 : List eg_I := .inl (72, 1, .isub, 0, 0) :: c_Grid_tooGreat_73
def c_Grid_tooGreat_70 : List eg_I := .inl (70, 2, .iload 6, 0, 0) :: c_Grid_tooGreat_72
def c_Grid_tooGreat_67 : List eg_I := .inl (67, 3, .iconst (300), 0, 0) :: c_Grid_tooGreat_70
def c_Grid_tooGreat_66 : List eg_I := .inl (66, 1, .imul, 0, 0) :: c_Grid_tooGreat_67
def c_Grid_tooGreat_65 : List eg_I := .inl (65, 1, .isub, 0, 0) :: c_Grid_tooGreat_66
def c_Grid_tooGreat_63 : List eg_I := .inl (63, 2, .iload 5, 0, 0) :: c_Grid_tooGreat_65
def c_Grid_tooGreat_60 : List eg_I := .inl (60, 3, .iconst (300), 0, 0) :: c_Grid_tooGreat_63
def c_Grid_tooGreat_59 : List eg_I := .inl (59, 1, .iaload, 0, 0) :: c_Grid_tooGreat_60
def c_Grid_tooGreat_57 : List eg_I := .inl (57, 2, .iload 7, 0, 0) :: c_Grid_tooGreat_59
def c_Grid_tooGreat_56 : List eg_I := .inl (56, 1, .aload 0, 0, 0) :: c_Grid_tooGreat_57
def c_Grid_tooGreat_54 : List eg_I := .inl (54, 2, .istore 7, 0, 0) :: c_Grid_tooGreat_56
def c_Grid_tooGreat_53 : List eg_I := .inl (53, 1, .iadd, 0, 0) :: c_Grid_tooGreat_54
def c_Grid_tooGreat_52 : List eg_I := .inl (52, 1, .iload 3, 0, 0) :: c_Grid_tooGreat_53
def c_Grid_tooGreat_51 : List eg_I := .inl (51, 1, .imul, 0, 0) :: c_Grid_tooGreat_52
def c_Grid_tooGreat_49 : List eg_I := .inl (49, 2, .iload 4, 0, 0) :: c_Grid_tooGreat_51
def c_Grid_tooGreat_48 : List eg_I := .inl (48, 1, .iconst (3), 0, 0) :: c_Grid_tooGreat_49
def c_Grid_tooGreat_46 : List eg_I := .inl (46, 2, .istore 6, 0, 0) :: c_Grid_tooGreat_48
def c_Grid_tooGreat_45 : List eg_I := .inl (45, 1, .isub, 0, 0) :: c_Grid_tooGreat_46
def c_Grid_tooGreat_44 : List eg_I := .inl (44, 1, .imul, 0, 0) :: c_Grid_tooGreat_45
def c_Grid_tooGreat_42 : List eg_I := .inl (42, 2, .iload 4, 0, 0) :: c_Grid_tooGreat_44
def c_Grid_tooGreat_39 : List eg_I := .inl (39, 3, .iconst (300), 0, 0) :: c_Grid_tooGreat_42
def c_Grid_tooGreat_38 : List eg_I := .inl (38, 1, .iadd, 0, 0) :: c_Grid_tooGreat_39
def c_Grid_tooGreat_35 : List eg_I := .inl (35, 3, .iconst (300), 0, 0) :: c_Grid_tooGreat_38
def c_Grid_tooGreat_34 : List eg_I := .inl (34, 1, .iload 2, 0, 0) :: c_Grid_tooGreat_35
def c_Grid_tooGreat_32 : List eg_I := .inl (32, 2, .istore 5, 0, 0) :: c_Grid_tooGreat_34
def c_Grid_tooGreat_31 : List eg_I := .inl (31, 1, .isub, 0, 0) :: c_Grid_tooGreat_32
def c_Grid_tooGreat_30 : List eg_I := .inl (30, 1, .imul, 0, 0) :: c_Grid_tooGreat_31
def c_Grid_tooGreat_29 : List eg_I := .inl (29, 1, .iload 3, 0, 0) :: c_Grid_tooGreat_30
def c_Grid_tooGreat_26 : List eg_I := .inl (26, 3, .iconst (300), 0, 0) :: c_Grid_tooGreat_29
def c_Grid_tooGreat_25 : List eg_I := .inl (25, 1, .iadd, 0, 0) :: c_Grid_tooGreat_26
def c_Grid_tooGreat_22 : List eg_I := .inl (22, 3, .iconst (300), 0, 0) :: c_Grid_tooGreat_25
def c_Grid_tooGreat_21 : List eg_I := .inl (21, 1, .iload 1, 0, 0) :: c_Grid_tooGreat_22
def c_Grid_tooGreat_19 : List eg_I := .inl (19, 2, .istore 4, 0, 0) :: c_Grid_tooGreat_21
def c_Grid_tooGreat_18 : List eg_I := .inl (18, 1, .iconst (1), 0, 0) :: c_Grid_tooGreat_19
def c_Grid_tooGreat_15 : List eg_I := .inl (15, 3, .goto (4), 19, 0) :: []
def c_Grid_tooGreat_14 : List eg_I := .inl (14, 1, .iconst (0), 0, 0) :: c_Grid_tooGreat_15
def c_Grid_tooGreat_11 : List eg_I := .inl (11, 3, .ifCond .ge (7), 18, 0) :: c_Grid_tooGreat_14
def c_Grid_tooGreat_10 : List eg_I := .inl (10, 1, .iload 2, 0, 0) :: c_Grid_tooGreat_11
def c_Grid_tooGreat_9 : List eg_I := .inl (9, 1, .istore 3, 0, 0) :: c_Grid_tooGreat_10
def c_Grid_tooGreat_8 : List eg_I := .inl (8, 1, .iconst (1), 0, 0) :: c_Grid_tooGreat_9
def c_Grid_tooGreat_5 : List eg_I := .inl (5, 3, .goto (4), 9, 0) :: []
def c_Grid_tooGreat_4 : List eg_I := .inl (4, 1, .iconst (0), 0, 0) :: c_Grid_tooGreat_5
def c_Grid_tooGreat_1 : List eg_I := .inl (1, 3, .ifCond .ge (7), 8, 0) :: c_Grid_tooGreat_4
def c_Grid_tooGreat_0 : List eg_I := .inl (0, 1, .iload 1, 0, 0) :: c_Grid_tooGreat_1
section
variable {rm : Room} {K : Nat → Nat → Nat → eg_Lo → List Value → List eg_E → Prop} {Q : Option Value → List eg_E → Prop} {kc ks : Nat} {loc : eg_Lo} {st : List Value} {h : List eg_E}
theorem s_Grid_tooGreat_0 {x : Int32} {l0 : Option Value} {l : eg_Lo} : wps rm K Q c_Grid_tooGreat_0 kc ks (l0 :: some (.int x) :: l) (st) h = wps rm K Q c_Grid_tooGreat_1 kc ks (l0 :: some (.int x) :: l) (.int x :: st) h := gk_iload rfl
theorem s_Grid_tooGreat_1 {x : Int32} : wps rm K Q c_Grid_tooGreat_1 kc ks loc (.int x :: st) h = ((0 ≤ x → K 8 kc ks loc st h) ∧ (¬ 0 ≤ x → wps rm K Q c_Grid_tooGreat_4 kc ks loc (st) h)) := gk_if1_ge
theorem s_Grid_tooGreat_4  : wps rm K Q c_Grid_tooGreat_4 kc ks loc (st) h = wps rm K Q c_Grid_tooGreat_5 kc ks loc (.int (0) :: st) h := gk_ic (by decide)
theorem s_Grid_tooGreat_5  : wps rm K Q c_Grid_tooGreat_5 kc ks loc (st) h = K 9 kc ks loc st h := gk_goto
theorem s_Grid_tooGreat_8  : wps rm K Q c_Grid_tooGreat_8 kc ks loc (st) h = wps rm K Q c_Grid_tooGreat_9 kc ks loc (.int (1) :: st) h := gk_ic (by decide)
theorem s_Grid_tooGreat_9 {x : Int32} : wps rm K Q c_Grid_tooGreat_9 kc ks loc (.int x :: st) h = wps rm K Q c_Grid_tooGreat_10 kc ks (eg_set1 loc 3 (.int x)) (st) h := gk_istore
theorem s_Grid_tooGreat_10 {x : Int32} {l0 l1 : Option Value} {l : eg_Lo} : wps rm K Q c_Grid_tooGreat_10 kc ks (l0 :: l1 :: some (.int x) :: l) (st) h = wps rm K Q c_Grid_tooGreat_11 kc ks (l0 :: l1 :: some (.int x) :: l) (.int x :: st) h := gk_iload rfl
theorem s_Grid_tooGreat_11 {x : Int32} : wps rm K Q c_Grid_tooGreat_11 kc ks loc (.int x :: st) h = ((0 ≤ x → K 18 kc ks loc st h) ∧ (¬ 0 ≤ x → wps rm K Q c_Grid_tooGreat_14 kc ks loc (st) h)) := gk_if1_ge
theorem s_Grid_tooGreat_14  : wps rm K Q c_Grid_tooGreat_14 kc ks loc (st) h = wps rm K Q c_Grid_tooGreat_15 kc ks loc (.int (0) :: st) h := gk_ic (by decide)
theorem s_Grid_tooGreat_15  : wps rm K Q c_Grid_tooGreat_15 kc ks loc (st) h = K 19 kc ks loc st h := gk_goto
theorem s_Grid_tooGreat_18  : wps rm K Q c_Grid_tooGreat_18 kc ks loc (st) h = wps rm K Q c_Grid_tooGreat_19 kc ks loc (.int (1) :: st) h := gk_ic (by decide)
theorem s_Grid_tooGreat_19 {x : Int32} : wps rm K Q c_Grid_tooGreat_19 kc ks loc (.int x :: st) h = wps rm K Q c_Grid_tooGreat_21 kc ks (eg_set1 loc 4 (.int x)) (st) h := gk_istore
theorem s_Grid_tooGreat_21 {x : Int32} {l0 : Option Value} {l : eg_Lo} : wps rm K Q c_Grid_tooGreat_21 kc ks (l0 :: some (.int x) :: l) (st) h = wps rm K Q c_Grid_tooGreat_22 kc ks (l0 :: some (.int x) :: l) (.int x :: st) h := gk_iload rfl
theorem s_Grid_tooGreat_22  : wps rm K Q c_Grid_tooGreat_22 kc ks loc (st) h = wps rm K Q c_Grid_tooGreat_25 kc ks loc (.int (300) :: st) h := gk_ic (by decide)
theorem s_Grid_tooGreat_25 {x y : Int32} : wps rm K Q c_Grid_tooGreat_25 kc ks loc (.int y :: .int x :: st) h = wps rm K Q c_Grid_tooGreat_26 kc ks loc (.int (x + y) :: st) h := gk_iadd
theorem s_Grid_tooGreat_26  : wps rm K Q c_Grid_tooGreat_26 kc ks loc (st) h = wps rm K Q c_Grid_tooGreat_29 kc ks loc (.int (300) :: st) h := gk_ic (by decide)
theorem s_Grid_tooGreat_29 {x : Int32} {l0 l1 l2 : Option Value} {l : eg_Lo} : wps rm K Q c_Grid_tooGreat_29 kc ks (l0 :: l1 :: l2 :: some (.int x) :: l) (st) h = wps rm K Q c_Grid_tooGreat_30 kc ks (l0 :: l1 :: l2 :: some (.int x) :: l) (.int x :: st) h := gk_iload rfl
theorem s_Grid_tooGreat_30 {x y : Int32} : wps rm K Q c_Grid_tooGreat_30 kc ks loc (.int y :: .int x :: st) h = wps rm K Q c_Grid_tooGreat_31 kc ks loc (.int (x * y) :: st) h := gk_imul
theorem s_Grid_tooGreat_31 {x y : Int32} : wps rm K Q c_Grid_tooGreat_31 kc ks loc (.int y :: .int x :: st) h = wps rm K Q c_Grid_tooGreat_32 kc ks loc (.int (x - y) :: st) h := gk_isub
theorem s_Grid_tooGreat_32 {x : Int32} : wps rm K Q c_Grid_tooGreat_32 kc ks loc (.int x :: st) h = wps rm K Q c_Grid_tooGreat_34 kc ks (eg_set1 loc 5 (.int x)) (st) h := gk_istore
theorem s_Grid_tooGreat_34 {x : Int32} {l0 l1 : Option Value} {l : eg_Lo} : wps rm K Q c_Grid_tooGreat_34 kc ks (l0 :: l1 :: some (.int x) :: l) (st) h = wps rm K Q c_Grid_tooGreat_35 kc ks (l0 :: l1 :: some (.int x) :: l) (.int x :: st) h := gk_iload rfl
theorem s_Grid_tooGreat_35  : wps rm K Q c_Grid_tooGreat_35 kc ks loc (st) h = wps rm K Q c_Grid_tooGreat_38 kc ks loc (.int (300) :: st) h := gk_ic (by decide)
theorem s_Grid_tooGreat_38 {x y : Int32} : wps rm K Q c_Grid_tooGreat_38 kc ks loc (.int y :: .int x :: st) h = wps rm K Q c_Grid_tooGreat_39 kc ks loc (.int (x + y) :: st) h := gk_iadd
theorem s_Grid_tooGreat_39  : wps rm K Q c_Grid_tooGreat_39 kc ks loc (st) h = wps rm K Q c_Grid_tooGreat_42 kc ks loc (.int (300) :: st) h := gk_ic (by decide)
theorem s_Grid_tooGreat_42 {x : Int32} {l0 l1 l2 l3 : Option Value} {l : eg_Lo} : wps rm K Q c_Grid_tooGreat_42 kc ks (l0 :: l1 :: l2 :: l3 :: some (.int x) :: l) (st) h = wps rm K Q c_Grid_tooGreat_44 kc ks (l0 :: l1 :: l2 :: l3 :: some (.int x) :: l) (.int x :: st) h := gk_iload rfl
theorem s_Grid_tooGreat_44 {x y : Int32} : wps rm K Q c_Grid_tooGreat_44 kc ks loc (.int y :: .int x :: st) h = wps rm K Q c_Grid_tooGreat_45 kc ks loc (.int (x * y) :: st) h := gk_imul
theorem s_Grid_tooGreat_45 {x y : Int32} : wps rm K Q c_Grid_tooGreat_45 kc ks loc (.int y :: .int x :: st) h = wps rm K Q c_Grid_tooGreat_46 kc ks loc (.int (x - y) :: st) h := gk_isub
theorem s_Grid_tooGreat_46 {x : Int32} : wps rm K Q c_Grid_tooGreat_46 kc ks loc (.int x :: st) h = wps rm K Q c_Grid_tooGreat_48 kc ks (eg_set1 loc 6 (.int x)) (st) h := gk_istore
theorem s_Grid_tooGreat_48  : wps rm K Q c_Grid_tooGreat_48 kc ks loc (st) h = wps rm K Q c_Grid_tooGreat_49 kc ks loc (.int (3) :: st) h := gk_ic (by decide)
theorem s_Grid_tooGreat_49 {x : Int32} {l0 l1 l2 l3 : Option Value} {l : eg_Lo} : wps rm K Q c_Grid_tooGreat_49 kc ks (l0 :: l1 :: l2 :: l3 :: some (.int x) :: l) (st) h = wps rm K Q c_Grid_tooGreat_51 kc ks (l0 :: l1 :: l2 :: l3 :: some (.int x) :: l) (.int x :: st) h := gk_iload rfl
theorem s_Grid_tooGreat_51 {x y : Int32} : wps rm K Q c_Grid_tooGreat_51 kc ks loc (.int y :: .int x :: st) h = wps rm K Q c_Grid_tooGreat_52 kc ks loc (.int (x * y) :: st) h := gk_imul
theorem s_Grid_tooGreat_52 {x : Int32} {l0 l1 l2 : Option Value} {l : eg_Lo} : wps rm K Q c_Grid_tooGreat_52 kc ks (l0 :: l1 :: l2 :: some (.int x) :: l) (st) h = wps rm K Q c_Grid_tooGreat_53 kc ks (l0 :: l1 :: l2 :: some (.int x) :: l) (.int x :: st) h := gk_iload rfl
theorem s_Grid_tooGreat_53 {x y : Int32} : wps rm K Q c_Grid_tooGreat_53 kc ks loc (.int y :: .int x :: st) h = wps rm K Q c_Grid_tooGreat_54 kc ks loc (.int (x + y) :: st) h := gk_iadd
theorem s_Grid_tooGreat_54 {x : Int32} : wps rm K Q c_Grid_tooGreat_54 kc ks loc (.int x :: st) h = wps rm K Q c_Grid_tooGreat_56 kc ks (eg_set1 loc 7 (.int x)) (st) h := gk_istore
theorem s_Grid_tooGreat_56 {x : Nat} {l : eg_Lo} : wps rm K Q c_Grid_tooGreat_56 kc ks (some (.ref x) :: l) (st) h = wps rm K Q c_Grid_tooGreat_57 kc ks (some (.ref x) :: l) (.ref x :: st) h := gk_aload rfl
theorem s_Grid_tooGreat_57 {x : Int32} {l0 l1 l2 l3 l4 l5 l6 : Option Value} {l : eg_Lo} : wps rm K Q c_Grid_tooGreat_57 kc ks (l0 :: l1 :: l2 :: l3 :: l4 :: l5 :: l6 :: some (.int x) :: l) (st) h = wps rm K Q c_Grid_tooGreat_59 kc ks (l0 :: l1 :: l2 :: l3 :: l4 :: l5 :: l6 :: some (.int x) :: l) (.int x :: st) h := gk_iload rfl
theorem s_Grid_tooGreat_59 {x : Nat} {i : Int32} : wps rm K Q c_Grid_tooGreat_59 kc ks loc (.int i :: .ref (x + 1) :: st) h = eg_ia h x i (fun v => wps rm K Q c_Grid_tooGreat_60 kc ks loc (.int v :: st) h) := gk_iaload
theorem s_Grid_tooGreat_60  : wps rm K Q c_Grid_tooGreat_60 kc ks loc (st) h = wps rm K Q c_Grid_tooGreat_63 kc ks loc (.int (300) :: st) h := gk_ic (by decide)
theorem s_Grid_tooGreat_63 {x : Int32} {l0 l1 l2 l3 l4 : Option Value} {l : eg_Lo} : wps rm K Q c_Grid_tooGreat_63 kc ks (l0 :: l1 :: l2 :: l3 :: l4 :: some (.int x) :: l) (st) h = wps rm K Q c_Grid_tooGreat_65 kc ks (l0 :: l1 :: l2 :: l3 :: l4 :: some (.int x) :: l) (.int x :: st) h := gk_iload rfl
theorem s_Grid_tooGreat_65 {x y : Int32} : wps rm K Q c_Grid_tooGreat_65 kc ks loc (.int y :: .int x :: st) h = wps rm K Q c_Grid_tooGreat_66 kc ks loc (.int (x - y) :: st) h := gk_isub
theorem s_Grid_tooGreat_66 {x y : Int32} : wps rm K Q c_Grid_tooGreat_66 kc ks loc (.int y :: .int x :: st) h = wps rm K Q c_Grid_tooGreat_67 kc ks loc (.int (x * y) :: st) h := gk_imul
theorem s_Grid_tooGreat_67  : wps rm K Q c_Grid_tooGreat_67 kc ks loc (st) h = wps rm K Q c_Grid_tooGreat_70 kc ks loc (.int (300) :: st) h := gk_ic (by decide)
theorem s_Grid_tooGreat_70 {x : Int32} {l0 l1 l2 l3 l4 l5 : Option Value} {l : eg_Lo} : wps rm K Q c_Grid_tooGreat_70 kc ks (l0 :: l1 :: l2 :: l3 :: l4 :: l5 :: some (.int x) :: l) (st) h = wps rm K Q c_Grid_tooGreat_72 kc ks (l0 :: l1 :: l2 :: l3 :: l4 :: l5 :: some (.int x) :: l) (.int x :: st) h := gk_iload rfl
theorem s_Grid_tooGreat_72 {x y : Int32} : wps rm K Q c_Grid_tooGreat_72 kc ks loc (.int y :: .int x :: st) h = wps rm K Q c_Grid_tooGreat_73 kc ks loc (.int (x - y) :: st) h := gk_isub
theorem s_Grid_tooGreat_73 {x y : Int32} : wps rm K Q c_Grid_tooGreat_73 kc ks loc (.int y :: .int x :: st) h = wps rm K Q c_Grid_tooGreat_74 kc ks loc (.int (x * y) :: st) h := gk_imul
theorem s_Grid_tooGreat_74 {x : Nat} {l : eg_Lo} : wps rm K Q c_Grid_tooGreat_74 kc ks (some (.ref x) :: l) (st) h = wps rm K Q c_Grid_tooGreat_75 kc ks (some (.ref x) :: l) (.ref x :: st) h := gk_aload rfl
theorem s_Grid_tooGreat_75 {x : Int32} {l0 l1 l2 l3 l4 l5 l6 : Option Value} {l : eg_Lo} : wps rm K Q c_Grid_tooGreat_75 kc ks (l0 :: l1 :: l2 :: l3 :: l4 :: l5 :: l6 :: some (.int x) :: l) (st) h = wps rm K Q c_Grid_tooGreat_77 kc ks (l0 :: l1 :: l2 :: l3 :: l4 :: l5 :: l6 :: some (.int x) :: l) (.int x :: st) h := gk_iload rfl
theorem s_Grid_tooGreat_77  : wps rm K Q c_Grid_tooGreat_77 kc ks loc (st) h = wps rm K Q c_Grid_tooGreat_78 kc ks loc (.int (1) :: st) h := gk_ic (by decide)
theorem s_Grid_tooGreat_78 {x y : Int32} : wps rm K Q c_Grid_tooGreat_78 kc ks loc (.int y :: .int x :: st) h = wps rm K Q c_Grid_tooGreat_79 kc ks loc (.int (x + y) :: st) h := gk_iadd
theorem s_Grid_tooGreat_79 {x : Nat} {i : Int32} : wps rm K Q c_Grid_tooGreat_79 kc ks loc (.int i :: .ref (x + 1) :: st) h = eg_ia h x i (fun v => wps rm K Q c_Grid_tooGreat_80 kc ks loc (.int v :: st) h) := gk_iaload
theorem s_Grid_tooGreat_80 {x : Int32} {l0 l1 l2 l3 l4 : Option Value} {l : eg_Lo} : wps rm K Q c_Grid_tooGreat_80 kc ks (l0 :: l1 :: l2 :: l3 :: l4 :: some (.int x) :: l) (st) h = wps rm K Q c_Grid_tooGreat_82 kc ks (l0 :: l1 :: l2 :: l3 :: l4 :: some (.int x) :: l) (.int x :: st) h := gk_iload rfl
theorem s_Grid_tooGreat_82 {x y : Int32} : wps rm K Q c_Grid_tooGreat_82 kc ks loc (.int y :: .int x :: st) h = wps rm K Q c_Grid_tooGreat_83 kc ks loc (.int (x * y) :: st) h := gk_imul
theorem s_Grid_tooGreat_83  : wps rm K Q c_Grid_tooGreat_83 kc ks loc (st) h = wps rm K Q c_Grid_tooGreat_86 kc ks loc (.int (300) :: st) h := gk_ic (by decide)
theorem s_Grid_tooGreat_86 {x : Int32} {l0 l1 l2 l3 l4 l5 : Option Value} {l : eg_Lo} : wps rm K Q c_Grid_tooGreat_86 kc ks (l0 :: l1 :: l2 :: l3 :: l4 :: l5 :: some (.int x) :: l) (st) h = wps rm K Q c_Grid_tooGreat_88 kc ks (l0 :: l1 :: l2 :: l3 :: l4 :: l5 :: some (.int x) :: l) (.int x :: st) h := gk_iload rfl
theorem s_Grid_tooGreat_88 {x y : Int32} : wps rm K Q c_Grid_tooGreat_88 kc ks loc (.int y :: .int x :: st) h = wps rm K Q c_Grid_tooGreat_89 kc ks loc (.int (x - y) :: st) h := gk_isub
theorem s_Grid_tooGreat_89 {x y : Int32} : wps rm K Q c_Grid_tooGreat_89 kc ks loc (.int y :: .int x :: st) h = wps rm K Q c_Grid_tooGreat_90 kc ks loc (.int (x * y) :: st) h := gk_imul
theorem s_Grid_tooGreat_90 {x y : Int32} : wps rm K Q c_Grid_tooGreat_90 kc ks loc (.int y :: .int x :: st) h = wps rm K Q c_Grid_tooGreat_91 kc ks loc (.int (x + y) :: st) h := gk_iadd
theorem s_Grid_tooGreat_91 {x : Nat} {l : eg_Lo} : wps rm K Q c_Grid_tooGreat_91 kc ks (some (.ref x) :: l) (st) h = wps rm K Q c_Grid_tooGreat_92 kc ks (some (.ref x) :: l) (.ref x :: st) h := gk_aload rfl
theorem s_Grid_tooGreat_92 {x : Int32} {l0 l1 l2 l3 l4 l5 l6 : Option Value} {l : eg_Lo} : wps rm K Q c_Grid_tooGreat_92 kc ks (l0 :: l1 :: l2 :: l3 :: l4 :: l5 :: l6 :: some (.int x) :: l) (st) h = wps rm K Q c_Grid_tooGreat_94 kc ks (l0 :: l1 :: l2 :: l3 :: l4 :: l5 :: l6 :: some (.int x) :: l) (.int x :: st) h := gk_iload rfl
theorem s_Grid_tooGreat_94  : wps rm K Q c_Grid_tooGreat_94 kc ks loc (st) h = wps rm K Q c_Grid_tooGreat_95 kc ks loc (.int (3) :: st) h := gk_ic (by decide)
theorem s_Grid_tooGreat_95 {x y : Int32} : wps rm K Q c_Grid_tooGreat_95 kc ks loc (.int y :: .int x :: st) h = wps rm K Q c_Grid_tooGreat_96 kc ks loc (.int (x + y) :: st) h := gk_iadd
theorem s_Grid_tooGreat_96 {x : Nat} {i : Int32} : wps rm K Q c_Grid_tooGreat_96 kc ks loc (.int i :: .ref (x + 1) :: st) h = eg_ia h x i (fun v => wps rm K Q c_Grid_tooGreat_97 kc ks loc (.int v :: st) h) := gk_iaload
theorem s_Grid_tooGreat_97  : wps rm K Q c_Grid_tooGreat_97 kc ks loc (st) h = wps rm K Q c_Grid_tooGreat_100 kc ks loc (.int (300) :: st) h := gk_ic (by decide)
theorem s_Grid_tooGreat_100 {x : Int32} {l0 l1 l2 l3 l4 : Option Value} {l : eg_Lo} : wps rm K Q c_Grid_tooGreat_100 kc ks (l0 :: l1 :: l2 :: l3 :: l4 :: some (.int x) :: l) (st) h = wps rm K Q c_Grid_tooGreat_102 kc ks (l0 :: l1 :: l2 :: l3 :: l4 :: some (.int x) :: l) (.int x :: st) h := gk_iload rfl
theorem s_Grid_tooGreat_102 {x y : Int32} : wps rm K Q c_Grid_tooGreat_102 kc ks loc (.int y :: .int x :: st) h = wps rm K Q c_Grid_tooGreat_103 kc ks loc (.int (x - y) :: st) h := gk_isub
theorem s_Grid_tooGreat_103 {x y : Int32} : wps rm K Q c_Grid_tooGreat_103 kc ks loc (.int y :: .int x :: st) h = wps rm K Q c_Grid_tooGreat_104 kc ks loc (.int (x * y) :: st) h := gk_imul
theorem s_Grid_tooGreat_104 {x : Int32} {l0 l1 l2 l3 l4 l5 : Option Value} {l : eg_Lo} : wps rm K Q c_Grid_tooGreat_104 kc ks (l0 :: l1 :: l2 :: l3 :: l4 :: l5 :: some (.int x) :: l) (st) h = wps rm K Q c_Grid_tooGreat_106 kc ks (l0 :: l1 :: l2 :: l3 :: l4 :: l5 :: some (.int x) :: l) (.int x :: st) h := gk_iload rfl
theorem s_Grid_tooGreat_106 {x y : Int32} : wps rm K Q c_Grid_tooGreat_106 kc ks loc (.int y :: .int x :: st) h = wps rm K Q c_Grid_tooGreat_107 kc ks loc (.int (x * y) :: st) h := gk_imul
theorem s_Grid_tooGreat_107 {x y : Int32} : wps rm K Q c_Grid_tooGreat_107 kc ks loc (.int y :: .int x :: st) h = wps rm K Q c_Grid_tooGreat_108 kc ks loc (.int (x + y) :: st) h := gk_iadd
theorem s_Grid_tooGreat_108 {x : Nat} {l : eg_Lo} : wps rm K Q c_Grid_tooGreat_108 kc ks (some (.ref x) :: l) (st) h = wps rm K Q c_Grid_tooGreat_109 kc ks (some (.ref x) :: l) (.ref x :: st) h := gk_aload rfl
theorem s_Grid_tooGreat_109 {x : Int32} {l0 l1 l2 l3 l4 l5 l6 : Option Value} {l : eg_Lo} : wps rm K Q c_Grid_tooGreat_109 kc ks (l0 :: l1 :: l2 :: l3 :: l4 :: l5 :: l6 :: some (.int x) :: l) (st) h = wps rm K Q c_Grid_tooGreat_111 kc ks (l0 :: l1 :: l2 :: l3 :: l4 :: l5 :: l6 :: some (.int x) :: l) (.int x :: st) h := gk_iload rfl
theorem s_Grid_tooGreat_111  : wps rm K Q c_Grid_tooGreat_111 kc ks loc (st) h = wps rm K Q c_Grid_tooGreat_112 kc ks loc (.int (4) :: st) h := gk_ic (by decide)
theorem s_Grid_tooGreat_112 {x y : Int32} : wps rm K Q c_Grid_tooGreat_112 kc ks loc (.int y :: .int x :: st) h = wps rm K Q c_Grid_tooGreat_113 kc ks loc (.int (x + y) :: st) h := gk_iadd
theorem s_Grid_tooGreat_113 {x : Nat} {i : Int32} : wps rm K Q c_Grid_tooGreat_113 kc ks loc (.int i :: .ref (x + 1) :: st) h = eg_ia h x i (fun v => wps rm K Q c_Grid_tooGreat_114 kc ks loc (.int v :: st) h) := gk_iaload
theorem s_Grid_tooGreat_114 {x : Int32} {l0 l1 l2 l3 l4 : Option Value} {l : eg_Lo} : wps rm K Q c_Grid_tooGreat_114 kc ks (l0 :: l1 :: l2 :: l3 :: l4 :: some (.int x) :: l) (st) h = wps rm K Q c_Grid_tooGreat_116 kc ks (l0 :: l1 :: l2 :: l3 :: l4 :: some (.int x) :: l) (.int x :: st) h := gk_iload rfl
theorem s_Grid_tooGreat_116 {x y : Int32} : wps rm K Q c_Grid_tooGreat_116 kc ks loc (.int y :: .int x :: st) h = wps rm K Q c_Grid_tooGreat_117 kc ks loc (.int (x * y) :: st) h := gk_imul
theorem s_Grid_tooGreat_117 {x : Int32} {l0 l1 l2 l3 l4 l5 : Option Value} {l : eg_Lo} : wps rm K Q c_Grid_tooGreat_117 kc ks (l0 :: l1 :: l2 :: l3 :: l4 :: l5 :: some (.int x) :: l) (st) h = wps rm K Q c_Grid_tooGreat_119 kc ks (l0 :: l1 :: l2 :: l3 :: l4 :: l5 :: some (.int x) :: l) (.int x :: st) h := gk_iload rfl
theorem s_Grid_tooGreat_119 {x y : Int32} : wps rm K Q c_Grid_tooGreat_119 kc ks loc (.int y :: .int x :: st) h = wps rm K Q c_Grid_tooGreat_120 kc ks loc (.int (x * y) :: st) h := gk_imul
theorem s_Grid_tooGreat_120 {x y : Int32} : wps rm K Q c_Grid_tooGreat_120 kc ks loc (.int y :: .int x :: st) h = wps rm K Q c_Grid_tooGreat_121 kc ks loc (.int (x + y) :: st) h := gk_iadd
theorem s_Grid_tooGreat_121 {x : Int32} : wps rm K Q c_Grid_tooGreat_121 kc ks loc (.int x :: st) h = wps rm K Q c_Grid_tooGreat_123 kc ks (eg_set1 loc 8 (.int x)) (st) h := gk_istore
theorem s_Grid_tooGreat_123 {x : Int32} {l0 l1 l2 l3 l4 l5 l6 l7 : Option Value} {l : eg_Lo} : wps rm K Q c_Grid_tooGreat_123 kc ks (l0 :: l1 :: l2 :: l3 :: l4 :: l5 :: l6 :: l7 :: some (.int x) :: l) (st) h = wps rm K Q c_Grid_tooGreat_125 kc ks (l0 :: l1 :: l2 :: l3 :: l4 :: l5 :: l6 :: l7 :: some (.int x) :: l) (.int x :: st) h := gk_iload rfl
theorem s_Grid_tooGreat_125  : wps rm K Q c_Grid_tooGreat_125 kc ks loc (st) h = wps rm K Q c_Grid_tooGreat_127 kc ks loc (.int (90000) :: st) h := gk_ic (by decide)
theorem s_Grid_tooGreat_127  {a1 : Value} {a2 : Value} : wps rm K Q c_Grid_tooGreat_127 kc ks loc (a2 :: a1 :: st) h = (st.length ≤ 4 ∧ eg_Cs n_Math_floorDiv [a1, a2] h (fun v h9 => wps rm K Q c_Grid_tooGreat_130 kc ks loc (v.toList ++ st) h9)) := eg_c0_2
theorem s_Grid_tooGreat_130 {x : Int32} : wps rm K Q c_Grid_tooGreat_130 kc ks loc ([.int x]) h = (kc = rm.cells ∧ (0 = 1 → x = 0 ∨ x = 1) ∧ Q (some (.int x)) h) := gk_iret
def T_Grid_tooGreat : List (Nat × List eg_I) := [(8, c_Grid_tooGreat_8), (9, c_Grid_tooGreat_9), (18, c_Grid_tooGreat_18), (19, c_Grid_tooGreat_19)]
theorem j_Grid_tooGreat_8 {R : Nat → Nat → Nat → eg_Lo → List Value → List eg_E → Prop} {f pc0 : Nat} : eg_run rm R Q T_Grid_tooGreat (f + 1) 8 kc ks loc st h = wps rm (eg_run rm R Q T_Grid_tooGreat f) Q c_Grid_tooGreat_8 kc ks loc st h := rfl
theorem j_Grid_tooGreat_9 {R : Nat → Nat → Nat → eg_Lo → List Value → List eg_E → Prop} {f pc0 : Nat} : eg_run rm R Q T_Grid_tooGreat (f + 1) 9 kc ks loc st h = wps rm (eg_run rm R Q T_Grid_tooGreat f) Q c_Grid_tooGreat_9 kc ks loc st h := rfl
theorem j_Grid_tooGreat_18 {R : Nat → Nat → Nat → eg_Lo → List Value → List eg_E → Prop} {f pc0 : Nat} : eg_run rm R Q T_Grid_tooGreat (f + 1) 18 kc ks loc st h = wps rm (eg_run rm R Q T_Grid_tooGreat f) Q c_Grid_tooGreat_18 kc ks loc st h := rfl
theorem j_Grid_tooGreat_19 {R : Nat → Nat → Nat → eg_Lo → List Value → List eg_E → Prop} {f pc0 : Nat} : eg_run rm R Q T_Grid_tooGreat (f + 1) 19 kc ks loc st h = wps rm (eg_run rm R Q T_Grid_tooGreat f) Q c_Grid_tooGreat_19 kc ks loc st h := rfl
end
theorem y_Grid_tooGreat_0 : eg_seq m_Grid_tooGreat 0 c_Grid_tooGreat_0 = true := by decide +kernel
theorem y_Grid_tooGreat_8 : eg_seq m_Grid_tooGreat 8 c_Grid_tooGreat_8 = true := by decide +kernel
theorem y_Grid_tooGreat_18 : eg_seq m_Grid_tooGreat 18 c_Grid_tooGreat_18 = true := by decide +kernel
theorem q_Grid_tooGreat : ∀ q ∈ T_Grid_tooGreat, eg_seq m_Grid_tooGreat q.1 q.2 = true := by
  intro q hq
  simp only [T_Grid_tooGreat, List.mem_cons, List.not_mem_nil, or_false] at hq
  rcases hq with rfl | rfl | rfl | rfl
  · exact y_Grid_tooGreat_8
  · exact (eg_seq_drop y_Grid_tooGreat_8 1 : eg_seq m_Grid_tooGreat 9 c_Grid_tooGreat_9 = true)
  · exact y_Grid_tooGreat_18
  · exact (eg_seq_drop y_Grid_tooGreat_18 1 : eg_seq m_Grid_tooGreat 19 c_Grid_tooGreat_19 = true)
theorem b_Grid_tooGreat {as : List Value} {h : List eg_E} {Q : Option Value → List eg_E → Prop} (hf : (eg_fl as).length ≤ 9) (hw : wps (eg_rm m_Grid_tooGreat) (eg_run (eg_rm m_Grid_tooGreat) (eg_R m_Grid_tooGreat Q (h.length + 0)) Q T_Grid_tooGreat 6) Q c_Grid_tooGreat_0 0 0 (eg_entry 9 as) [] h) : eg_Runs n_Grid_tooGreat as h Q := eg_begin2 (d := m_Grid_tooGreat) rfl (by decide) y_Grid_tooGreat_0 q_Grid_tooGreat hf hw
/-! ===== Outl_init ===== -/
def c_Outl_init_31 : List eg_I := .inl (31, 1, .return_, 0, 0) :: []
def c_Outl_init_28 : List eg_I := .inl (28, 3, .putfield 22, 7, 3) :: c_Outl_init_31
def c_Outl_init_26 : List eg_I := .inl (26, 2, .newarray .int, 0, 0) :: c_Outl_init_28
def c_Outl_init_24 : List eg_I := .inl (24, 2, .iconst (10), 0, 0) :: c_Outl_init_26
def c_Outl_init_23 : List eg_I := .inl (23, 1, .aload 0, 0, 0) :: c_Outl_init_24
def c_Outl_init_20 : List eg_I := .inl (20, 3, .putfield 18, 7, 2) :: c_Outl_init_23
def c_Outl_init_18 : List eg_I := .inl (18, 2, .newarray .int, 0, 0) :: c_Outl_init_20
def c_Outl_init_16 : List eg_I := .inl (16, 2, .iconst (10), 0, 0) :: c_Outl_init_18
def c_Outl_init_15 : List eg_I := .inl (15, 1, .aload 0, 0, 0) :: c_Outl_init_16
def c_Outl_init_12 : List eg_I := .inl (12, 3, .putfield 12, 7, 0) :: c_Outl_init_15
def c_Outl_init_9 : List eg_I := .inr (9, 3, 11, n_Frac_init, 0, 4, 0, 0) :: c_Outl_init_12
def c_Outl_init_8 : List eg_I := .inl (8, 1, .dup, 0, 0) :: c_Outl_init_9
def c_Outl_init_5 : List eg_I := .inl (5, 3, .new 9, 4, 2) :: c_Outl_init_8
def c_Outl_init_4 : List eg_I := .inl (4, 1, .aload 0, 0, 0) :: c_Outl_init_5
def c_Outl_init_1 : List eg_I := .inl (1, 3, .athrow, 3, 0) :: c_Outl_init_4
def c_Outl_init_0 : List eg_I := .inl (0, 1, .aload 0, 0, 0) :: c_Outl_init_1
section
variable {rm : Room} {K : Nat → Nat → Nat → eg_Lo → List Value → List eg_E → Prop} {Q : Option Value → List eg_E → Prop} {kc ks : Nat} {loc : eg_Lo} {st : List Value} {h : List eg_E}
theorem s_Outl_init_0 {x : Nat} {l : eg_Lo} : wps rm K Q c_Outl_init_0 kc ks (some (.ref x) :: l) (st) h = wps rm K Q c_Outl_init_1 kc ks (some (.ref x) :: l) (.ref x :: st) h := gk_aload rfl
theorem s_Outl_init_1 {x : Nat} : wps rm K Q c_Outl_init_1 kc ks loc (.ref (x + 1) :: st) h = (st.length ≤ 4 ∧ wps rm K Q c_Outl_init_4 kc ks loc (st) h) := gk_oi
theorem s_Outl_init_4 {x : Nat} {l : eg_Lo} : wps rm K Q c_Outl_init_4 kc ks (some (.ref x) :: l) (st) h = wps rm K Q c_Outl_init_5 kc ks (some (.ref x) :: l) (.ref x :: st) h := gk_aload rfl
theorem s_Outl_init_5  : wps rm K Q c_Outl_init_5 kc ks loc (st) h = (kc + 1 ≤ rm.cells ∧ ks + 2 ≤ rm.slots ∧ wps rm K Q c_Outl_init_8 (kc + 1) (ks + 2) loc (.ref (h.length + 1) :: st) (h ++ [.inr (4, eg_df 4)])) := gk_new
theorem s_Outl_init_8 {x : Nat} : wps rm K Q c_Outl_init_8 kc ks loc (.ref x :: st) h = wps rm K Q c_Outl_init_9 kc ks loc (.ref x :: .ref x :: st) h := gk_dup
theorem s_Outl_init_9  {x : Nat} : wps rm K Q c_Outl_init_9 kc ks loc (.ref (x + 1) :: st) h = (st.length ≤ 4 ∧ kc + 0 ≤ rm.cells ∧ ks + 0 ≤ rm.slots ∧ eg_Cs n_Frac_init [.ref (x + 1)] h (fun v h9 => wps rm K Q c_Outl_init_12 (kc + 0) (ks + 0) loc (v.toList ++ st) h9)) := eg_c3_0
theorem s_Outl_init_12 {x : Nat} {v : Value} : wps rm K Q c_Outl_init_12 kc ks loc (v :: .ref (x + 1) :: st) h = eg_pf h x 7 0 v (fun h9 => wps rm K Q c_Outl_init_15 kc ks loc (st) h9) := gk_pf
theorem s_Outl_init_15 {x : Nat} {l : eg_Lo} : wps rm K Q c_Outl_init_15 kc ks (some (.ref x) :: l) (st) h = wps rm K Q c_Outl_init_16 kc ks (some (.ref x) :: l) (.ref x :: st) h := gk_aload rfl
theorem s_Outl_init_16  : wps rm K Q c_Outl_init_16 kc ks loc (st) h = wps rm K Q c_Outl_init_18 kc ks loc (.int (10) :: st) h := gk_ic (by decide)
theorem s_Outl_init_18 {x : Int32} : wps rm K Q c_Outl_init_18 kc ks loc (.int x :: st) h = (¬ x < 0 ∧ x.toNatClampNeg ≤ 1000 ∧ kc + 1 ≤ rm.cells ∧ ks + x.toNatClampNeg ≤ rm.slots ∧ wps rm K Q c_Outl_init_20 (kc + 1) (ks + x.toNatClampNeg) loc (.ref (h.length + 1) :: st) (h ++ [.inl (0, eg_zero 0 x.toNatClampNeg)])) := gk_na
theorem s_Outl_init_20 {x : Nat} {v : Value} : wps rm K Q c_Outl_init_20 kc ks loc (v :: .ref (x + 1) :: st) h = eg_pf h x 7 2 v (fun h9 => wps rm K Q c_Outl_init_23 kc ks loc (st) h9) := gk_pf
theorem s_Outl_init_23 {x : Nat} {l : eg_Lo} : wps rm K Q c_Outl_init_23 kc ks (some (.ref x) :: l) (st) h = wps rm K Q c_Outl_init_24 kc ks (some (.ref x) :: l) (.ref x :: st) h := gk_aload rfl
theorem s_Outl_init_24  : wps rm K Q c_Outl_init_24 kc ks loc (st) h = wps rm K Q c_Outl_init_26 kc ks loc (.int (10) :: st) h := gk_ic (by decide)
theorem s_Outl_init_26 {x : Int32} : wps rm K Q c_Outl_init_26 kc ks loc (.int x :: st) h = (¬ x < 0 ∧ x.toNatClampNeg ≤ 1000 ∧ kc + 1 ≤ rm.cells ∧ ks + x.toNatClampNeg ≤ rm.slots ∧ wps rm K Q c_Outl_init_28 (kc + 1) (ks + x.toNatClampNeg) loc (.ref (h.length + 1) :: st) (h ++ [.inl (0, eg_zero 0 x.toNatClampNeg)])) := gk_na
theorem s_Outl_init_28 {x : Nat} {v : Value} : wps rm K Q c_Outl_init_28 kc ks loc (v :: .ref (x + 1) :: st) h = eg_pf h x 7 3 v (fun h9 => wps rm K Q c_Outl_init_31 kc ks loc (st) h9) := gk_pf
theorem s_Outl_init_31  : wps rm K Q c_Outl_init_31 kc ks loc ([]) h = (kc = rm.cells ∧ Q none h) := gk_vret
def T_Outl_init : List (Nat × List eg_I) := []
end
theorem y_Outl_init_0 : eg_seq m_Outl_init 0 c_Outl_init_0 = true := by decide +kernel
theorem q_Outl_init : ∀ q ∈ T_Outl_init, eg_seq m_Outl_init q.1 q.2 = true := by
  intro q hq
  cases hq
theorem b_Outl_init {as : List Value} {h : List eg_E} {Q : Option Value → List eg_E → Prop} (hf : (eg_fl as).length ≤ 1) (hw : wps (eg_rm m_Outl_init) (eg_run (eg_rm m_Outl_init) (eg_R m_Outl_init Q (h.length + 3)) Q T_Outl_init 2) Q c_Outl_init_0 0 0 (eg_entry 1 as) [] h) : eg_Runs n_Outl_init as h Q := eg_begin2 (d := m_Outl_init) rfl (by decide) y_Outl_init_0 q_Outl_init hf hw
/-! ===== Outl_endsAt ===== -/
def c_Outl_endsAt_42 : List eg_I := .inl (42, 1, .ireturn, 0, 1) :: []
def c_Outl_endsAt_41 : List eg_I := .inl (41, 1, .iconst (0), 0, 0) :: c_Outl_endsAt_42
def c_Outl_endsAt_38 : List eg_I := .inl (38, 3, .goto (4), 42, 0) :: []
def c_Outl_endsAt_37 : List eg_I := .inl (37, 1, .iconst (1), 0, 0) :: c_Outl_endsAt_38
def c_Outl_endsAt_34 : List eg_I := .inl (34, 3, .if_icmp .ne (7), 41, 0) :: c_Outl_endsAt_37
def c_Outl_endsAt_33 : List eg_I := .inl (33, 1, .iload 2, 0, 0) :: c_Outl_endsAt_34
def c_Outl_endsAt_32 : List eg_I := .inl (32, 1, .iaload, 0, 0) :: c_Outl_endsAt_33
def c_Outl_endsAt_31 : List eg_I := .inl (31, 1, .isub, 0, 0) :: c_Outl_endsAt_32
def c_Outl_endsAt_30 : List eg_I := .inl (30, 1, .iconst (1), 0, 0) :: c_Outl_endsAt_31
def c_Outl_endsAt_27 : List eg_I := .inl (27, 3, .getfield 25, 7, 1) :: c_Outl_endsAt_30
def c_Outl_endsAt_26 : List eg_I := .inl (26, 1, .aload 0, 0, 0) :: c_Outl_endsAt_27
def c_Outl_endsAt_23 : List eg_I := .inl (23, 3, .getfield 22, 7, 3) :: c_Outl_endsAt_26
def c_Outl_endsAt_22 : List eg_I := .inl (22, 1, .aload 0, 0, 0) :: c_Outl_endsAt_23
def c_Outl_endsAt_19 : List eg_I := .inl (19, 3, .if_icmp .ne (22), 41, 0) :: c_Outl_endsAt_22
def c_Outl_endsAt_18 : List eg_I := .inl (18, 1, .iload 1, 0, 0) :: c_Outl_endsAt_19
def c_Outl_endsAt_17 : List eg_I := .inl (17, 1, .iaload, 0, 0) :: c_Outl_endsAt_18
def c_Outl_endsAt_16 : List eg_I := .inl (16, 1, .isub, 0, 0) :: c_Outl_endsAt_17
def c_Outl_endsAt_15 : List eg_I := .inl (15, 1, .iconst (1), 0, 0) :: c_Outl_endsAt_16
def c_Outl_endsAt_12 : List eg_I := .inl (12, 3, .getfield 25, 7, 1) :: c_Outl_endsAt_15
def c_Outl_endsAt_11 : List eg_I := .inl (11, 1, .aload 0, 0, 0) :: c_Outl_endsAt_12
def c_Outl_endsAt_8 : List eg_I := .inl (8, 3, .getfield 18, 7, 2) :: c_Outl_endsAt_11
def c_Outl_endsAt_7 : List eg_I := .inl (7, 1, .aload 0, 0, 0) :: c_Outl_endsAt_8
def c_Outl_endsAt_4 : List eg_I := .inl (4, 3, .ifCond .le (37), 41, 0) :: c_Outl_endsAt_7
def c_Outl_endsAt_1 : List eg_I := .inl (1, 3, .getfield 25, 7, 1) :: c_Outl_endsAt_4
def c_Outl_endsAt_0 : List eg_I := .inl (0, 1, .aload 0, 0, 0) :: c_Outl_endsAt_1
section
variable {rm : Room} {K : Nat → Nat → Nat → eg_Lo → List Value → List eg_E → Prop} {Q : Option Value → List eg_E → Prop} {kc ks : Nat} {loc : eg_Lo} {st : List Value} {h : List eg_E}
theorem s_Outl_endsAt_0 {x : Nat} {l : eg_Lo} : wps rm K Q c_Outl_endsAt_0 kc ks (some (.ref x) :: l) (st) h = wps rm K Q c_Outl_endsAt_1 kc ks (some (.ref x) :: l) (.ref x :: st) h := gk_aload rfl
theorem s_Outl_endsAt_1 {x : Nat} : wps rm K Q c_Outl_endsAt_1 kc ks loc (.ref (x + 1) :: st) h = eg_gf h x 7 1 (fun v => wps rm K Q c_Outl_endsAt_4 kc ks loc (v :: st) h) := gk_gf
theorem s_Outl_endsAt_4 {x : Int32} : wps rm K Q c_Outl_endsAt_4 kc ks loc (.int x :: st) h = ((x ≤ 0 → K 41 kc ks loc st h) ∧ (¬ x ≤ 0 → wps rm K Q c_Outl_endsAt_7 kc ks loc (st) h)) := gk_if1_le
theorem s_Outl_endsAt_7 {x : Nat} {l : eg_Lo} : wps rm K Q c_Outl_endsAt_7 kc ks (some (.ref x) :: l) (st) h = wps rm K Q c_Outl_endsAt_8 kc ks (some (.ref x) :: l) (.ref x :: st) h := gk_aload rfl
theorem s_Outl_endsAt_8 {x : Nat} : wps rm K Q c_Outl_endsAt_8 kc ks loc (.ref (x + 1) :: st) h = eg_gf h x 7 2 (fun v => wps rm K Q c_Outl_endsAt_11 kc ks loc (v :: st) h) := gk_gf
theorem s_Outl_endsAt_11 {x : Nat} {l : eg_Lo} : wps rm K Q c_Outl_endsAt_11 kc ks (some (.ref x) :: l) (st) h = wps rm K Q c_Outl_endsAt_12 kc ks (some (.ref x) :: l) (.ref x :: st) h := gk_aload rfl
theorem s_Outl_endsAt_12 {x : Nat} : wps rm K Q c_Outl_endsAt_12 kc ks loc (.ref (x + 1) :: st) h = eg_gf h x 7 1 (fun v => wps rm K Q c_Outl_endsAt_15 kc ks loc (v :: st) h) := gk_gf
theorem s_Outl_endsAt_15  : wps rm K Q c_Outl_endsAt_15 kc ks loc (st) h = wps rm K Q c_Outl_endsAt_16 kc ks loc (.int (1) :: st) h := gk_ic (by decide)
theorem s_Outl_endsAt_16 {x y : Int32} : wps rm K Q c_Outl_endsAt_16 kc ks loc (.int y :: .int x :: st) h = wps rm K Q c_Outl_endsAt_17 kc ks loc (.int (x - y) :: st) h := gk_isub
theorem s_Outl_endsAt_17 {x : Nat} {i : Int32} : wps rm K Q c_Outl_endsAt_17 kc ks loc (.int i :: .ref (x + 1) :: st) h = eg_ia h x i (fun v => wps rm K Q c_Outl_endsAt_18 kc ks loc (.int v :: st) h) := gk_iaload
theorem s_Outl_endsAt_18 {x : Int32} {l0 : Option Value} {l : eg_Lo} : wps rm K Q c_Outl_endsAt_18 kc ks (l0 :: some (.int x) :: l) (st) h = wps rm K Q c_Outl_endsAt_19 kc ks (l0 :: some (.int x) :: l) (.int x :: st) h := gk_iload rfl
theorem s_Outl_endsAt_19 {x y : Int32} : wps rm K Q c_Outl_endsAt_19 kc ks loc (.int y :: .int x :: st) h = ((¬ x = y → K 41 kc ks loc st h) ∧ (x = y → wps rm K Q c_Outl_endsAt_22 kc ks loc (st) h)) := gk_if2_ne
theorem s_Outl_endsAt_22 {x : Nat} {l : eg_Lo} : wps rm K Q c_Outl_endsAt_22 kc ks (some (.ref x) :: l) (st) h = wps rm K Q c_Outl_endsAt_23 kc ks (some (.ref x) :: l) (.ref x :: st) h := gk_aload rfl
theorem s_Outl_endsAt_23 {x : Nat} : wps rm K Q c_Outl_endsAt_23 kc ks loc (.ref (x + 1) :: st) h = eg_gf h x 7 3 (fun v => wps rm K Q c_Outl_endsAt_26 kc ks loc (v :: st) h) := gk_gf
theorem s_Outl_endsAt_26 {x : Nat} {l : eg_Lo} : wps rm K Q c_Outl_endsAt_26 kc ks (some (.ref x) :: l) (st) h = wps rm K Q c_Outl_endsAt_27 kc ks (some (.ref x) :: l) (.ref x :: st) h := gk_aload rfl
theorem s_Outl_endsAt_27 {x : Nat} : wps rm K Q c_Outl_endsAt_27 kc ks loc (.ref (x + 1) :: st) h = eg_gf h x 7 1 (fun v => wps rm K Q c_Outl_endsAt_30 kc ks loc (v :: st) h) := gk_gf
theorem s_Outl_endsAt_30  : wps rm K Q c_Outl_endsAt_30 kc ks loc (st) h = wps rm K Q c_Outl_endsAt_31 kc ks loc (.int (1) :: st) h := gk_ic (by decide)
theorem s_Outl_endsAt_31 {x y : Int32} : wps rm K Q c_Outl_endsAt_31 kc ks loc (.int y :: .int x :: st) h = wps rm K Q c_Outl_endsAt_32 kc ks loc (.int (x - y) :: st) h := gk_isub
theorem s_Outl_endsAt_32 {x : Nat} {i : Int32} : wps rm K Q c_Outl_endsAt_32 kc ks loc (.int i :: .ref (x + 1) :: st) h = eg_ia h x i (fun v => wps rm K Q c_Outl_endsAt_33 kc ks loc (.int v :: st) h) := gk_iaload
theorem s_Outl_endsAt_33 {x : Int32} {l0 l1 : Option Value} {l : eg_Lo} : wps rm K Q c_Outl_endsAt_33 kc ks (l0 :: l1 :: some (.int x) :: l) (st) h = wps rm K Q c_Outl_endsAt_34 kc ks (l0 :: l1 :: some (.int x) :: l) (.int x :: st) h := gk_iload rfl
theorem s_Outl_endsAt_34 {x y : Int32} : wps rm K Q c_Outl_endsAt_34 kc ks loc (.int y :: .int x :: st) h = ((¬ x = y → K 41 kc ks loc st h) ∧ (x = y → wps rm K Q c_Outl_endsAt_37 kc ks loc (st) h)) := gk_if2_ne
theorem s_Outl_endsAt_37  : wps rm K Q c_Outl_endsAt_37 kc ks loc (st) h = wps rm K Q c_Outl_endsAt_38 kc ks loc (.int (1) :: st) h := gk_ic (by decide)
theorem s_Outl_endsAt_38  : wps rm K Q c_Outl_endsAt_38 kc ks loc (st) h = K 42 kc ks loc st h := gk_goto
theorem s_Outl_endsAt_41  : wps rm K Q c_Outl_endsAt_41 kc ks loc (st) h = wps rm K Q c_Outl_endsAt_42 kc ks loc (.int (0) :: st) h := gk_ic (by decide)
theorem s_Outl_endsAt_42 {x : Int32} : wps rm K Q c_Outl_endsAt_42 kc ks loc ([.int x]) h = (kc = rm.cells ∧ ((1 : Nat) = 1 → x = 0 ∨ x = 1) ∧ Q (some (.int x)) h) := gk_iret
def T_Outl_endsAt : List (Nat × List eg_I) := [(41, c_Outl_endsAt_41), (42, c_Outl_endsAt_42)]
theorem j_Outl_endsAt_41 {R : Nat → Nat → Nat → eg_Lo → List Value → List eg_E → Prop} {f pc0 : Nat} : eg_run rm R Q T_Outl_endsAt (f + 1) 41 kc ks loc st h = wps rm (eg_run rm R Q T_Outl_endsAt f) Q c_Outl_endsAt_41 kc ks loc st h := rfl
theorem j_Outl_endsAt_42 {R : Nat → Nat → Nat → eg_Lo → List Value → List eg_E → Prop} {f pc0 : Nat} : eg_run rm R Q T_Outl_endsAt (f + 1) 42 kc ks loc st h = wps rm (eg_run rm R Q T_Outl_endsAt f) Q c_Outl_endsAt_42 kc ks loc st h := rfl
end
theorem y_Outl_endsAt_0 : eg_seq m_Outl_endsAt 0 c_Outl_endsAt_0 = true := by decide +kernel
theorem y_Outl_endsAt_41 : eg_seq m_Outl_endsAt 41 c_Outl_endsAt_41 = true := by decide +kernel
theorem q_Outl_endsAt : ∀ q ∈ T_Outl_endsAt, eg_seq m_Outl_endsAt q.1 q.2 = true := by
  intro q hq
  simp only [T_Outl_endsAt, List.mem_cons, List.not_mem_nil, or_false] at hq
  rcases hq with rfl | rfl
  · exact y_Outl_endsAt_41
  · exact (eg_seq_drop y_Outl_endsAt_41 1 : eg_seq m_Outl_endsAt 42 c_Outl_endsAt_42 = true)
theorem b_Outl_endsAt {as : List Value} {h : List eg_E} {Q : Option Value → List eg_E → Prop} (hf : (eg_fl as).length ≤ 3) (hw : wps (eg_rm m_Outl_endsAt) (eg_run (eg_rm m_Outl_endsAt) (eg_R m_Outl_endsAt Q (h.length + 0)) Q T_Outl_endsAt 4) Q c_Outl_endsAt_0 0 0 (eg_entry 3 as) [] h) : eg_Runs n_Outl_endsAt as h Q := eg_begin2 (d := m_Outl_endsAt) rfl (by decide) y_Outl_endsAt_0 q_Outl_endsAt hf hw
