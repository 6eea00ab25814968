/-! ===== M_bits ===== -/
def z_M_bits_83 : List eg_I := [.inl (83, 0, .nop, 0, 0)]
def c_M_bits_88 : List eg_I := .inl (88, 1, .lreturn, 0, 0) :: []
def c_M_bits_87 : List eg_I := .inl (87, 1, .sipush (0), 0, 0) :: c_M_bits_88
def c_M_bits_86 : List eg_I := .inl (86, 1, .dastore, 0, 0) :: c_M_bits_87
def c_M_bits_82 : List eg_I := .inl (82, 1, .lload 3, 0, 0) :: z_M_bits_83
def c_M_bits_81 : List eg_I := .inl (81, 1, .iadd, 0, 0) :: c_M_bits_82
def c_M_bits_80 : List eg_I := .inl (80, 1, .iload 2, 0, 0) :: c_M_bits_81
def c_M_bits_79 : List eg_I := .inl (79, 1, .imul, 0, 0) :: c_M_bits_80
def c_M_bits_78 : List eg_I := .inl (78, 1, .iload 1, 0, 0) :: c_M_bits_79
def c_M_bits_76 : List eg_I := .inl (76, 2, .iconst (48), 0, 0) :: c_M_bits_78
def c_M_bits_73 : List eg_I := .inl (73, 3, .getfield 78, 12, 25) :: c_M_bits_76
def c_M_bits_72 : List eg_I := .inl (72, 1, .aload 0, 0, 0) :: c_M_bits_73
def c_M_bits_71 : List eg_I := .inl (71, 1, .lreturn, 0, 0) :: []
def c_M_bits_68 : List eg_I := .inr (68, 1, 112, n_M_finding, 1, 12, 0, 0) :: c_M_bits_71
def c_M_bits_65 : List eg_I := .inl (65, 3, .sipush (-1000000000000000001), 110, 0) :: c_M_bits_68
def c_M_bits_64 : List eg_I := .inl (64, 1, .aload 0, 0, 0) :: c_M_bits_65
def c_M_bits_61 : List eg_I := .inl (61, 3, .if_icmp .lt (11), 72, 0) :: c_M_bits_64
def c_M_bits_60 : List eg_I := .inl (60, 1, .iaload, 0, 0) :: c_M_bits_61
def c_M_bits_59 : List eg_I := .inl (59, 1, .iload 1, 0, 0) :: c_M_bits_60
def c_M_bits_56 : List eg_I := .inl (56, 3, .getfield 72, 12, 23) :: c_M_bits_59
def c_M_bits_55 : List eg_I := .inl (55, 1, .aload 0, 0, 0) :: c_M_bits_56
def c_M_bits_54 : List eg_I := .inl (54, 1, .iload 2, 0, 0) :: c_M_bits_55
def c_M_bits_51 : List eg_I := .inl (51, 3, .ifCond .lt (13), 64, 0) :: c_M_bits_54
def c_M_bits_50 : List eg_I := .inl (50, 1, .iload 2, 0, 0) :: c_M_bits_51
def c_M_bits_49 : List eg_I := .inl (49, 1, .lreturn, 0, 0) :: []
def c_M_bits_46 : List eg_I := .inr (46, 1, 112, n_M_finding, 1, 12, 0, 0) :: c_M_bits_49
def c_M_bits_43 : List eg_I := .inl (43, 3, .sipush (-1000000000000000004), 147, 0) :: c_M_bits_46
def c_M_bits_42 : List eg_I := .inl (42, 1, .aload 0, 0, 0) :: c_M_bits_43
def c_M_bits_39 : List eg_I := .inl (39, 3, .if_icmp .eq (11), 50, 0) :: c_M_bits_42
def c_M_bits_38 : List eg_I := .inl (38, 1, .iconst (3), 0, 0) :: c_M_bits_39
def c_M_bits_37 : List eg_I := .inl (37, 1, .iaload, 0, 0) :: c_M_bits_38
def c_M_bits_36 : List eg_I := .inl (36, 1, .iload 1, 0, 0) :: c_M_bits_37
def c_M_bits_33 : List eg_I := .inl (33, 3, .getfield 69, 12, 22) :: c_M_bits_36
def c_M_bits_32 : List eg_I := .inl (32, 1, .aload 0, 0, 0) :: c_M_bits_33
def c_M_bits_31 : List eg_I := .inl (31, 1, .lreturn, 0, 0) :: []
def c_M_bits_28 : List eg_I := .inr (28, 1, 112, n_M_finding, 1, 12, 0, 0) :: c_M_bits_31
def c_M_bits_25 : List eg_I := .inl (25, 3, .sipush (-1000000000000000002), 145, 0) :: c_M_bits_28
def c_M_bits_24 : List eg_I := .inl (24, 1, .aload 0, 0, 0) :: c_M_bits_25
def c_M_bits_21 : List eg_I := .inl (21, 3, .ifCond .ne (11), 32, 0) :: c_M_bits_24
def c_M_bits_20 : List eg_I := .inl (20, 1, .iaload, 0, 0) :: c_M_bits_21
def c_M_bits_19 : List eg_I := .inl (19, 1, .iload 1, 0, 0) :: c_M_bits_20
def c_M_bits_16 : List eg_I := .inl (16, 3, .getfield 69, 12, 22) :: c_M_bits_19
def c_M_bits_15 : List eg_I := .inl (15, 1, .aload 0, 0, 0) :: c_M_bits_16
def c_M_bits_14 : List eg_I := .inl (14, 1, .lreturn, 0, 0) :: []
def c_M_bits_11 : List eg_I := .inr (11, 1, 112, n_M_finding, 1, 12, 0, 0) :: c_M_bits_14
def c_M_bits_8 : List eg_I := .inl (8, 3, .sipush (-1000000000000000001), 110, 0) :: c_M_bits_11
def c_M_bits_7 : List eg_I := .inl (7, 1, .aload 0, 0, 0) :: c_M_bits_8
def c_M_bits_4 : List eg_I := .inl (4, 3, .ifCond .ne (11), 15, 0) :: c_M_bits_7
def c_M_bits_1 : List eg_I := .inr (1, 0, 140, n_M_isSheet, 1, 12, 0, 0) :: c_M_bits_4
def c_M_bits_0 : List eg_I := .inl (0, 1, .iload 1, 0, 0) :: c_M_bits_1
section
variable {rm : Room} {K : Nat → Nat → Nat → eg_Lo → List Value → List eg_E → Prop} {Q : Option Value → List eg_E → Prop} {kc ks : Nat} {loc : eg_Lo} {st : List Value} {h : List eg_E}
theorem s_M_bits_0 {x : Int32} {l0 : Option Value} {l : eg_Lo} : wps rm K Q c_M_bits_0 kc ks (l0 :: some (.int x) :: l) (st) h = wps rm K Q c_M_bits_1 kc ks (l0 :: some (.int x) :: l) (.int x :: st) h := gk_iload rfl
theorem s_M_bits_1  {a1 : Value} : wps rm K Q c_M_bits_1 kc ks loc (a1 :: st) h = (st.length ≤ 4 ∧ eg_Cs n_M_isSheet [a1] h (fun v h9 => wps rm K Q c_M_bits_4 kc ks loc (v.toList ++ st) h9)) := eg_c0_1
theorem s_M_bits_4 {x : Int32} : wps rm K Q c_M_bits_4 kc ks loc (.int x :: st) h = ((¬ x = 0 → K 15 kc ks loc st h) ∧ (x = 0 → wps rm K Q c_M_bits_7 kc ks loc (st) h)) := gk_if1_ne
theorem s_M_bits_7 {x : Nat} {l : eg_Lo} : wps rm K Q c_M_bits_7 kc ks (some (.ref x) :: l) (st) h = wps rm K Q c_M_bits_8 kc ks (some (.ref x) :: l) (.ref x :: st) h := gk_aload rfl
theorem s_M_bits_8  : wps rm K Q c_M_bits_8 kc ks loc (st) h = wps rm K Q c_M_bits_11 kc ks loc (.long (-1000000000000000001) :: st) h := gk_lc (by decide)
theorem s_M_bits_11  {a1 : Value} {x : Nat} : wps rm K Q c_M_bits_11 kc ks loc (a1 :: .ref (x + 1) :: st) h = (eg_cls h x 12 ∧ st.length ≤ 4 ∧ eg_Cs n_M_finding (.ref (x + 1) :: [a1]) h (fun v h9 => wps rm K Q c_M_bits_14 kc ks loc (v.toList ++ st) h9)) := eg_c1_1
theorem s_M_bits_14 {x : Int64} : wps rm K Q c_M_bits_14 kc ks loc ([.long x]) h = (kc = rm.cells ∧ Q (some (.long x)) h) := gk_lret
theorem s_M_bits_15 {x : Nat} {l : eg_Lo} : wps rm K Q c_M_bits_15 kc ks (some (.ref x) :: l) (st) h = wps rm K Q c_M_bits_16 kc ks (some (.ref x) :: l) (.ref x :: st) h := gk_aload rfl
theorem s_M_bits_16 {x : Nat} : wps rm K Q c_M_bits_16 kc ks loc (.ref (x + 1) :: st) h = eg_gf h x 12 22 (fun v => wps rm K Q c_M_bits_19 kc ks loc (v :: st) h) := gk_gf
theorem s_M_bits_19 {x : Int32} {l0 : Option Value} {l : eg_Lo} : wps rm K Q c_M_bits_19 kc ks (l0 :: some (.int x) :: l) (st) h = wps rm K Q c_M_bits_20 kc ks (l0 :: some (.int x) :: l) (.int x :: st) h := gk_iload rfl
theorem s_M_bits_20 {x : Nat} {i : Int32} : wps rm K Q c_M_bits_20 kc ks loc (.int i :: .ref (x + 1) :: st) h = eg_ia h x i (fun v => wps rm K Q c_M_bits_21 kc ks loc (.int v :: st) h) := gk_iaload
theorem s_M_bits_21 {x : Int32} : wps rm K Q c_M_bits_21 kc ks loc (.int x :: st) h = ((¬ x = 0 → K 32 kc ks loc st h) ∧ (x = 0 → wps rm K Q c_M_bits_24 kc ks loc (st) h)) := gk_if1_ne
theorem s_M_bits_24 {x : Nat} {l : eg_Lo} : wps rm K Q c_M_bits_24 kc ks (some (.ref x) :: l) (st) h = wps rm K Q c_M_bits_25 kc ks (some (.ref x) :: l) (.ref x :: st) h := gk_aload rfl
theorem s_M_bits_25  : wps rm K Q c_M_bits_25 kc ks loc (st) h = wps rm K Q c_M_bits_28 kc ks loc (.long (-1000000000000000002) :: st) h := gk_lc (by decide)
theorem s_M_bits_28  {a1 : Value} {x : Nat} : wps rm K Q c_M_bits_28 kc ks loc (a1 :: .ref (x + 1) :: st) h = (eg_cls h x 12 ∧ st.length ≤ 4 ∧ eg_Cs n_M_finding (.ref (x + 1) :: [a1]) h (fun v h9 => wps rm K Q c_M_bits_31 kc ks loc (v.toList ++ st) h9)) := eg_c1_1
theorem s_M_bits_31 {x : Int64} : wps rm K Q c_M_bits_31 kc ks loc ([.long x]) h = (kc = rm.cells ∧ Q (some (.long x)) h) := gk_lret
theorem s_M_bits_32 {x : Nat} {l : eg_Lo} : wps rm K Q c_M_bits_32 kc ks (some (.ref x) :: l) (st) h = wps rm K Q c_M_bits_33 kc ks (some (.ref x) :: l) (.ref x :: st) h := gk_aload rfl
theorem s_M_bits_33 {x : Nat} : wps rm K Q c_M_bits_33 kc ks loc (.ref (x + 1) :: st) h = eg_gf h x 12 22 (fun v => wps rm K Q c_M_bits_36 kc ks loc (v :: st) h) := gk_gf
theorem s_M_bits_36 {x : Int32} {l0 : Option Value} {l : eg_Lo} : wps rm K Q c_M_bits_36 kc ks (l0 :: some (.int x) :: l) (st) h = wps rm K Q c_M_bits_37 kc ks (l0 :: some (.int x) :: l) (.int x :: st) h := gk_iload rfl
theorem s_M_bits_37 {x : Nat} {i : Int32} : wps rm K Q c_M_bits_37 kc ks loc (.int i :: .ref (x + 1) :: st) h = eg_ia h x i (fun v => wps rm K Q c_M_bits_38 kc ks loc (.int v :: st) h) := gk_iaload
theorem s_M_bits_38  : wps rm K Q c_M_bits_38 kc ks loc (st) h = wps rm K Q c_M_bits_39 kc ks loc (.int (3) :: st) h := gk_ic (by decide)
theorem s_M_bits_39 {x y : Int32} : wps rm K Q c_M_bits_39 kc ks loc (.int y :: .int x :: st) h = ((x = y → K 50 kc ks loc st h) ∧ (¬ x = y → wps rm K Q c_M_bits_42 kc ks loc (st) h)) := gk_if2_eq
theorem s_M_bits_42 {x : Nat} {l : eg_Lo} : wps rm K Q c_M_bits_42 kc ks (some (.ref x) :: l) (st) h = wps rm K Q c_M_bits_43 kc ks (some (.ref x) :: l) (.ref x :: st) h := gk_aload rfl
theorem s_M_bits_43  : wps rm K Q c_M_bits_43 kc ks loc (st) h = wps rm K Q c_M_bits_46 kc ks loc (.long (-1000000000000000004) :: st) h := gk_lc (by decide)
theorem s_M_bits_46  {a1 : Value} {x : Nat} : wps rm K Q c_M_bits_46 kc ks loc (a1 :: .ref (x + 1) :: st) h = (eg_cls h x 12 ∧ st.length ≤ 4 ∧ eg_Cs n_M_finding (.ref (x + 1) :: [a1]) h (fun v h9 => wps rm K Q c_M_bits_49 kc ks loc (v.toList ++ st) h9)) := eg_c1_1
theorem s_M_bits_49 {x : Int64} : wps rm K Q c_M_bits_49 kc ks loc ([.long x]) h = (kc = rm.cells ∧ Q (some (.long x)) h) := gk_lret
theorem s_M_bits_50 {x : Int32} {l0 l1 : Option Value} {l : eg_Lo} : wps rm K Q c_M_bits_50 kc ks (l0 :: l1 :: some (.int x) :: l) (st) h = wps rm K Q c_M_bits_51 kc ks (l0 :: l1 :: some (.int x) :: l) (.int x :: st) h := gk_iload rfl
theorem s_M_bits_51 {x : Int32} : wps rm K Q c_M_bits_51 kc ks loc (.int x :: st) h = ((x < 0 → K 64 kc ks loc st h) ∧ (¬ x < 0 → wps rm K Q c_M_bits_54 kc ks loc (st) h)) := gk_if1_lt
theorem s_M_bits_54 {x : Int32} {l0 l1 : Option Value} {l : eg_Lo} : wps rm K Q c_M_bits_54 kc ks (l0 :: l1 :: some (.int x) :: l) (st) h = wps rm K Q c_M_bits_55 kc ks (l0 :: l1 :: some (.int x) :: l) (.int x :: st) h := gk_iload rfl
theorem s_M_bits_55 {x : Nat} {l : eg_Lo} : wps rm K Q c_M_bits_55 kc ks (some (.ref x) :: l) (st) h = wps rm K Q c_M_bits_56 kc ks (some (.ref x) :: l) (.ref x :: st) h := gk_aload rfl
theorem s_M_bits_56 {x : Nat} : wps rm K Q c_M_bits_56 kc ks loc (.ref (x + 1) :: st) h = eg_gf h x 12 23 (fun v => wps rm K Q c_M_bits_59 kc ks loc (v :: st) h) := gk_gf
theorem s_M_bits_59 {x : Int32} {l0 : Option Value} {l : eg_Lo} : wps rm K Q c_M_bits_59 kc ks (l0 :: some (.int x) :: l) (st) h = wps rm K Q c_M_bits_60 kc ks (l0 :: some (.int x) :: l) (.int x :: st) h := gk_iload rfl
theorem s_M_bits_60 {x : Nat} {i : Int32} : wps rm K Q c_M_bits_60 kc ks loc (.int i :: .ref (x + 1) :: st) h = eg_ia h x i (fun v => wps rm K Q c_M_bits_61 kc ks loc (.int v :: st) h) := gk_iaload
theorem s_M_bits_61 {x y : Int32} : wps rm K Q c_M_bits_61 kc ks loc (.int y :: .int x :: st) h = ((x < y → K 72 kc ks loc st h) ∧ (¬ x < y → wps rm K Q c_M_bits_64 kc ks loc (st) h)) := gk_if2_lt
theorem s_M_bits_64 {x : Nat} {l : eg_Lo} : wps rm K Q c_M_bits_64 kc ks (some (.ref x) :: l) (st) h = wps rm K Q c_M_bits_65 kc ks (some (.ref x) :: l) (.ref x :: st) h := gk_aload rfl
theorem s_M_bits_65  : wps rm K Q c_M_bits_65 kc ks loc (st) h = wps rm K Q c_M_bits_68 kc ks loc (.long (-1000000000000000001) :: st) h := gk_lc (by decide)
theorem s_M_bits_68  {a1 : Value} {x : Nat} : wps rm K Q c_M_bits_68 kc ks loc (a1 :: .ref (x + 1) :: st) h = (eg_cls h x 12 ∧ st.length ≤ 4 ∧ eg_Cs n_M_finding (.ref (x + 1) :: [a1]) h (fun v h9 => wps rm K Q c_M_bits_71 kc ks loc (v.toList ++ st) h9)) := eg_c1_1
theorem s_M_bits_71 {x : Int64} : wps rm K Q c_M_bits_71 kc ks loc ([.long x]) h = (kc = rm.cells ∧ Q (some (.long x)) h) := gk_lret
theorem s_M_bits_72 {x : Nat} {l : eg_Lo} : wps rm K Q c_M_bits_72 kc ks (some (.ref x) :: l) (st) h = wps rm K Q c_M_bits_73 kc ks (some (.ref x) :: l) (.ref x :: st) h := gk_aload rfl
theorem s_M_bits_73 {x : Nat} : wps rm K Q c_M_bits_73 kc ks loc (.ref (x + 1) :: st) h = eg_gf h x 12 25 (fun v => wps rm K Q c_M_bits_76 kc ks loc (v :: st) h) := gk_gf
theorem s_M_bits_76  : wps rm K Q c_M_bits_76 kc ks loc (st) h = wps rm K Q c_M_bits_78 kc ks loc (.int (48) :: st) h := gk_ic (by decide)
theorem s_M_bits_78 {x : Int32} {l0 : Option Value} {l : eg_Lo} : wps rm K Q c_M_bits_78 kc ks (l0 :: some (.int x) :: l) (st) h = wps rm K Q c_M_bits_79 kc ks (l0 :: some (.int x) :: l) (.int x :: st) h := gk_iload rfl
theorem s_M_bits_79 {x y : Int32} : wps rm K Q c_M_bits_79 kc ks loc (.int y :: .int x :: st) h = wps rm K Q c_M_bits_80 kc ks loc (.int (x * y) :: st) h := gk_imul
theorem s_M_bits_80 {x : Int32} {l0 l1 : Option Value} {l : eg_Lo} : wps rm K Q c_M_bits_80 kc ks (l0 :: l1 :: some (.int x) :: l) (st) h = wps rm K Q c_M_bits_81 kc ks (l0 :: l1 :: some (.int x) :: l) (.int x :: st) h := gk_iload rfl
theorem s_M_bits_81 {x y : Int32} : wps rm K Q c_M_bits_81 kc ks loc (.int y :: .int x :: st) h = wps rm K Q c_M_bits_82 kc ks loc (.int (x + y) :: st) h := gk_iadd
theorem s_M_bits_82 {x : Int64} {l0 l1 l2 : Option Value} {l : eg_Lo} : wps rm K Q c_M_bits_82 kc ks (l0 :: l1 :: l2 :: some (.long x) :: l) (st) h = wps rm K Q z_M_bits_83 kc ks (l0 :: l1 :: l2 :: some (.long x) :: l) (.long x :: st) h := gk_lload rfl
theorem s_M_bits_86 {x : Nat} {i : Int32} {v : UInt64} : wps rm K Q c_M_bits_86 kc ks loc (.double v :: .int i :: .ref (x + 1) :: st) h = eg_ds h x i v (fun h9 => wps rm K Q c_M_bits_87 kc ks loc (st) h9) := gk_dastore
theorem s_M_bits_87  : wps rm K Q c_M_bits_87 kc ks loc (st) h = wps rm K Q c_M_bits_88 kc ks loc (.long (0) :: st) h := gk_lc (by decide)
theorem s_M_bits_88 {x : Int64} : wps rm K Q c_M_bits_88 kc ks loc ([.long x]) h = (kc = rm.cells ∧ Q (some (.long x)) h) := gk_lret
theorem sz_M_bits_83 : wps rm K Q z_M_bits_83 kc ks loc st h = K 83 kc ks loc st h := gk_nop
def T_M_bits : List (Nat × List eg_I) := [(15, c_M_bits_15), (32, c_M_bits_32), (50, c_M_bits_50), (64, c_M_bits_64), (72, c_M_bits_72), (86, c_M_bits_86)]
theorem j_M_bits_15 {R : Nat → Nat → Nat → eg_Lo → List Value → List eg_E → Prop} {f pc0 : Nat} : eg_run rm R Q T_M_bits (f + 1) 15 kc ks loc st h = wps rm (eg_run rm R Q T_M_bits f) Q c_M_bits_15 kc ks loc st h := rfl
theorem j_M_bits_32 {R : Nat → Nat → Nat → eg_Lo → List Value → List eg_E → Prop} {f pc0 : Nat} : eg_run rm R Q T_M_bits (f + 1) 32 kc ks loc st h = wps rm (eg_run rm R Q T_M_bits f) Q c_M_bits_32 kc ks loc st h := rfl
theorem j_M_bits_50 {R : Nat → Nat → Nat → eg_Lo → List Value → List eg_E → Prop} {f pc0 : Nat} : eg_run rm R Q T_M_bits (f + 1) 50 kc ks loc st h = wps rm (eg_run rm R Q T_M_bits f) Q c_M_bits_50 kc ks loc st h := rfl
theorem j_M_bits_64 {R : Nat → Nat → Nat → eg_Lo → List Value → List eg_E → Prop} {f pc0 : Nat} : eg_run rm R Q T_M_bits (f + 1) 64 kc ks loc st h = wps rm (eg_run rm R Q T_M_bits f) Q c_M_bits_64 kc ks loc st h := rfl
theorem j_M_bits_72 {R : Nat → Nat → Nat → eg_Lo → List Value → List eg_E → Prop} {f pc0 : Nat} : eg_run rm R Q T_M_bits (f + 1) 72 kc ks loc st h = wps rm (eg_run rm R Q T_M_bits f) Q c_M_bits_72 kc ks loc st h := rfl
theorem j_M_bits_86 {R : Nat → Nat → Nat → eg_Lo → List Value → List eg_E → Prop} {f pc0 : Nat} : eg_run rm R Q T_M_bits (f + 1) 86 kc ks loc st h = wps rm (eg_run rm R Q T_M_bits f) Q c_M_bits_86 kc ks loc st h := rfl
theorem j_M_bits_83 {R : Nat → Nat → Nat → eg_Lo → List Value → List eg_E → Prop} {f pc0 : Nat} : eg_run rm R Q T_M_bits (f + 1) 83 kc ks loc st h = R 83 kc ks loc st h := rfl
end
theorem y_M_bits_0 : eg_seq m_M_bits 0 c_M_bits_0 = true := by decide +kernel
theorem y_M_bits_15 : eg_seq m_M_bits 15 c_M_bits_15 = true := by decide +kernel
theorem y_M_bits_32 : eg_seq m_M_bits 32 c_M_bits_32 = true := by decide +kernel
theorem y_M_bits_50 : eg_seq m_M_bits 50 c_M_bits_50 = true := by decide +kernel
theorem y_M_bits_72 : eg_seq m_M_bits 72 c_M_bits_72 = true := by decide +kernel
theorem y_M_bits_86 : eg_seq m_M_bits 86 c_M_bits_86 = true := by decide +kernel
theorem q_M_bits : ∀ q ∈ T_M_bits, eg_seq m_M_bits q.1 q.2 = true := by
  intro q hq
  simp only [T_M_bits, List.mem_cons, List.not_mem_nil, or_false] at hq
  rcases hq with rfl | rfl | rfl | rfl | rfl | rfl
  · exact y_M_bits_15
  · exact y_M_bits_32
  · exact y_M_bits_50
  · exact (eg_seq_drop y_M_bits_50 8 : eg_seq m_M_bits 64 c_M_bits_64 = true)
  · exact y_M_bits_72
  · exact y_M_bits_86
theorem md_M_bits : eg_md n_M_bits = m_M_bits := rfl
theorem mn_M_bits : n_M_bits < 202 := Nat.le_of_ble_eq_true rfl
theorem b_M_bits {as : List Value} {h : List eg_E} {Q : Option Value → List eg_E → Prop} (hf : (eg_fl as).length ≤ 5) : wps (eg_rm m_M_bits) (eg_run (eg_rm m_M_bits) (eg_R m_M_bits Q (h.length + 0)) Q T_M_bits 8) Q c_M_bits_0 0 0 (eg_entry 5 as) [] h → eg_Runs n_M_bits as h Q := eg_begin2 md_M_bits mn_M_bits y_M_bits_0 q_M_bits hf
theorem e_M_bits {Q : Option Value → List eg_E → Prop} {h : List eg_E} {a0 : Nat} {a1 : Int32} {a2 : Int32} {a3 : Int64} : wps ({ frames := 2, cells := 0, slots := 0, locals := 42 } : Room) (eg_run ({ frames := 2, cells := 0, slots := 0, locals := 42 } : Room) (eg_R m_M_bits Q (h.length + 0)) Q T_M_bits 8) Q c_M_bits_0 0 0 [some (.ref a0), some (.int a1), some (.int a2), some (.long a3), none] [] h → eg_Runs n_M_bits [.ref a0, .int a1, .int a2, .long a3] h Q := b_M_bits (as := [.ref a0, .int a1, .int a2, .long a3]) (h := h) (Q := Q) (Nat.le_of_ble_eq_true rfl)
