/-! ===== M_way ===== -/
def c_M_way_69 : List eg_I := .inl (69, 1, .lreturn, 0, 0) :: []
def c_M_way_66 : List eg_I := .inr (66, 1, 112, n_M_finding, 1, 12, 0, 0) :: c_M_way_69
def c_M_way_63 : List eg_I := .inl (63, 3, .sipush (-1000000000000000004), 147, 0) :: c_M_way_66
def c_M_way_62 : List eg_I := .inl (62, 1, .aload 0, 0, 0) :: c_M_way_63
def c_M_way_59 : List eg_I := .inl (59, 3, .goto (10), 69, 0) :: []
def c_M_way_58 : List eg_I := .inl (58, 1, .laload, 0, 0) :: c_M_way_59
def c_M_way_57 : List eg_I := .inl (57, 1, .iadd, 0, 0) :: c_M_way_58
def c_M_way_56 : List eg_I := .inl (56, 1, .iload 2, 0, 0) :: c_M_way_57
def c_M_way_55 : List eg_I := .inl (55, 1, .imul, 0, 0) :: c_M_way_56
def c_M_way_54 : List eg_I := .inl (54, 1, .iload 1, 0, 0) :: c_M_way_55
def c_M_way_53 : List eg_I := .inl (53, 1, .iconst (3), 0, 0) :: c_M_way_54
def c_M_way_50 : List eg_I := .inl (50, 3, .getfield 48, 12, 12) :: c_M_way_53
def c_M_way_49 : List eg_I := .inl (49, 1, .aload 0, 0, 0) :: c_M_way_50
def c_M_way_46 : List eg_I := .inl (46, 3, .ifCond .eq (16), 62, 0) :: c_M_way_49
def c_M_way_43 : List eg_I := .inr (43, 1, 267, n_M_isFlat, 1, 12, 0, 0) :: c_M_way_46
def c_M_way_42 : List eg_I := .inl (42, 1, .iload 1, 0, 0) :: c_M_way_43
def c_M_way_41 : List eg_I := .inl (41, 1, .aload 0, 0, 0) :: c_M_way_42
def c_M_way_40 : List eg_I := .inl (40, 1, .lreturn, 0, 0) :: []
def c_M_way_37 : List eg_I := .inr (37, 1, 112, n_M_finding, 1, 12, 0, 0) :: c_M_way_40
def c_M_way_34 : List eg_I := .inl (34, 3, .sipush (-1000000000000000006), 138, 0) :: c_M_way_37
def c_M_way_33 : List eg_I := .inl (33, 1, .aload 0, 0, 0) :: c_M_way_34
def c_M_way_30 : List eg_I := .inl (30, 3, .ifCond .ne (11), 41, 0) :: c_M_way_33
def c_M_way_29 : List eg_I := .inl (29, 1, .iaload, 0, 0) :: c_M_way_30
def c_M_way_28 : List eg_I := .inl (28, 1, .iload 1, 0, 0) :: c_M_way_29
def c_M_way_25 : List eg_I := .inl (25, 3, .getfield 32, 12, 7) :: c_M_way_28
def c_M_way_24 : List eg_I := .inl (24, 1, .aload 0, 0, 0) :: c_M_way_25
def c_M_way_23 : List eg_I := .inl (23, 1, .lreturn, 0, 0) :: []
def c_M_way_20 : List eg_I := .inr (20, 1, 112, n_M_finding, 1, 12, 0, 0) :: c_M_way_23
def c_M_way_17 : List eg_I := .inl (17, 3, .sipush (-1000000000000000001), 110, 0) :: c_M_way_20
def c_M_way_16 : List eg_I := .inl (16, 1, .aload 0, 0, 0) :: c_M_way_17
def c_M_way_13 : List eg_I := .inl (13, 3, .ifCond .ne (11), 24, 0) :: c_M_way_16
def c_M_way_10 : List eg_I := .inr (10, 0, 95, n_M_isIn, 3, 12, 0, 0) :: c_M_way_13
def c_M_way_9 : List eg_I := .inl (9, 1, .iconst (2), 0, 0) :: c_M_way_10
def c_M_way_8 : List eg_I := .inl (8, 1, .iconst (0), 0, 0) :: c_M_way_9
def c_M_way_7 : List eg_I := .inl (7, 1, .iload 2, 0, 0) :: c_M_way_8
def c_M_way_4 : List eg_I := .inl (4, 3, .ifCond .eq (12), 16, 0) :: c_M_way_7
def c_M_way_1 : List eg_I := .inr (1, 0, 255, n_M_isFigure, 1, 12, 0, 0) :: c_M_way_4
def c_M_way_0 : List eg_I := .inl (0, 1, .iload 1, 0, 0) :: c_M_way_1
section
variable {rm : Room} {K : Nat → Nat → Nat → eg_Lo → List Value → List eg_E → Prop} {Q : Option Value → List eg_E → Prop} {kc ks : Nat} {loc : eg_Lo} {st : List Value} {h : List eg_E}
theorem s_M_way_0 {x : Int32} {l0 : Option Value} {l : eg_Lo} : wps rm K Q c_M_way_0 kc ks (l0 :: some (.int x) :: l) (st) h = wps rm K Q c_M_way_1 kc ks (l0 :: some (.int x) :: l) (.int x :: st) h := gk_iload rfl
theorem s_M_way_1  {a1 : Value} : wps rm K Q c_M_way_1 kc ks loc (a1 :: st) h = (st.length ≤ 4 ∧ eg_Cs n_M_isFigure [a1] h (fun v h9 => wps rm K Q c_M_way_4 kc ks loc (v.toList ++ st) h9)) := eg_c0_1
theorem s_M_way_4 {x : Int32} : wps rm K Q c_M_way_4 kc ks loc (.int x :: st) h = ((x = 0 → K 16 kc ks loc st h) ∧ (¬ x = 0 → wps rm K Q c_M_way_7 kc ks loc (st) h)) := gk_if1_eq
theorem s_M_way_7 {x : Int32} {l0 l1 : Option Value} {l : eg_Lo} : wps rm K Q c_M_way_7 kc ks (l0 :: l1 :: some (.int x) :: l) (st) h = wps rm K Q c_M_way_8 kc ks (l0 :: l1 :: some (.int x) :: l) (.int x :: st) h := gk_iload rfl
theorem s_M_way_8  : wps rm K Q c_M_way_8 kc ks loc (st) h = wps rm K Q c_M_way_9 kc ks loc (.int (0) :: st) h := gk_ic (by decide)
theorem s_M_way_9  : wps rm K Q c_M_way_9 kc ks loc (st) h = wps rm K Q c_M_way_10 kc ks loc (.int (2) :: st) h := gk_ic (by decide)
theorem s_M_way_10  {a1 : Value} {a2 : Value} {a3 : Value} : wps rm K Q c_M_way_10 kc ks loc (a3 :: a2 :: a1 :: st) h = (st.length ≤ 4 ∧ eg_Cs n_M_isIn [a1, a2, a3] h (fun v h9 => wps rm K Q c_M_way_13 kc ks loc (v.toList ++ st) h9)) := eg_c0_3
theorem s_M_way_13 {x : Int32} : wps rm K Q c_M_way_13 kc ks loc (.int x :: st) h = ((¬ x = 0 → K 24 kc ks loc st h) ∧ (x = 0 → wps rm K Q c_M_way_16 kc ks loc (st) h)) := gk_if1_ne
theorem s_M_way_16 {x : Nat} {l : eg_Lo} : wps rm K Q c_M_way_16 kc ks (some (.ref x) :: l) (st) h = wps rm K Q c_M_way_17 kc ks (some (.ref x) :: l) (.ref x :: st) h := gk_aload rfl
theorem s_M_way_17  : wps rm K Q c_M_way_17 kc ks loc (st) h = wps rm K Q c_M_way_20 kc ks loc (.long (-1000000000000000001) :: st) h := gk_lc (by decide)
theorem s_M_way_20  {a1 : Value} {x : Nat} : wps rm K Q c_M_way_20 kc ks loc (a1 :: .ref (x + 1) :: st) h = (eg_cls h x 12 ∧ st.length ≤ 4 ∧ eg_Cs n_M_finding (.ref (x + 1) :: [a1]) h (fun v h9 => wps rm K Q c_M_way_23 kc ks loc (v.toList ++ st) h9)) := eg_c1_1
theorem s_M_way_23 {x : Int64} : wps rm K Q c_M_way_23 kc ks loc ([.long x]) h = (kc = rm.cells ∧ Q (some (.long x)) h) := gk_lret
theorem s_M_way_24 {x : Nat} {l : eg_Lo} : wps rm K Q c_M_way_24 kc ks (some (.ref x) :: l) (st) h = wps rm K Q c_M_way_25 kc ks (some (.ref x) :: l) (.ref x :: st) h := gk_aload rfl
theorem s_M_way_25 {x : Nat} : wps rm K Q c_M_way_25 kc ks loc (.ref (x + 1) :: st) h = eg_gf h x 12 7 (fun v => wps rm K Q c_M_way_28 kc ks loc (v :: st) h) := gk_gf
theorem s_M_way_28 {x : Int32} {l0 : Option Value} {l : eg_Lo} : wps rm K Q c_M_way_28 kc ks (l0 :: some (.int x) :: l) (st) h = wps rm K Q c_M_way_29 kc ks (l0 :: some (.int x) :: l) (.int x :: st) h := gk_iload rfl
theorem s_M_way_29 {x : Nat} {i : Int32} : wps rm K Q c_M_way_29 kc ks loc (.int i :: .ref (x + 1) :: st) h = eg_ia h x i (fun v => wps rm K Q c_M_way_30 kc ks loc (.int v :: st) h) := gk_iaload
theorem s_M_way_30 {x : Int32} : wps rm K Q c_M_way_30 kc ks loc (.int x :: st) h = ((¬ x = 0 → K 41 kc ks loc st h) ∧ (x = 0 → wps rm K Q c_M_way_33 kc ks loc (st) h)) := gk_if1_ne
theorem s_M_way_33 {x : Nat} {l : eg_Lo} : wps rm K Q c_M_way_33 kc ks (some (.ref x) :: l) (st) h = wps rm K Q c_M_way_34 kc ks (some (.ref x) :: l) (.ref x :: st) h := gk_aload rfl
theorem s_M_way_34  : wps rm K Q c_M_way_34 kc ks loc (st) h = wps rm K Q c_M_way_37 kc ks loc (.long (-1000000000000000006) :: st) h := gk_lc (by decide)
theorem s_M_way_37  {a1 : Value} {x : Nat} : wps rm K Q c_M_way_37 kc ks loc (a1 :: .ref (x + 1) :: st) h = (eg_cls h x 12 ∧ st.length ≤ 4 ∧ eg_Cs n_M_finding (.ref (x + 1) :: [a1]) h (fun v h9 => wps rm K Q c_M_way_40 kc ks loc (v.toList ++ st) h9)) := eg_c1_1
theorem s_M_way_40 {x : Int64} : wps rm K Q c_M_way_40 kc ks loc ([.long x]) h = (kc = rm.cells ∧ Q (some (.long x)) h) := gk_lret
theorem s_M_way_41 {x : Nat} {l : eg_Lo} : wps rm K Q c_M_way_41 kc ks (some (.ref x) :: l) (st) h = wps rm K Q c_M_way_42 kc ks (some (.ref x) :: l) (.ref x :: st) h := gk_aload rfl
theorem s_M_way_42 {x : Int32} {l0 : Option Value} {l : eg_Lo} : wps rm K Q c_M_way_42 kc ks (l0 :: some (.int x) :: l) (st) h = wps rm K Q c_M_way_43 kc ks (l0 :: some (.int x) :: l) (.int x :: st) h := gk_iload rfl
theorem s_M_way_43  {a1 : Value} {x : Nat} : wps rm K Q c_M_way_43 kc ks loc (a1 :: .ref (x + 1) :: st) h = (eg_cls h x 12 ∧ st.length ≤ 4 ∧ eg_Cs n_M_isFlat (.ref (x + 1) :: [a1]) h (fun v h9 => wps rm K Q c_M_way_46 kc ks loc (v.toList ++ st) h9)) := eg_c1_1
theorem s_M_way_46 {x : Int32} : wps rm K Q c_M_way_46 kc ks loc (.int x :: st) h = ((x = 0 → K 62 kc ks loc st h) ∧ (¬ x = 0 → wps rm K Q c_M_way_49 kc ks loc (st) h)) := gk_if1_eq
theorem s_M_way_49 {x : Nat} {l : eg_Lo} : wps rm K Q c_M_way_49 kc ks (some (.ref x) :: l) (st) h = wps rm K Q c_M_way_50 kc ks (some (.ref x) :: l) (.ref x :: st) h := gk_aload rfl
theorem s_M_way_50 {x : Nat} : wps rm K Q c_M_way_50 kc ks loc (.ref (x + 1) :: st) h = eg_gf h x 12 12 (fun v => wps rm K Q c_M_way_53 kc ks loc (v :: st) h) := gk_gf
theorem s_M_way_53  : wps rm K Q c_M_way_53 kc ks loc (st) h = wps rm K Q c_M_way_54 kc ks loc (.int (3) :: st) h := gk_ic (by decide)
theorem s_M_way_54 {x : Int32} {l0 : Option Value} {l : eg_Lo} : wps rm K Q c_M_way_54 kc ks (l0 :: some (.int x) :: l) (st) h = wps rm K Q c_M_way_55 kc ks (l0 :: some (.int x) :: l) (.int x :: st) h := gk_iload rfl
theorem s_M_way_55 {x y : Int32} : wps rm K Q c_M_way_55 kc ks loc (.int y :: .int x :: st) h = wps rm K Q c_M_way_56 kc ks loc (.int (x * y) :: st) h := gk_imul
theorem s_M_way_56 {x : Int32} {l0 l1 : Option Value} {l : eg_Lo} : wps rm K Q c_M_way_56 kc ks (l0 :: l1 :: some (.int x) :: l) (st) h = wps rm K Q c_M_way_57 kc ks (l0 :: l1 :: some (.int x) :: l) (.int x :: st) h := gk_iload rfl
theorem s_M_way_57 {x y : Int32} : wps rm K Q c_M_way_57 kc ks loc (.int y :: .int x :: st) h = wps rm K Q c_M_way_58 kc ks loc (.int (x + y) :: st) h := gk_iadd
theorem s_M_way_58 {x : Nat} {i : Int32} : wps rm K Q c_M_way_58 kc ks loc (.int i :: .ref (x + 1) :: st) h = eg_la h x i (fun v => wps rm K Q c_M_way_59 kc ks loc (.long v :: st) h) := gk_laload
theorem s_M_way_59  : wps rm K Q c_M_way_59 kc ks loc (st) h = K 69 kc ks loc st h := gk_goto
theorem s_M_way_62 {x : Nat} {l : eg_Lo} : wps rm K Q c_M_way_62 kc ks (some (.ref x) :: l) (st) h = wps rm K Q c_M_way_63 kc ks (some (.ref x) :: l) (.ref x :: st) h := gk_aload rfl
theorem s_M_way_63  : wps rm K Q c_M_way_63 kc ks loc (st) h = wps rm K Q c_M_way_66 kc ks loc (.long (-1000000000000000004) :: st) h := gk_lc (by decide)
theorem s_M_way_66  {a1 : Value} {x : Nat} : wps rm K Q c_M_way_66 kc ks loc (a1 :: .ref (x + 1) :: st) h = (eg_cls h x 12 ∧ st.length ≤ 4 ∧ eg_Cs n_M_finding (.ref (x + 1) :: [a1]) h (fun v h9 => wps rm K Q c_M_way_69 kc ks loc (v.toList ++ st) h9)) := eg_c1_1
theorem s_M_way_69 {x : Int64} : wps rm K Q c_M_way_69 kc ks loc ([.long x]) h = (kc = rm.cells ∧ Q (some (.long x)) h) := gk_lret
def T_M_way : List (Nat × List eg_I) := [(16, c_M_way_16), (24, c_M_way_24), (41, c_M_way_41), (62, c_M_way_62), (69, c_M_way_69)]
theorem j_M_way_16 {R : Nat → Nat → Nat → eg_Lo → List Value → List eg_E → Prop} {f pc0 : Nat} : eg_run rm R Q T_M_way (f + 1) 16 kc ks loc st h = wps rm (eg_run rm R Q T_M_way f) Q c_M_way_16 kc ks loc st h := rfl
theorem j_M_way_24 {R : Nat → Nat → Nat → eg_Lo → List Value → List eg_E → Prop} {f pc0 : Nat} : eg_run rm R Q T_M_way (f + 1) 24 kc ks loc st h = wps rm (eg_run rm R Q T_M_way f) Q c_M_way_24 kc ks loc st h := rfl
theorem j_M_way_41 {R : Nat → Nat → Nat → eg_Lo → List Value → List eg_E → Prop} {f pc0 : Nat} : eg_run rm R Q T_M_way (f + 1) 41 kc ks loc st h = wps rm (eg_run rm R Q T_M_way f) Q c_M_way_41 kc ks loc st h := rfl
theorem j_M_way_62 {R : Nat → Nat → Nat → eg_Lo → List Value → List eg_E → Prop} {f pc0 : Nat} : eg_run rm R Q T_M_way (f + 1) 62 kc ks loc st h = wps rm (eg_run rm R Q T_M_way f) Q c_M_way_62 kc ks loc st h := rfl
theorem j_M_way_69 {R : Nat → Nat → Nat → eg_Lo → List Value → List eg_E → Prop} {f pc0 : Nat} : eg_run rm R Q T_M_way (f + 1) 69 kc ks loc st h = wps rm (eg_run rm R Q T_M_way f) Q c_M_way_69 kc ks loc st h := rfl
end
theorem y_M_way_0 : eg_seq m_M_way 0 c_M_way_0 = true := by decide +kernel
theorem y_M_way_24 : eg_seq m_M_way 24 c_M_way_24 = true := by decide +kernel
theorem y_M_way_41 : eg_seq m_M_way 41 c_M_way_41 = true := by decide +kernel
theorem y_M_way_62 : eg_seq m_M_way 62 c_M_way_62 = true := by decide +kernel
theorem q_M_way : ∀ q ∈ T_M_way, eg_seq m_M_way q.1 q.2 = true := by
  intro q hq
  simp only [T_M_way, List.mem_cons, List.not_mem_nil, or_false] at hq
  rcases hq with rfl | rfl | rfl | rfl | rfl
  · exact (eg_seq_drop y_M_way_0 8 : eg_seq m_M_way 16 c_M_way_16 = true)
  · exact y_M_way_24
  · exact y_M_way_41
  · exact y_M_way_62
  · exact (eg_seq_drop y_M_way_62 3 : eg_seq m_M_way 69 c_M_way_69 = true)
theorem md_M_way : eg_md n_M_way = m_M_way := rfl
theorem mn_M_way : n_M_way < 202 := Nat.le_of_ble_eq_true rfl
theorem b_M_way {as : List Value} {h : List eg_E} {Q : Option Value → List eg_E → Prop} (hf : (eg_fl as).length ≤ 3) : wps (eg_rm m_M_way) (eg_run (eg_rm m_M_way) (eg_R m_M_way Q (h.length + 0)) Q T_M_way 7) Q c_M_way_0 0 0 (eg_entry 3 as) [] h → eg_Runs n_M_way as h Q := eg_begin2 md_M_way mn_M_way y_M_way_0 q_M_way hf
/-! ===== M_middle ===== -/
def c_M_middle_80 : List eg_I := .inl (80, 1, .lreturn, 0, 0) :: []
def c_M_middle_77 : List eg_I := .inr (77, 1, 112, n_M_finding, 1, 12, 0, 0) :: c_M_middle_80
def c_M_middle_74 : List eg_I := .inl (74, 3, .sipush (-1000000000000000004), 147, 0) :: c_M_middle_77
def c_M_middle_73 : List eg_I := .inl (73, 1, .aload 0, 0, 0) :: c_M_middle_74
def c_M_middle_70 : List eg_I := .inl (70, 3, .goto (10), 80, 0) :: []
def c_M_middle_69 : List eg_I := .inl (69, 1, .laload, 0, 0) :: c_M_middle_70
def c_M_middle_68 : List eg_I := .inl (68, 1, .iadd, 0, 0) :: c_M_middle_69
def c_M_middle_67 : List eg_I := .inl (67, 1, .iconst (0), 0, 0) :: c_M_middle_68
def c_M_middle_64 : List eg_I := .inl (64, 3, .goto (4), 68, 0) :: []
def c_M_middle_63 : List eg_I := .inl (63, 1, .iconst (1), 0, 0) :: c_M_middle_64
def c_M_middle_60 : List eg_I := .inl (60, 3, .ifCond .eq (7), 67, 0) :: c_M_middle_63
def c_M_middle_59 : List eg_I := .inl (59, 1, .iload 3, 0, 0) :: c_M_middle_60
def c_M_middle_58 : List eg_I := .inl (58, 1, .iadd, 0, 0) :: c_M_middle_59
def c_M_middle_57 : List eg_I := .inl (57, 1, .iconst (0), 0, 0) :: c_M_middle_58
def c_M_middle_54 : List eg_I := .inl (54, 3, .goto (4), 58, 0) :: []
def c_M_middle_53 : List eg_I := .inl (53, 1, .iconst (2), 0, 0) :: c_M_middle_54
def c_M_middle_50 : List eg_I := .inl (50, 3, .ifCond .eq (7), 57, 0) :: c_M_middle_53
def c_M_middle_49 : List eg_I := .inl (49, 1, .iload 2, 0, 0) :: c_M_middle_50
def c_M_middle_48 : List eg_I := .inl (48, 1, .imul, 0, 0) :: c_M_middle_49
def c_M_middle_47 : List eg_I := .inl (47, 1, .iload 1, 0, 0) :: c_M_middle_48
def c_M_middle_46 : List eg_I := .inl (46, 1, .iconst (4), 0, 0) :: c_M_middle_47
def c_M_middle_43 : List eg_I := .inl (43, 3, .getfield 51, 12, 13) :: c_M_middle_46
def c_M_middle_42 : List eg_I := .inl (42, 1, .aload 0, 0, 0) :: c_M_middle_43
def c_M_middle_39 : List eg_I := .inl (39, 3, .if_icmp .ne (34), 73, 0) :: c_M_middle_42
def c_M_middle_38 : List eg_I := .inl (38, 1, .iconst (5), 0, 0) :: c_M_middle_39
def c_M_middle_37 : List eg_I := .inl (37, 1, .iaload, 0, 0) :: c_M_middle_38
def c_M_middle_36 : List eg_I := .inl (36, 1, .iload 1, 0, 0) :: c_M_middle_37
def c_M_middle_33 : List eg_I := .inl (33, 3, .getfield 32, 12, 7) :: c_M_middle_36
def c_M_middle_32 : List eg_I := .inl (32, 1, .aload 0, 0, 0) :: c_M_middle_33
def c_M_middle_31 : List eg_I := .inl (31, 1, .lreturn, 0, 0) :: []
def c_M_middle_28 : List eg_I := .inr (28, 1, 112, n_M_finding, 1, 12, 0, 0) :: c_M_middle_31
def c_M_middle_25 : List eg_I := .inl (25, 3, .sipush (-1000000000000000006), 138, 0) :: c_M_middle_28
def c_M_middle_24 : List eg_I := .inl (24, 1, .aload 0, 0, 0) :: c_M_middle_25
def c_M_middle_21 : List eg_I := .inl (21, 3, .ifCond .ne (11), 32, 0) :: c_M_middle_24
def c_M_middle_20 : List eg_I := .inl (20, 1, .iaload, 0, 0) :: c_M_middle_21
def c_M_middle_19 : List eg_I := .inl (19, 1, .iload 1, 0, 0) :: c_M_middle_20
def c_M_middle_16 : List eg_I := .inl (16, 3, .getfield 32, 12, 7) :: c_M_middle_19
def c_M_middle_15 : List eg_I := .inl (15, 1, .aload 0, 0, 0) :: c_M_middle_16
def c_M_middle_14 : List eg_I := .inl (14, 1, .lreturn, 0, 0) :: []
def c_M_middle_11 : List eg_I := .inr (11, 1, 112, n_M_finding, 1, 12, 0, 0) :: c_M_middle_14
def c_M_middle_8 : List eg_I := .inl (8, 3, .sipush (-1000000000000000001), 110, 0) :: c_M_middle_11
def c_M_middle_7 : List eg_I := .inl (7, 1, .aload 0, 0, 0) :: c_M_middle_8
def c_M_middle_4 : List eg_I := .inl (4, 3, .ifCond .ne (11), 15, 0) :: c_M_middle_7
def c_M_middle_1 : List eg_I := .inr (1, 0, 255, n_M_isFigure, 1, 12, 0, 0) :: c_M_middle_4
def c_M_middle_0 : List eg_I := .inl (0, 1, .iload 1, 0, 0) :: c_M_middle_1
section
variable {rm : Room} {K : Nat → Nat → Nat → eg_Lo → List Value → List eg_E → Prop} {Q : Option Value → List eg_E → Prop} {kc ks : Nat} {loc : eg_Lo} {st : List Value} {h : List eg_E}
theorem s_M_middle_0 {x : Int32} {l0 : Option Value} {l : eg_Lo} : wps rm K Q c_M_middle_0 kc ks (l0 :: some (.int x) :: l) (st) h = wps rm K Q c_M_middle_1 kc ks (l0 :: some (.int x) :: l) (.int x :: st) h := gk_iload rfl
theorem s_M_middle_1  {a1 : Value} : wps rm K Q c_M_middle_1 kc ks loc (a1 :: st) h = (st.length ≤ 4 ∧ eg_Cs n_M_isFigure [a1] h (fun v h9 => wps rm K Q c_M_middle_4 kc ks loc (v.toList ++ st) h9)) := eg_c0_1
theorem s_M_middle_4 {x : Int32} : wps rm K Q c_M_middle_4 kc ks loc (.int x :: st) h = ((¬ x = 0 → K 15 kc ks loc st h) ∧ (x = 0 → wps rm K Q c_M_middle_7 kc ks loc (st) h)) := gk_if1_ne
theorem s_M_middle_7 {x : Nat} {l : eg_Lo} : wps rm K Q c_M_middle_7 kc ks (some (.ref x) :: l) (st) h = wps rm K Q c_M_middle_8 kc ks (some (.ref x) :: l) (.ref x :: st) h := gk_aload rfl
theorem s_M_middle_8  : wps rm K Q c_M_middle_8 kc ks loc (st) h = wps rm K Q c_M_middle_11 kc ks loc (.long (-1000000000000000001) :: st) h := gk_lc (by decide)
theorem s_M_middle_11  {a1 : Value} {x : Nat} : wps rm K Q c_M_middle_11 kc ks loc (a1 :: .ref (x + 1) :: st) h = (eg_cls h x 12 ∧ st.length ≤ 4 ∧ eg_Cs n_M_finding (.ref (x + 1) :: [a1]) h (fun v h9 => wps rm K Q c_M_middle_14 kc ks loc (v.toList ++ st) h9)) := eg_c1_1
theorem s_M_middle_14 {x : Int64} : wps rm K Q c_M_middle_14 kc ks loc ([.long x]) h = (kc = rm.cells ∧ Q (some (.long x)) h) := gk_lret
theorem s_M_middle_15 {x : Nat} {l : eg_Lo} : wps rm K Q c_M_middle_15 kc ks (some (.ref x) :: l) (st) h = wps rm K Q c_M_middle_16 kc ks (some (.ref x) :: l) (.ref x :: st) h := gk_aload rfl
theorem s_M_middle_16 {x : Nat} : wps rm K Q c_M_middle_16 kc ks loc (.ref (x + 1) :: st) h = eg_gf h x 12 7 (fun v => wps rm K Q c_M_middle_19 kc ks loc (v :: st) h) := gk_gf
theorem s_M_middle_19 {x : Int32} {l0 : Option Value} {l : eg_Lo} : wps rm K Q c_M_middle_19 kc ks (l0 :: some (.int x) :: l) (st) h = wps rm K Q c_M_middle_20 kc ks (l0 :: some (.int x) :: l) (.int x :: st) h := gk_iload rfl
theorem s_M_middle_20 {x : Nat} {i : Int32} : wps rm K Q c_M_middle_20 kc ks loc (.int i :: .ref (x + 1) :: st) h = eg_ia h x i (fun v => wps rm K Q c_M_middle_21 kc ks loc (.int v :: st) h) := gk_iaload
theorem s_M_middle_21 {x : Int32} : wps rm K Q c_M_middle_21 kc ks loc (.int x :: st) h = ((¬ x = 0 → K 32 kc ks loc st h) ∧ (x = 0 → wps rm K Q c_M_middle_24 kc ks loc (st) h)) := gk_if1_ne
theorem s_M_middle_24 {x : Nat} {l : eg_Lo} : wps rm K Q c_M_middle_24 kc ks (some (.ref x) :: l) (st) h = wps rm K Q c_M_middle_25 kc ks (some (.ref x) :: l) (.ref x :: st) h := gk_aload rfl
theorem s_M_middle_25  : wps rm K Q c_M_middle_25 kc ks loc (st) h = wps rm K Q c_M_middle_28 kc ks loc (.long (-1000000000000000006) :: st) h := gk_lc (by decide)
theorem s_M_middle_28  {a1 : Value} {x : Nat} : wps rm K Q c_M_middle_28 kc ks loc (a1 :: .ref (x + 1) :: st) h = (eg_cls h x 12 ∧ st.length ≤ 4 ∧ eg_Cs n_M_finding (.ref (x + 1) :: [a1]) h (fun v h9 => wps rm K Q c_M_middle_31 kc ks loc (v.toList ++ st) h9)) := eg_c1_1
theorem s_M_middle_31 {x : Int64} : wps rm K Q c_M_middle_31 kc ks loc ([.long x]) h = (kc = rm.cells ∧ Q (some (.long x)) h) := gk_lret
theorem s_M_middle_32 {x : Nat} {l : eg_Lo} : wps rm K Q c_M_middle_32 kc ks (some (.ref x) :: l) (st) h = wps rm K Q c_M_middle_33 kc ks (some (.ref x) :: l) (.ref x :: st) h := gk_aload rfl
theorem s_M_middle_33 {x : Nat} : wps rm K Q c_M_middle_33 kc ks loc (.ref (x + 1) :: st) h = eg_gf h x 12 7 (fun v => wps rm K Q c_M_middle_36 kc ks loc (v :: st) h) := gk_gf
theorem s_M_middle_36 {x : Int32} {l0 : Option Value} {l : eg_Lo} : wps rm K Q c_M_middle_36 kc ks (l0 :: some (.int x) :: l) (st) h = wps rm K Q c_M_middle_37 kc ks (l0 :: some (.int x) :: l) (.int x :: st) h := gk_iload rfl
theorem s_M_middle_37 {x : Nat} {i : Int32} : wps rm K Q c_M_middle_37 kc ks loc (.int i :: .ref (x + 1) :: st) h = eg_ia h x i (fun v => wps rm K Q c_M_middle_38 kc ks loc (.int v :: st) h) := gk_iaload
theorem s_M_middle_38  : wps rm K Q c_M_middle_38 kc ks loc (st) h = wps rm K Q c_M_middle_39 kc ks loc (.int (5) :: st) h := gk_ic (by decide)
theorem s_M_middle_39 {x y : Int32} : wps rm K Q c_M_middle_39 kc ks loc (.int y :: .int x :: st) h = ((¬ x = y → K 73 kc ks loc st h) ∧ (x = y → wps rm K Q c_M_middle_42 kc ks loc (st) h)) := gk_if2_ne
theorem s_M_middle_42 {x : Nat} {l : eg_Lo} : wps rm K Q c_M_middle_42 kc ks (some (.ref x) :: l) (st) h = wps rm K Q c_M_middle_43 kc ks (some (.ref x) :: l) (.ref x :: st) h := gk_aload rfl
theorem s_M_middle_43 {x : Nat} : wps rm K Q c_M_middle_43 kc ks loc (.ref (x + 1) :: st) h = eg_gf h x 12 13 (fun v => wps rm K Q c_M_middle_46 kc ks loc (v :: st) h) := gk_gf
theorem s_M_middle_46  : wps rm K Q c_M_middle_46 kc ks loc (st) h = wps rm K Q c_M_middle_47 kc ks loc (.int (4) :: st) h := gk_ic (by decide)
theorem s_M_middle_47 {x : Int32} {l0 : Option Value} {l : eg_Lo} : wps rm K Q c_M_middle_47 kc ks (l0 :: some (.int x) :: l) (st) h = wps rm K Q c_M_middle_48 kc ks (l0 :: some (.int x) :: l) (.int x :: st) h := gk_iload rfl
theorem s_M_middle_48 {x y : Int32} : wps rm K Q c_M_middle_48 kc ks loc (.int y :: .int x :: st) h = wps rm K Q c_M_middle_49 kc ks loc (.int (x * y) :: st) h := gk_imul
theorem s_M_middle_49 {x : Int32} {l0 l1 : Option Value} {l : eg_Lo} : wps rm K Q c_M_middle_49 kc ks (l0 :: l1 :: some (.int x) :: l) (st) h = wps rm K Q c_M_middle_50 kc ks (l0 :: l1 :: some (.int x) :: l) (.int x :: st) h := gk_iload rfl
theorem s_M_middle_50 {x : Int32} : wps rm K Q c_M_middle_50 kc ks loc (.int x :: st) h = ((x = 0 → K 57 kc ks loc st h) ∧ (¬ x = 0 → wps rm K Q c_M_middle_53 kc ks loc (st) h)) := gk_if1_eq
theorem s_M_middle_53  : wps rm K Q c_M_middle_53 kc ks loc (st) h = wps rm K Q c_M_middle_54 kc ks loc (.int (2) :: st) h := gk_ic (by decide)
theorem s_M_middle_54  : wps rm K Q c_M_middle_54 kc ks loc (st) h = K 58 kc ks loc st h := gk_goto
theorem s_M_middle_57  : wps rm K Q c_M_middle_57 kc ks loc (st) h = wps rm K Q c_M_middle_58 kc ks loc (.int (0) :: st) h := gk_ic (by decide)
theorem s_M_middle_58 {x y : Int32} : wps rm K Q c_M_middle_58 kc ks loc (.int y :: .int x :: st) h = wps rm K Q c_M_middle_59 kc ks loc (.int (x + y) :: st) h := gk_iadd
theorem s_M_middle_59 {x : Int32} {l0 l1 l2 : Option Value} {l : eg_Lo} : wps rm K Q c_M_middle_59 kc ks (l0 :: l1 :: l2 :: some (.int x) :: l) (st) h = wps rm K Q c_M_middle_60 kc ks (l0 :: l1 :: l2 :: some (.int x) :: l) (.int x :: st) h := gk_iload rfl
theorem s_M_middle_60 {x : Int32} : wps rm K Q c_M_middle_60 kc ks loc (.int x :: st) h = ((x = 0 → K 67 kc ks loc st h) ∧ (¬ x = 0 → wps rm K Q c_M_middle_63 kc ks loc (st) h)) := gk_if1_eq
theorem s_M_middle_63  : wps rm K Q c_M_middle_63 kc ks loc (st) h = wps rm K Q c_M_middle_64 kc ks loc (.int (1) :: st) h := gk_ic (by decide)
theorem s_M_middle_64  : wps rm K Q c_M_middle_64 kc ks loc (st) h = K 68 kc ks loc st h := gk_goto
theorem s_M_middle_67  : wps rm K Q c_M_middle_67 kc ks loc (st) h = wps rm K Q c_M_middle_68 kc ks loc (.int (0) :: st) h := gk_ic (by decide)
theorem s_M_middle_68 {x y : Int32} : wps rm K Q c_M_middle_68 kc ks loc (.int y :: .int x :: st) h = wps rm K Q c_M_middle_69 kc ks loc (.int (x + y) :: st) h := gk_iadd
theorem s_M_middle_69 {x : Nat} {i : Int32} : wps rm K Q c_M_middle_69 kc ks loc (.int i :: .ref (x + 1) :: st) h = eg_la h x i (fun v => wps rm K Q c_M_middle_70 kc ks loc (.long v :: st) h) := gk_laload
theorem s_M_middle_70  : wps rm K Q c_M_middle_70 kc ks loc (st) h = K 80 kc ks loc st h := gk_goto
theorem s_M_middle_73 {x : Nat} {l : eg_Lo} : wps rm K Q c_M_middle_73 kc ks (some (.ref x) :: l) (st) h = wps rm K Q c_M_middle_74 kc ks (some (.ref x) :: l) (.ref x :: st) h := gk_aload rfl
theorem s_M_middle_74  : wps rm K Q c_M_middle_74 kc ks loc (st) h = wps rm K Q c_M_middle_77 kc ks loc (.long (-1000000000000000004) :: st) h := gk_lc (by decide)
theorem s_M_middle_77  {a1 : Value} {x : Nat} : wps rm K Q c_M_middle_77 kc ks loc (a1 :: .ref (x + 1) :: st) h = (eg_cls h x 12 ∧ st.length ≤ 4 ∧ eg_Cs n_M_finding (.ref (x + 1) :: [a1]) h (fun v h9 => wps rm K Q c_M_middle_80 kc ks loc (v.toList ++ st) h9)) := eg_c1_1
theorem s_M_middle_80 {x : Int64} : wps rm K Q c_M_middle_80 kc ks loc ([.long x]) h = (kc = rm.cells ∧ Q (some (.long x)) h) := gk_lret
def T_M_middle : List (Nat × List eg_I) := [(15, c_M_middle_15), (32, c_M_middle_32), (57, c_M_middle_57), (58, c_M_middle_58), (67, c_M_middle_67), (68, c_M_middle_68), (73, c_M_middle_73), (80, c_M_middle_80)]
theorem j_M_middle_15 {R : Nat → Nat → Nat → eg_Lo → List Value → List eg_E → Prop} {f pc0 : Nat} : eg_run rm R Q T_M_middle (f + 1) 15 kc ks loc st h = wps rm (eg_run rm R Q T_M_middle f) Q c_M_middle_15 kc ks loc st h := rfl
theorem j_M_middle_32 {R : Nat → Nat → Nat → eg_Lo → List Value → List eg_E → Prop} {f pc0 : Nat} : eg_run rm R Q T_M_middle (f + 1) 32 kc ks loc st h = wps rm (eg_run rm R Q T_M_middle f) Q c_M_middle_32 kc ks loc st h := rfl
theorem j_M_middle_57 {R : Nat → Nat → Nat → eg_Lo → List Value → List eg_E → Prop} {f pc0 : Nat} : eg_run rm R Q T_M_middle (f + 1) 57 kc ks loc st h = wps rm (eg_run rm R Q T_M_middle f) Q c_M_middle_57 kc ks loc st h := rfl
theorem j_M_middle_58 {R : Nat → Nat → Nat → eg_Lo → List Value → List eg_E → Prop} {f pc0 : Nat} : eg_run rm R Q T_M_middle (f + 1) 58 kc ks loc st h = wps rm (eg_run rm R Q T_M_middle f) Q c_M_middle_58 kc ks loc st h := rfl
theorem j_M_middle_67 {R : Nat → Nat → Nat → eg_Lo → List Value → List eg_E → Prop} {f pc0 : Nat} : eg_run rm R Q T_M_middle (f + 1) 67 kc ks loc st h = wps rm (eg_run rm R Q T_M_middle f) Q c_M_middle_67 kc ks loc st h := rfl
theorem j_M_middle_68 {R : Nat → Nat → Nat → eg_Lo → List Value → List eg_E → Prop} {f pc0 : Nat} : eg_run rm R Q T_M_middle (f + 1) 68 kc ks loc st h = wps rm (eg_run rm R Q T_M_middle f) Q c_M_middle_68 kc ks loc st h := rfl
theorem j_M_middle_73 {R : Nat → Nat → Nat → eg_Lo → List Value → List eg_E → Prop} {f pc0 : Nat} : eg_run rm R Q T_M_middle (f + 1) 73 kc ks loc st h = wps rm (eg_run rm R Q T_M_middle f) Q c_M_middle_73 kc ks loc st h := rfl
theorem j_M_middle_80 {R : Nat → Nat → Nat → eg_Lo → List Value → List eg_E → Prop} {f pc0 : Nat} : eg_run rm R Q T_M_middle (f + 1) 80 kc ks loc st h = wps rm (eg_run rm R Q T_M_middle f) Q c_M_middle_80 kc ks loc st h := rfl
end
theorem y_M_middle_0 : eg_seq m_M_middle 0 c_M_middle_0 = true := by decide +kernel
theorem y_M_middle_15 : eg_seq m_M_middle 15 c_M_middle_15 = true := by decide +kernel
theorem y_M_middle_32 : eg_seq m_M_middle 32 c_M_middle_32 = true := by decide +kernel
theorem y_M_middle_57 : eg_seq m_M_middle 57 c_M_middle_57 = true := by decide +kernel
theorem y_M_middle_67 : eg_seq m_M_middle 67 c_M_middle_67 = true := by decide +kernel
theorem y_M_middle_73 : eg_seq m_M_middle 73 c_M_middle_73 = true := by decide +kernel
theorem q_M_middle : ∀ q ∈ T_M_middle, eg_seq m_M_middle q.1 q.2 = true := by
  intro q hq
  simp only [T_M_middle, List.mem_cons, List.not_mem_nil, or_false] at hq
  rcases hq with rfl | rfl | rfl | rfl | rfl | rfl | rfl | rfl
  · exact y_M_middle_15
  · exact y_M_middle_32
  · exact y_M_middle_57
  · exact (eg_seq_drop y_M_middle_57 1 : eg_seq m_M_middle 58 c_M_middle_58 = true)
  · exact y_M_middle_67
  · exact (eg_seq_drop y_M_middle_67 1 : eg_seq m_M_middle 68 c_M_middle_68 = true)
  · exact y_M_middle_73
  · exact (eg_seq_drop y_M_middle_73 3 : eg_seq m_M_middle 80 c_M_middle_80 = true)
theorem md_M_middle : eg_md n_M_middle = m_M_middle := rfl
theorem mn_M_middle : n_M_middle < 202 := Nat.le_of_ble_eq_true rfl
theorem b_M_middle {as : List Value} {h : List eg_E} {Q : Option Value → List eg_E → Prop} (hf : (eg_fl as).length ≤ 4) : wps (eg_rm m_M_middle) (eg_run (eg_rm m_M_middle) (eg_R m_M_middle Q (h.length + 0)) Q T_M_middle 10) Q c_M_middle_0 0 0 (eg_entry 4 as) [] h → eg_Runs n_M_middle as h Q := eg_begin2 md_M_middle mn_M_middle y_M_middle_0 q_M_middle hf
/-! ===== M_levelOf ===== -/
def z_M_levelOf_33 : List eg_I := [.inl (33, 0, .nop, 0, 0)]
def c_M_levelOf_62 : List eg_I := .inl (62, 1, .ireturn, 0, 0) :: []
def c_M_levelOf_60 : List eg_I := .inl (60, 2, .iload 4, 0, 0) :: c_M_levelOf_62
def c_M_levelOf_57 : List eg_I := .inl (57, 3, .goto (-24), 33, 0) :: []
def c_M_levelOf_54 : List eg_I := .inl (54, 3, .iinc 4 (1), 0, 0) :: c_M_levelOf_57
def c_M_levelOf_51 : List eg_I := .inl (51, 3, .ifCond .eq (9), 60, 0) :: c_M_levelOf_54
def c_M_levelOf_48 : List eg_I := .inr (48, 0, 192, n_M_isLess, 4, 12, 0, 0) :: c_M_levelOf_51
def c_M_levelOf_47 : List eg_I := .inl (47, 1, .laload, 0, 0) :: c_M_levelOf_48
def c_M_levelOf_46 : List eg_I := .inl (46, 1, .iload 1, 0, 0) :: c_M_levelOf_47
def c_M_levelOf_43 : List eg_I := .inl (43, 3, .getfield 45, 12, 11) :: c_M_levelOf_46
def c_M_levelOf_42 : List eg_I := .inl (42, 1, .aload 0, 0, 0) :: c_M_levelOf_43
def c_M_levelOf_41 : List eg_I := .inl (41, 1, .lload 2, 0, 0) :: c_M_levelOf_42
def c_M_levelOf_40 : List eg_I := .inl (40, 1, .sipush (1), 0, 0) :: c_M_levelOf_41
def c_M_levelOf_39 : List eg_I := .inl (39, 1, .lmul, 0, 0) :: c_M_levelOf_40
def c_M_levelOf_38 : List eg_I := .inl (38, 1, .i2l, 0, 0) :: c_M_levelOf_39
def c_M_levelOf_36 : List eg_I := .inl (36, 2, .iload 4, 0, 0) :: c_M_levelOf_38
def c_M_levelOf_35 : List eg_I := .inl (35, 1, .i2l, 0, 0) :: c_M_levelOf_36
def c_M_levelOf_33 : List eg_I := .inl (33, 2, .iload 4, 0, 0) :: c_M_levelOf_35
def c_M_levelOf_31 : List eg_I := .inl (31, 2, .istore 4, 0, 0) :: z_M_levelOf_33
def c_M_levelOf_30 : List eg_I := .inl (30, 1, .iconst (0), 0, 0) :: c_M_levelOf_31
def c_M_levelOf_29 : List eg_I := .inl (29, 1, .lstore 2, 0, 0) :: c_M_levelOf_30
def c_M_levelOf_28 : List eg_I := .inl (28, 1, .laload, 0, 0) :: c_M_levelOf_29
def c_M_levelOf_27 : List eg_I := .inl (27, 1, .iload 1, 0, 0) :: c_M_levelOf_28
def c_M_levelOf_24 : List eg_I := .inl (24, 3, .getfield 41, 12, 10) :: c_M_levelOf_27
def c_M_levelOf_23 : List eg_I := .inl (23, 1, .aload 0, 0, 0) :: c_M_levelOf_24
def c_M_levelOf_20 : List eg_I := .inl (20, 3, .goto (9), 29, 0) :: []
def c_M_levelOf_19 : List eg_I := .inl (19, 1, .lmul, 0, 0) :: c_M_levelOf_20
def c_M_levelOf_18 : List eg_I := .inl (18, 1, .laload, 0, 0) :: c_M_levelOf_19
def c_M_levelOf_17 : List eg_I := .inl (17, 1, .iload 1, 0, 0) :: c_M_levelOf_18
def c_M_levelOf_14 : List eg_I := .inl (14, 3, .getfield 41, 12, 10) :: c_M_levelOf_17
def c_M_levelOf_13 : List eg_I := .inl (13, 1, .aload 0, 0, 0) :: c_M_levelOf_14
def c_M_levelOf_10 : List eg_I := .inl (10, 3, .sipush (4), 204, 0) :: c_M_levelOf_13
def c_M_levelOf_7 : List eg_I := .inl (7, 3, .if_icmp .ne (16), 23, 0) :: c_M_levelOf_10
def c_M_levelOf_6 : List eg_I := .inl (6, 1, .iconst (5), 0, 0) :: c_M_levelOf_7
def c_M_levelOf_5 : List eg_I := .inl (5, 1, .iaload, 0, 0) :: c_M_levelOf_6
def c_M_levelOf_4 : List eg_I := .inl (4, 1, .iload 1, 0, 0) :: c_M_levelOf_5
def c_M_levelOf_1 : List eg_I := .inl (1, 3, .getfield 32, 12, 7) :: c_M_levelOf_4
def c_M_levelOf_0 : List eg_I := .inl (0, 1, .aload 0, 0, 0) :: c_M_levelOf_1
section
variable {rm : Room} {K : Nat → Nat → Nat → eg_Lo → List Value → List eg_E → Prop} {Q : Option Value → List eg_E → Prop} {kc ks : Nat} {loc : eg_Lo} {st : List Value} {h : List eg_E}
theorem s_M_levelOf_0 {x : Nat} {l : eg_Lo} : wps rm K Q c_M_levelOf_0 kc ks (some (.ref x) :: l) (st) h = wps rm K Q c_M_levelOf_1 kc ks (some (.ref x) :: l) (.ref x :: st) h := gk_aload rfl
theorem s_M_levelOf_1 {x : Nat} : wps rm K Q c_M_levelOf_1 kc ks loc (.ref (x + 1) :: st) h = eg_gf h x 12 7 (fun v => wps rm K Q c_M_levelOf_4 kc ks loc (v :: st) h) := gk_gf
theorem s_M_levelOf_4 {x : Int32} {l0 : Option Value} {l : eg_Lo} : wps rm K Q c_M_levelOf_4 kc ks (l0 :: some (.int x) :: l) (st) h = wps rm K Q c_M_levelOf_5 kc ks (l0 :: some (.int x) :: l) (.int x :: st) h := gk_iload rfl
theorem s_M_levelOf_5 {x : Nat} {i : Int32} : wps rm K Q c_M_levelOf_5 kc ks loc (.int i :: .ref (x + 1) :: st) h = eg_ia h x i (fun v => wps rm K Q c_M_levelOf_6 kc ks loc (.int v :: st) h) := gk_iaload
theorem s_M_levelOf_6  : wps rm K Q c_M_levelOf_6 kc ks loc (st) h = wps rm K Q c_M_levelOf_7 kc ks loc (.int (5) :: st) h := gk_ic (by decide)
theorem s_M_levelOf_7 {x y : Int32} : wps rm K Q c_M_levelOf_7 kc ks loc (.int y :: .int x :: st) h = ((¬ x = y → K 23 kc ks loc st h) ∧ (x = y → wps rm K Q c_M_levelOf_10 kc ks loc (st) h)) := gk_if2_ne
theorem s_M_levelOf_10  : wps rm K Q c_M_levelOf_10 kc ks loc (st) h = wps rm K Q c_M_levelOf_13 kc ks loc (.long (4) :: st) h := gk_lc (by decide)
theorem s_M_levelOf_13 {x : Nat} {l : eg_Lo} : wps rm K Q c_M_levelOf_13 kc ks (some (.ref x) :: l) (st) h = wps rm K Q c_M_levelOf_14 kc ks (some (.ref x) :: l) (.ref x :: st) h := gk_aload rfl
theorem s_M_levelOf_14 {x : Nat} : wps rm K Q c_M_levelOf_14 kc ks loc (.ref (x + 1) :: st) h = eg_gf h x 12 10 (fun v => wps rm K Q c_M_levelOf_17 kc ks loc (v :: st) h) := gk_gf
theorem s_M_levelOf_17 {x : Int32} {l0 : Option Value} {l : eg_Lo} : wps rm K Q c_M_levelOf_17 kc ks (l0 :: some (.int x) :: l) (st) h = wps rm K Q c_M_levelOf_18 kc ks (l0 :: some (.int x) :: l) (.int x :: st) h := gk_iload rfl
theorem s_M_levelOf_18 {x : Nat} {i : Int32} : wps rm K Q c_M_levelOf_18 kc ks loc (.int i :: .ref (x + 1) :: st) h = eg_la h x i (fun v => wps rm K Q c_M_levelOf_19 kc ks loc (.long v :: st) h) := gk_laload
theorem s_M_levelOf_19 {x y : Int64} : wps rm K Q c_M_levelOf_19 kc ks loc (.long y :: .long x :: st) h = wps rm K Q c_M_levelOf_20 kc ks loc (.long (x * y) :: st) h := gk_lmul
theorem s_M_levelOf_20  : wps rm K Q c_M_levelOf_20 kc ks loc (st) h = K 29 kc ks loc st h := gk_goto
theorem s_M_levelOf_23 {x : Nat} {l : eg_Lo} : wps rm K Q c_M_levelOf_23 kc ks (some (.ref x) :: l) (st) h = wps rm K Q c_M_levelOf_24 kc ks (some (.ref x) :: l) (.ref x :: st) h := gk_aload rfl
theorem s_M_levelOf_24 {x : Nat} : wps rm K Q c_M_levelOf_24 kc ks loc (.ref (x + 1) :: st) h = eg_gf h x 12 10 (fun v => wps rm K Q c_M_levelOf_27 kc ks loc (v :: st) h) := gk_gf
theorem s_M_levelOf_27 {x : Int32} {l0 : Option Value} {l : eg_Lo} : wps rm K Q c_M_levelOf_27 kc ks (l0 :: some (.int x) :: l) (st) h = wps rm K Q c_M_levelOf_28 kc ks (l0 :: some (.int x) :: l) (.int x :: st) h := gk_iload rfl
theorem s_M_levelOf_28 {x : Nat} {i : Int32} : wps rm K Q c_M_levelOf_28 kc ks loc (.int i :: .ref (x + 1) :: st) h = eg_la h x i (fun v => wps rm K Q c_M_levelOf_29 kc ks loc (.long v :: st) h) := gk_laload
theorem s_M_levelOf_29 {x : Int64} : wps rm K Q c_M_levelOf_29 kc ks loc (.long x :: st) h = wps rm K Q c_M_levelOf_30 kc ks (eg_set2 loc 2 (.long x)) (st) h := gk_lstore
theorem s_M_levelOf_30  : wps rm K Q c_M_levelOf_30 kc ks loc (st) h = wps rm K Q c_M_levelOf_31 kc ks loc (.int (0) :: st) h := gk_ic (by decide)
theorem s_M_levelOf_31 {x : Int32} : wps rm K Q c_M_levelOf_31 kc ks loc (.int x :: st) h = wps rm K Q z_M_levelOf_33 kc ks (eg_set1 loc 4 (.int x)) (st) h := gk_istore
theorem s_M_levelOf_33 {x : Int32} {l0 l1 l2 l3 : Option Value} {l : eg_Lo} : wps rm K Q c_M_levelOf_33 kc ks (l0 :: l1 :: l2 :: l3 :: some (.int x) :: l) (st) h = wps rm K Q c_M_levelOf_35 kc ks (l0 :: l1 :: l2 :: l3 :: some (.int x) :: l) (.int x :: st) h := gk_iload rfl
theorem s_M_levelOf_35 {x : Int32} : wps rm K Q c_M_levelOf_35 kc ks loc (.int x :: st) h = wps rm K Q c_M_levelOf_36 kc ks loc (.long (x.toInt64) :: st) h := gk_i2l
theorem s_M_levelOf_36 {x : Int32} {l0 l1 l2 l3 : Option Value} {l : eg_Lo} : wps rm K Q c_M_levelOf_36 kc ks (l0 :: l1 :: l2 :: l3 :: some (.int x) :: l) (st) h = wps rm K Q c_M_levelOf_38 kc ks (l0 :: l1 :: l2 :: l3 :: some (.int x) :: l) (.int x :: st) h := gk_iload rfl
theorem s_M_levelOf_38 {x : Int32} : wps rm K Q c_M_levelOf_38 kc ks loc (.int x :: st) h = wps rm K Q c_M_levelOf_39 kc ks loc (.long (x.toInt64) :: st) h := gk_i2l
theorem s_M_levelOf_39 {x y : Int64} : wps rm K Q c_M_levelOf_39 kc ks loc (.long y :: .long x :: st) h = wps rm K Q c_M_levelOf_40 kc ks loc (.long (x * y) :: st) h := gk_lmul
theorem s_M_levelOf_40  : wps rm K Q c_M_levelOf_40 kc ks loc (st) h = wps rm K Q c_M_levelOf_41 kc ks loc (.long (1) :: st) h := gk_lc (by decide)
theorem s_M_levelOf_41 {x : Int64} {l0 l1 : Option Value} {l : eg_Lo} : wps rm K Q c_M_levelOf_41 kc ks (l0 :: l1 :: some (.long x) :: l) (st) h = wps rm K Q c_M_levelOf_42 kc ks (l0 :: l1 :: some (.long x) :: l) (.long x :: st) h := gk_lload rfl
theorem s_M_levelOf_42 {x : Nat} {l : eg_Lo} : wps rm K Q c_M_levelOf_42 kc ks (some (.ref x) :: l) (st) h = wps rm K Q c_M_levelOf_43 kc ks (some (.ref x) :: l) (.ref x :: st) h := gk_aload rfl
theorem s_M_levelOf_43 {x : Nat} : wps rm K Q c_M_levelOf_43 kc ks loc (.ref (x + 1) :: st) h = eg_gf h x 12 11 (fun v => wps rm K Q c_M_levelOf_46 kc ks loc (v :: st) h) := gk_gf
theorem s_M_levelOf_46 {x : Int32} {l0 : Option Value} {l : eg_Lo} : wps rm K Q c_M_levelOf_46 kc ks (l0 :: some (.int x) :: l) (st) h = wps rm K Q c_M_levelOf_47 kc ks (l0 :: some (.int x) :: l) (.int x :: st) h := gk_iload rfl
theorem s_M_levelOf_47 {x : Nat} {i : Int32} : wps rm K Q c_M_levelOf_47 kc ks loc (.int i :: .ref (x + 1) :: st) h = eg_la h x i (fun v => wps rm K Q c_M_levelOf_48 kc ks loc (.long v :: st) h) := gk_laload
theorem s_M_levelOf_48  {a1 : Value} {a2 : Value} {a3 : Value} {a4 : Value} : wps rm K Q c_M_levelOf_48 kc ks loc (a4 :: a3 :: a2 :: a1 :: st) h = (st.length ≤ 4 ∧ eg_Cs n_M_isLess [a1, a2, a3, a4] h (fun v h9 => wps rm K Q c_M_levelOf_51 kc ks loc (v.toList ++ st) h9)) := eg_c0_4
theorem s_M_levelOf_51 {x : Int32} : wps rm K Q c_M_levelOf_51 kc ks loc (.int x :: st) h = ((x = 0 → K 60 kc ks loc st h) ∧ (¬ x = 0 → wps rm K Q c_M_levelOf_54 kc ks loc (st) h)) := gk_if1_eq
theorem s_M_levelOf_54 {x : Int32} {l0 l1 l2 l3 : Option Value} {lz : eg_Lo} : wps rm K Q c_M_levelOf_54 kc ks (l0 :: l1 :: l2 :: l3 :: some (.int x) :: lz) (st) h = wps rm K Q c_M_levelOf_57 kc ks (eg_set1 (l0 :: l1 :: l2 :: l3 :: some (.int x) :: lz) 4 (.int (x + (1)))) (st) h := gk_iinc rfl (by decide)
theorem s_M_levelOf_57  : wps rm K Q c_M_levelOf_57 kc ks loc (st) h = K 33 kc ks loc st h := gk_goto
theorem s_M_levelOf_60 {x : Int32} {l0 l1 l2 l3 : Option Value} {l : eg_Lo} : wps rm K Q c_M_levelOf_60 kc ks (l0 :: l1 :: l2 :: l3 :: some (.int x) :: l) (st) h = wps rm K Q c_M_levelOf_62 kc ks (l0 :: l1 :: l2 :: l3 :: some (.int x) :: l) (.int x :: st) h := gk_iload rfl
theorem s_M_levelOf_62 {x : Int32} : wps rm K Q c_M_levelOf_62 kc ks loc ([.int x]) h = (kc = rm.cells ∧ (0 = 1 → x = 0 ∨ x = 1) ∧ Q (some (.int x)) h) := gk_iret
theorem sz_M_levelOf_33 : wps rm K Q z_M_levelOf_33 kc ks loc st h = K 33 kc ks loc st h := gk_nop
def T_M_levelOf : List (Nat × List eg_I) := [(23, c_M_levelOf_23), (29, c_M_levelOf_29), (60, c_M_levelOf_60)]
theorem j_M_levelOf_23 {R : Nat → Nat → Nat → eg_Lo → List Value → List eg_E → Prop} {f pc0 : Nat} : eg_run rm R Q T_M_levelOf (f + 1) 23 kc ks loc st h = wps rm (eg_run rm R Q T_M_levelOf f) Q c_M_levelOf_23 kc ks loc st h := rfl
theorem j_M_levelOf_29 {R : Nat → Nat → Nat → eg_Lo → List Value → List eg_E → Prop} {f pc0 : Nat} : eg_run rm R Q T_M_levelOf (f + 1) 29 kc ks loc st h = wps rm (eg_run rm R Q T_M_levelOf f) Q c_M_levelOf_29 kc ks loc st h := rfl
theorem j_M_levelOf_60 {R : Nat → Nat → Nat → eg_Lo → List Value → List eg_E → Prop} {f pc0 : Nat} : eg_run rm R Q T_M_levelOf (f + 1) 60 kc ks loc st h = wps rm (eg_run rm R Q T_M_levelOf f) Q c_M_levelOf_60 kc ks loc st h := rfl
theorem j_M_levelOf_33 {R : Nat → Nat → Nat → eg_Lo → List Value → List eg_E → Prop} {f pc0 : Nat} : eg_run rm R Q T_M_levelOf (f + 1) 33 kc ks loc st h = R 33 kc ks loc st h := rfl
end
theorem y_M_levelOf_0 : eg_seq m_M_levelOf 0 c_M_levelOf_0 = true := by decide +kernel
theorem y_M_levelOf_23 : eg_seq m_M_levelOf 23 c_M_levelOf_23 = true := by decide +kernel
theorem y_M_levelOf_33 : eg_seq m_M_levelOf 33 c_M_levelOf_33 = true := by decide +kernel
theorem y_M_levelOf_60 : eg_seq m_M_levelOf 60 c_M_levelOf_60 = true := by decide +kernel
theorem q_M_levelOf : ∀ q ∈ T_M_levelOf, eg_seq m_M_levelOf q.1 q.2 = true := by
  intro q hq
  simp only [T_M_levelOf, List.mem_cons, List.not_mem_nil, or_false] at hq
  rcases hq with rfl | rfl | rfl
  · exact y_M_levelOf_23
  · exact (eg_seq_drop y_M_levelOf_23 4 : eg_seq m_M_levelOf 29 c_M_levelOf_29 = true)
  · exact y_M_levelOf_60
theorem md_M_levelOf : eg_md n_M_levelOf = m_M_levelOf := rfl
theorem mn_M_levelOf : n_M_levelOf < 202 := Nat.le_of_ble_eq_true rfl
theorem b_M_levelOf {as : List Value} {h : List eg_E} {Q : Option Value → List eg_E → Prop} (hf : (eg_fl as).length ≤ 5) : wps (eg_rm m_M_levelOf) (eg_run (eg_rm m_M_levelOf) (eg_R m_M_levelOf Q (h.length + 0)) Q T_M_levelOf 5) Q c_M_levelOf_0 0 0 (eg_entry 5 as) [] h → eg_Runs n_M_levelOf as h Q := eg_begin2 md_M_levelOf mn_M_levelOf y_M_levelOf_0 q_M_levelOf hf
theorem p_M_levelOf_33 {Q : Option Value → List eg_E → Prop} {n0 kc ks : Nat} {loc : eg_Lo} {st : List Value} {h : List eg_E} : wps (eg_rm m_M_levelOf) (eg_run (eg_rm m_M_levelOf) (eg_R m_M_levelOf Q n0) Q T_M_levelOf 5) Q c_M_levelOf_33 kc ks loc st h → eg_R m_M_levelOf Q n0 33 kc ks loc st h := eg_go2 y_M_levelOf_33 q_M_levelOf
/-! ===== M_ask ===== -/
def c_M_ask_59 : List eg_I := .inl (59, 1, .lreturn, 0, 0) :: []
def c_M_ask_58 : List eg_I := .inl (58, 1, .sipush (0), 0, 0) :: c_M_ask_59
def c_M_ask_55 : List eg_I := .inl (55, 3, .goto (4), 59, 0) :: []
def c_M_ask_54 : List eg_I := .inl (54, 1, .sipush (1), 0, 0) :: c_M_ask_55
def c_M_ask_51 : List eg_I := .inl (51, 3, .if_icmp .gt (7), 58, 0) :: c_M_ask_54
def c_M_ask_50 : List eg_I := .inl (50, 1, .iload 2, 0, 0) :: c_M_ask_51
def c_M_ask_47 : List eg_I := .inr (47, 1, 270, n_M_levelOf, 1, 12, 0, 0) :: c_M_ask_50
def c_M_ask_46 : List eg_I := .inl (46, 1, .iload 1, 0, 0) :: c_M_ask_47
def c_M_ask_45 : List eg_I := .inl (45, 1, .aload 0, 0, 0) :: c_M_ask_46
def c_M_ask_42 : List eg_I := .inl (42, 3, .goto (17), 59, 0) :: []
def c_M_ask_39 : List eg_I := .inr (39, 1, 112, n_M_finding, 1, 12, 0, 0) :: c_M_ask_42
def c_M_ask_36 : List eg_I := .inl (36, 3, .sipush (-1000000000000000006), 138, 0) :: c_M_ask_39
def c_M_ask_35 : List eg_I := .inl (35, 1, .aload 0, 0, 0) :: c_M_ask_36
def c_M_ask_32 : List eg_I := .inl (32, 3, .ifCond .ne (13), 45, 0) :: c_M_ask_35
def c_M_ask_31 : List eg_I := .inl (31, 1, .iaload, 0, 0) :: c_M_ask_32
def c_M_ask_30 : List eg_I := .inl (30, 1, .iload 1, 0, 0) :: c_M_ask_31
def c_M_ask_27 : List eg_I := .inl (27, 3, .getfield 32, 12, 7) :: c_M_ask_30
def c_M_ask_26 : List eg_I := .inl (26, 1, .aload 0, 0, 0) :: c_M_ask_27
def c_M_ask_25 : List eg_I := .inl (25, 1, .lreturn, 0, 0) :: []
def c_M_ask_22 : List eg_I := .inr (22, 1, 112, n_M_finding, 1, 12, 0, 0) :: c_M_ask_25
def c_M_ask_19 : List eg_I := .inl (19, 3, .sipush (-1000000000000000001), 110, 0) :: c_M_ask_22
def c_M_ask_18 : List eg_I := .inl (18, 1, .aload 0, 0, 0) :: c_M_ask_19
def c_M_ask_15 : List eg_I := .inl (15, 3, .ifCond .ne (11), 26, 0) :: c_M_ask_18
def c_M_ask_12 : List eg_I := .inr (12, 0, 95, n_M_isIn, 3, 12, 0, 0) :: c_M_ask_15
def c_M_ask_9 : List eg_I := .inl (9, 3, .iconst (2000), 0, 0) :: c_M_ask_12
def c_M_ask_8 : List eg_I := .inl (8, 1, .iconst (0), 0, 0) :: c_M_ask_9
def c_M_ask_7 : List eg_I := .inl (7, 1, .iload 2, 0, 0) :: c_M_ask_8
def c_M_ask_4 : List eg_I := .inl (4, 3, .ifCond .eq (14), 18, 0) :: c_M_ask_7
def c_M_ask_1 : List eg_I := .inr (1, 0, 255, n_M_isFigure, 1, 12, 0, 0) :: c_M_ask_4
def c_M_ask_0 : List eg_I := .inl (0, 1, .iload 1, 0, 0) :: c_M_ask_1
section
variable {rm : Room} {K : Nat → Nat → Nat → eg_Lo → List Value → List eg_E → Prop} {Q : Option Value → List eg_E → Prop} {kc ks : Nat} {loc : eg_Lo} {st : List Value} {h : List eg_E}
theorem s_M_ask_0 {x : Int32} {l0 : Option Value} {l : eg_Lo} : wps rm K Q c_M_ask_0 kc ks (l0 :: some (.int x) :: l) (st) h = wps rm K Q c_M_ask_1 kc ks (l0 :: some (.int x) :: l) (.int x :: st) h := gk_iload rfl
theorem s_M_ask_1  {a1 : Value} : wps rm K Q c_M_ask_1 kc ks loc (a1 :: st) h = (st.length ≤ 4 ∧ eg_Cs n_M_isFigure [a1] h (fun v h9 => wps rm K Q c_M_ask_4 kc ks loc (v.toList ++ st) h9)) := eg_c0_1
theorem s_M_ask_4 {x : Int32} : wps rm K Q c_M_ask_4 kc ks loc (.int x :: st) h = ((x = 0 → K 18 kc ks loc st h) ∧ (¬ x = 0 → wps rm K Q c_M_ask_7 kc ks loc (st) h)) := gk_if1_eq
theorem s_M_ask_7 {x : Int32} {l0 l1 : Option Value} {l : eg_Lo} : wps rm K Q c_M_ask_7 kc ks (l0 :: l1 :: some (.int x) :: l) (st) h = wps rm K Q c_M_ask_8 kc ks (l0 :: l1 :: some (.int x) :: l) (.int x :: st) h := gk_iload rfl
theorem s_M_ask_8  : wps rm K Q c_M_ask_8 kc ks loc (st) h = wps rm K Q c_M_ask_9 kc ks loc (.int (0) :: st) h := gk_ic (by decide)
theorem s_M_ask_9  : wps rm K Q c_M_ask_9 kc ks loc (st) h = wps rm K Q c_M_ask_12 kc ks loc (.int (2000) :: st) h := gk_ic (by decide)
theorem s_M_ask_12  {a1 : Value} {a2 : Value} {a3 : Value} : wps rm K Q c_M_ask_12 kc ks loc (a3 :: a2 :: a1 :: st) h = (st.length ≤ 4 ∧ eg_Cs n_M_isIn [a1, a2, a3] h (fun v h9 => wps rm K Q c_M_ask_15 kc ks loc (v.toList ++ st) h9)) := eg_c0_3
theorem s_M_ask_15 {x : Int32} : wps rm K Q c_M_ask_15 kc ks loc (.int x :: st) h = ((¬ x = 0 → K 26 kc ks loc st h) ∧ (x = 0 → wps rm K Q c_M_ask_18 kc ks loc (st) h)) := gk_if1_ne
theorem s_M_ask_18 {x : Nat} {l : eg_Lo} : wps rm K Q c_M_ask_18 kc ks (some (.ref x) :: l) (st) h = wps rm K Q c_M_ask_19 kc ks (some (.ref x) :: l) (.ref x :: st) h := gk_aload rfl
theorem s_M_ask_19  : wps rm K Q c_M_ask_19 kc ks loc (st) h = wps rm K Q c_M_ask_22 kc ks loc (.long (-1000000000000000001) :: st) h := gk_lc (by decide)
theorem s_M_ask_22  {a1 : Value} {x : Nat} : wps rm K Q c_M_ask_22 kc ks loc (a1 :: .ref (x + 1) :: st) h = (eg_cls h x 12 ∧ st.length ≤ 4 ∧ eg_Cs n_M_finding (.ref (x + 1) :: [a1]) h (fun v h9 => wps rm K Q c_M_ask_25 kc ks loc (v.toList ++ st) h9)) := eg_c1_1
theorem s_M_ask_25 {x : Int64} : wps rm K Q c_M_ask_25 kc ks loc ([.long x]) h = (kc = rm.cells ∧ Q (some (.long x)) h) := gk_lret
theorem s_M_ask_26 {x : Nat} {l : eg_Lo} : wps rm K Q c_M_ask_26 kc ks (some (.ref x) :: l) (st) h = wps rm K Q c_M_ask_27 kc ks (some (.ref x) :: l) (.ref x :: st) h := gk_aload rfl
theorem s_M_ask_27 {x : Nat} : wps rm K Q c_M_ask_27 kc ks loc (.ref (x + 1) :: st) h = eg_gf h x 12 7 (fun v => wps rm K Q c_M_ask_30 kc ks loc (v :: st) h) := gk_gf
theorem s_M_ask_30 {x : Int32} {l0 : Option Value} {l : eg_Lo} : wps rm K Q c_M_ask_30 kc ks (l0 :: some (.int x) :: l) (st) h = wps rm K Q c_M_ask_31 kc ks (l0 :: some (.int x) :: l) (.int x :: st) h := gk_iload rfl
theorem s_M_ask_31 {x : Nat} {i : Int32} : wps rm K Q c_M_ask_31 kc ks loc (.int i :: .ref (x + 1) :: st) h = eg_ia h x i (fun v => wps rm K Q c_M_ask_32 kc ks loc (.int v :: st) h) := gk_iaload
theorem s_M_ask_32 {x : Int32} : wps rm K Q c_M_ask_32 kc ks loc (.int x :: st) h = ((¬ x = 0 → K 45 kc ks loc st h) ∧ (x = 0 → wps rm K Q c_M_ask_35 kc ks loc (st) h)) := gk_if1_ne
theorem s_M_ask_35 {x : Nat} {l : eg_Lo} : wps rm K Q c_M_ask_35 kc ks (some (.ref x) :: l) (st) h = wps rm K Q c_M_ask_36 kc ks (some (.ref x) :: l) (.ref x :: st) h := gk_aload rfl
theorem s_M_ask_36  : wps rm K Q c_M_ask_36 kc ks loc (st) h = wps rm K Q c_M_ask_39 kc ks loc (.long (-1000000000000000006) :: st) h := gk_lc (by decide)
theorem s_M_ask_39  {a1 : Value} {x : Nat} : wps rm K Q c_M_ask_39 kc ks loc (a1 :: .ref (x + 1) :: st) h = (eg_cls h x 12 ∧ st.length ≤ 4 ∧ eg_Cs n_M_finding (.ref (x + 1) :: [a1]) h (fun v h9 => wps rm K Q c_M_ask_42 kc ks loc (v.toList ++ st) h9)) := eg_c1_1
theorem s_M_ask_42  : wps rm K Q c_M_ask_42 kc ks loc (st) h = K 59 kc ks loc st h := gk_goto
theorem s_M_ask_45 {x : Nat} {l : eg_Lo} : wps rm K Q c_M_ask_45 kc ks (some (.ref x) :: l) (st) h = wps rm K Q c_M_ask_46 kc ks (some (.ref x) :: l) (.ref x :: st) h := gk_aload rfl
theorem s_M_ask_46 {x : Int32} {l0 : Option Value} {l : eg_Lo} : wps rm K Q c_M_ask_46 kc ks (l0 :: some (.int x) :: l) (st) h = wps rm K Q c_M_ask_47 kc ks (l0 :: some (.int x) :: l) (.int x :: st) h := gk_iload rfl
theorem s_M_ask_47  {a1 : Value} {x : Nat} : wps rm K Q c_M_ask_47 kc ks loc (a1 :: .ref (x + 1) :: st) h = (eg_cls h x 12 ∧ st.length ≤ 4 ∧ eg_Cs n_M_levelOf (.ref (x + 1) :: [a1]) h (fun v h9 => wps rm K Q c_M_ask_50 kc ks loc (v.toList ++ st) h9)) := eg_c1_1
theorem s_M_ask_50 {x : Int32} {l0 l1 : Option Value} {l : eg_Lo} : wps rm K Q c_M_ask_50 kc ks (l0 :: l1 :: some (.int x) :: l) (st) h = wps rm K Q c_M_ask_51 kc ks (l0 :: l1 :: some (.int x) :: l) (.int x :: st) h := gk_iload rfl
theorem s_M_ask_51 {x y : Int32} : wps rm K Q c_M_ask_51 kc ks loc (.int y :: .int x :: st) h = ((y < x → K 58 kc ks loc st h) ∧ (¬ y < x → wps rm K Q c_M_ask_54 kc ks loc (st) h)) := gk_if2_gt
theorem s_M_ask_54  : wps rm K Q c_M_ask_54 kc ks loc (st) h = wps rm K Q c_M_ask_55 kc ks loc (.long (1) :: st) h := gk_lc (by decide)
theorem s_M_ask_55  : wps rm K Q c_M_ask_55 kc ks loc (st) h = K 59 kc ks loc st h := gk_goto
theorem s_M_ask_58  : wps rm K Q c_M_ask_58 kc ks loc (st) h = wps rm K Q c_M_ask_59 kc ks loc (.long (0) :: st) h := gk_lc (by decide)
theorem s_M_ask_59 {x : Int64} : wps rm K Q c_M_ask_59 kc ks loc ([.long x]) h = (kc = rm.cells ∧ Q (some (.long x)) h) := gk_lret
def T_M_ask : List (Nat × List eg_I) := [(18, c_M_ask_18), (26, c_M_ask_26), (45, c_M_ask_45), (58, c_M_ask_58), (59, c_M_ask_59)]
theorem j_M_ask_18 {R : Nat → Nat → Nat → eg_Lo → List Value → List eg_E → Prop} {f pc0 : Nat} : eg_run rm R Q T_M_ask (f + 1) 18 kc ks loc st h = wps rm (eg_run rm R Q T_M_ask f) Q c_M_ask_18 kc ks loc st h := rfl
theorem j_M_ask_26 {R : Nat → Nat → Nat → eg_Lo → List Value → List eg_E → Prop} {f pc0 : Nat} : eg_run rm R Q T_M_ask (f + 1) 26 kc ks loc st h = wps rm (eg_run rm R Q T_M_ask f) Q c_M_ask_26 kc ks loc st h := rfl
theorem j_M_ask_45 {R : Nat → Nat → Nat → eg_Lo → List Value → List eg_E → Prop} {f pc0 : Nat} : eg_run rm R Q T_M_ask (f + 1) 45 kc ks loc st h = wps rm (eg_run rm R Q T_M_ask f) Q c_M_ask_45 kc ks loc st h := rfl
theorem j_M_ask_58 {R : Nat → Nat → Nat → eg_Lo → List Value → List eg_E → Prop} {f pc0 : Nat} : eg_run rm R Q T_M_ask (f + 1) 58 kc ks loc st h = wps rm (eg_run rm R Q T_M_ask f) Q c_M_ask_58 kc ks loc st h := rfl
theorem j_M_ask_59 {R : Nat → Nat → Nat → eg_Lo → List Value → List eg_E → Prop} {f pc0 : Nat} : eg_run rm R Q T_M_ask (f + 1) 59 kc ks loc st h = wps rm (eg_run rm R Q T_M_ask f) Q c_M_ask_59 kc ks loc st h := rfl
end
theorem y_M_ask_0 : eg_seq m_M_ask 0 c_M_ask_0 = true := by decide +kernel
theorem y_M_ask_26 : eg_seq m_M_ask 26 c_M_ask_26 = true := by decide +kernel
theorem y_M_ask_45 : eg_seq m_M_ask 45 c_M_ask_45 = true := by decide +kernel
theorem y_M_ask_58 : eg_seq m_M_ask 58 c_M_ask_58 = true := by decide +kernel
theorem q_M_ask : ∀ q ∈ T_M_ask, eg_seq m_M_ask q.1 q.2 = true := by
  intro q hq
  simp only [T_M_ask, List.mem_cons, List.not_mem_nil, or_false] at hq
  rcases hq with rfl | rfl | rfl | rfl | rfl
  · exact (eg_seq_drop y_M_ask_0 8 : eg_seq m_M_ask 18 c_M_ask_18 = true)
  · exact y_M_ask_26
  · exact y_M_ask_45
  · exact y_M_ask_58
  · exact (eg_seq_drop y_M_ask_58 1 : eg_seq m_M_ask 59 c_M_ask_59 = true)
theorem md_M_ask : eg_md n_M_ask = m_M_ask := rfl
theorem mn_M_ask : n_M_ask < 202 := Nat.le_of_ble_eq_true rfl
theorem b_M_ask {as : List Value} {h : List eg_E} {Q : Option Value → List eg_E → Prop} (hf : (eg_fl as).length ≤ 3) : wps (eg_rm m_M_ask) (eg_run (eg_rm m_M_ask) (eg_R m_M_ask Q (h.length + 0)) Q T_M_ask 7) Q c_M_ask_0 0 0 (eg_entry 3 as) [] h → eg_Runs n_M_ask as h Q := eg_begin2 md_M_ask mn_M_ask y_M_ask_0 q_M_ask hf
/-! ===== M_level ===== -/
def c_M_level_40 : List eg_I := .inl (40, 1, .lreturn, 0, 0) :: []
def c_M_level_39 : List eg_I := .inl (39, 1, .i2l, 0, 0) :: c_M_level_40
def c_M_level_36 : List eg_I := .inr (36, 1, 270, n_M_levelOf, 1, 12, 0, 0) :: c_M_level_39
def c_M_level_35 : List eg_I := .inl (35, 1, .iload 1, 0, 0) :: c_M_level_36
def c_M_level_34 : List eg_I := .inl (34, 1, .aload 0, 0, 0) :: c_M_level_35
def c_M_level_31 : List eg_I := .inl (31, 3, .goto (9), 40, 0) :: []
def c_M_level_28 : List eg_I := .inr (28, 1, 112, n_M_finding, 1, 12, 0, 0) :: c_M_level_31
def c_M_level_25 : List eg_I := .inl (25, 3, .sipush (-1000000000000000006), 138, 0) :: c_M_level_28
def c_M_level_24 : List eg_I := .inl (24, 1, .aload 0, 0, 0) :: c_M_level_25
def c_M_level_21 : List eg_I := .inl (21, 3, .ifCond .ne (13), 34, 0) :: c_M_level_24
def c_M_level_20 : List eg_I := .inl (20, 1, .iaload, 0, 0) :: c_M_level_21
def c_M_level_19 : List eg_I := .inl (19, 1, .iload 1, 0, 0) :: c_M_level_20
def c_M_level_16 : List eg_I := .inl (16, 3, .getfield 32, 12, 7) :: c_M_level_19
def c_M_level_15 : List eg_I := .inl (15, 1, .aload 0, 0, 0) :: c_M_level_16
def c_M_level_14 : List eg_I := .inl (14, 1, .lreturn, 0, 0) :: []
def c_M_level_11 : List eg_I := .inr (11, 1, 112, n_M_finding, 1, 12, 0, 0) :: c_M_level_14
def c_M_level_8 : List eg_I := .inl (8, 3, .sipush (-1000000000000000001), 110, 0) :: c_M_level_11
def c_M_level_7 : List eg_I := .inl (7, 1, .aload 0, 0, 0) :: c_M_level_8
def c_M_level_4 : List eg_I := .inl (4, 3, .ifCond .ne (11), 15, 0) :: c_M_level_7
def c_M_level_1 : List eg_I := .inr (1, 0, 255, n_M_isFigure, 1, 12, 0, 0) :: c_M_level_4
def c_M_level_0 : List eg_I := .inl (0, 1, .iload 1, 0, 0) :: c_M_level_1
section
variable {rm : Room} {K : Nat → Nat → Nat → eg_Lo → List Value → List eg_E → Prop} {Q : Option Value → List eg_E → Prop} {kc ks : Nat} {loc : eg_Lo} {st : List Value} {h : List eg_E}
theorem s_M_level_0 {x : Int32} {l0 : Option Value} {l : eg_Lo} : wps rm K Q c_M_level_0 kc ks (l0 :: some (.int x) :: l) (st) h = wps rm K Q c_M_level_1 kc ks (l0 :: some (.int x) :: l) (.int x :: st) h := gk_iload rfl
theorem s_M_level_1  {a1 : Value} : wps rm K Q c_M_level_1 kc ks loc (a1 :: st) h = (st.length ≤ 4 ∧ eg_Cs n_M_isFigure [a1] h (fun v h9 => wps rm K Q c_M_level_4 kc ks loc (v.toList ++ st) h9)) := eg_c0_1
theorem s_M_level_4 {x : Int32} : wps rm K Q c_M_level_4 kc ks loc (.int x :: st) h = ((¬ x = 0 → K 15 kc ks loc st h) ∧ (x = 0 → wps rm K Q c_M_level_7 kc ks loc (st) h)) := gk_if1_ne
theorem s_M_level_7 {x : Nat} {l : eg_Lo} : wps rm K Q c_M_level_7 kc ks (some (.ref x) :: l) (st) h = wps rm K Q c_M_level_8 kc ks (some (.ref x) :: l) (.ref x :: st) h := gk_aload rfl
theorem s_M_level_8  : wps rm K Q c_M_level_8 kc ks loc (st) h = wps rm K Q c_M_level_11 kc ks loc (.long (-1000000000000000001) :: st) h := gk_lc (by decide)
theorem s_M_level_11  {a1 : Value} {x : Nat} : wps rm K Q c_M_level_11 kc ks loc (a1 :: .ref (x + 1) :: st) h = (eg_cls h x 12 ∧ st.length ≤ 4 ∧ eg_Cs n_M_finding (.ref (x + 1) :: [a1]) h (fun v h9 => wps rm K Q c_M_level_14 kc ks loc (v.toList ++ st) h9)) := eg_c1_1
theorem s_M_level_14 {x : Int64} : wps rm K Q c_M_level_14 kc ks loc ([.long x]) h = (kc = rm.cells ∧ Q (some (.long x)) h) := gk_lret
theorem s_M_level_15 {x : Nat} {l : eg_Lo} : wps rm K Q c_M_level_15 kc ks (some (.ref x) :: l) (st) h = wps rm K Q c_M_level_16 kc ks (some (.ref x) :: l) (.ref x :: st) h := gk_aload rfl
theorem s_M_level_16 {x : Nat} : wps rm K Q c_M_level_16 kc ks loc (.ref (x + 1) :: st) h = eg_gf h x 12 7 (fun v => wps rm K Q c_M_level_19 kc ks loc (v :: st) h) := gk_gf
theorem s_M_level_19 {x : Int32} {l0 : Option Value} {l : eg_Lo} : wps rm K Q c_M_level_19 kc ks (l0 :: some (.int x) :: l) (st) h = wps rm K Q c_M_level_20 kc ks (l0 :: some (.int x) :: l) (.int x :: st) h := gk_iload rfl
theorem s_M_level_20 {x : Nat} {i : Int32} : wps rm K Q c_M_level_20 kc ks loc (.int i :: .ref (x + 1) :: st) h = eg_ia h x i (fun v => wps rm K Q c_M_level_21 kc ks loc (.int v :: st) h) := gk_iaload
theorem s_M_level_21 {x : Int32} : wps rm K Q c_M_level_21 kc ks loc (.int x :: st) h = ((¬ x = 0 → K 34 kc ks loc st h) ∧ (x = 0 → wps rm K Q c_M_level_24 kc ks loc (st) h)) := gk_if1_ne
theorem s_M_level_24 {x : Nat} {l : eg_Lo} : wps rm K Q c_M_level_24 kc ks (some (.ref x) :: l) (st) h = wps rm K Q c_M_level_25 kc ks (some (.ref x) :: l) (.ref x :: st) h := gk_aload rfl
theorem s_M_level_25  : wps rm K Q c_M_level_25 kc ks loc (st) h = wps rm K Q c_M_level_28 kc ks loc (.long (-1000000000000000006) :: st) h := gk_lc (by decide)
theorem s_M_level_28  {a1 : Value} {x : Nat} : wps rm K Q c_M_level_28 kc ks loc (a1 :: .ref (x + 1) :: st) h = (eg_cls h x 12 ∧ st.length ≤ 4 ∧ eg_Cs n_M_finding (.ref (x + 1) :: [a1]) h (fun v h9 => wps rm K Q c_M_level_31 kc ks loc (v.toList ++ st) h9)) := eg_c1_1
theorem s_M_level_31  : wps rm K Q c_M_level_31 kc ks loc (st) h = K 40 kc ks loc st h := gk_goto
theorem s_M_level_34 {x : Nat} {l : eg_Lo} : wps rm K Q c_M_level_34 kc ks (some (.ref x) :: l) (st) h = wps rm K Q c_M_level_35 kc ks (some (.ref x) :: l) (.ref x :: st) h := gk_aload rfl
theorem s_M_level_35 {x : Int32} {l0 : Option Value} {l : eg_Lo} : wps rm K Q c_M_level_35 kc ks (l0 :: some (.int x) :: l) (st) h = wps rm K Q c_M_level_36 kc ks (l0 :: some (.int x) :: l) (.int x :: st) h := gk_iload rfl
theorem s_M_level_36  {a1 : Value} {x : Nat} : wps rm K Q c_M_level_36 kc ks loc (a1 :: .ref (x + 1) :: st) h = (eg_cls h x 12 ∧ st.length ≤ 4 ∧ eg_Cs n_M_levelOf (.ref (x + 1) :: [a1]) h (fun v h9 => wps rm K Q c_M_level_39 kc ks loc (v.toList ++ st) h9)) := eg_c1_1
theorem s_M_level_39 {x : Int32} : wps rm K Q c_M_level_39 kc ks loc (.int x :: st) h = wps rm K Q c_M_level_40 kc ks loc (.long (x.toInt64) :: st) h := gk_i2l
theorem s_M_level_40 {x : Int64} : wps rm K Q c_M_level_40 kc ks loc ([.long x]) h = (kc = rm.cells ∧ Q (some (.long x)) h) := gk_lret
def T_M_level : List (Nat × List eg_I) := [(15, c_M_level_15), (34, c_M_level_34), (40, c_M_level_40)]
theorem j_M_level_15 {R : Nat → Nat → Nat → eg_Lo → List Value → List eg_E → Prop} {f pc0 : Nat} : eg_run rm R Q T_M_level (f + 1) 15 kc ks loc st h = wps rm (eg_run rm R Q T_M_level f) Q c_M_level_15 kc ks loc st h := rfl
theorem j_M_level_34 {R : Nat → Nat → Nat → eg_Lo → List Value → List eg_E → Prop} {f pc0 : Nat} : eg_run rm R Q T_M_level (f + 1) 34 kc ks loc st h = wps rm (eg_run rm R Q T_M_level f) Q c_M_level_34 kc ks loc st h := rfl
theorem j_M_level_40 {R : Nat → Nat → Nat → eg_Lo → List Value → List eg_E → Prop} {f pc0 : Nat} : eg_run rm R Q T_M_level (f + 1) 40 kc ks loc st h = wps rm (eg_run rm R Q T_M_level f) Q c_M_level_40 kc ks loc st h := rfl
end
theorem y_M_level_0 : eg_seq m_M_level 0 c_M_level_0 = true := by decide +kernel
theorem y_M_level_15 : eg_seq m_M_level 15 c_M_level_15 = true := by decide +kernel
theorem y_M_level_34 : eg_seq m_M_level 34 c_M_level_34 = true := by decide +kernel
theorem q_M_level : ∀ q ∈ T_M_level, eg_seq m_M_level q.1 q.2 = true := by
  intro q hq
  simp only [T_M_level, List.mem_cons, List.not_mem_nil, or_false] at hq
  rcases hq with rfl | rfl | rfl
  · exact y_M_level_15
  · exact y_M_level_34
  · exact (eg_seq_drop y_M_level_34 4 : eg_seq m_M_level 40 c_M_level_40 = true)
theorem md_M_level : eg_md n_M_level = m_M_level := rfl
theorem mn_M_level : n_M_level < 202 := Nat.le_of_ble_eq_true rfl
theorem b_M_level {as : List Value} {h : List eg_E} {Q : Option Value → List eg_E → Prop} (hf : (eg_fl as).length ≤ 2) : wps (eg_rm m_M_level) (eg_run (eg_rm m_M_level) (eg_R m_M_level Q (h.length + 0)) Q T_M_level 5) Q c_M_level_0 0 0 (eg_entry 2 as) [] h → eg_Runs n_M_level as h Q := eg_begin2 md_M_level mn_M_level y_M_level_0 q_M_level hf
/-! ===== M_more ===== -/
def c_M_more_133 : List eg_I := .inl (133, 1, .lreturn, 0, 0) :: []
def c_M_more_132 : List eg_I := .inl (132, 1, .sipush (0), 0, 0) :: c_M_more_133
def c_M_more_129 : List eg_I := .inl (129, 3, .goto (4), 133, 0) :: []
def c_M_more_128 : List eg_I := .inl (128, 1, .sipush (1), 0, 0) :: c_M_more_129
def c_M_more_125 : List eg_I := .inl (125, 3, .if_icmp .gt (7), 132, 0) :: c_M_more_128
def c_M_more_124 : List eg_I := .inl (124, 1, .iadd, 0, 0) :: c_M_more_125
def c_M_more_123 : List eg_I := .inl (123, 1, .iconst (0), 0, 0) :: c_M_more_124
def c_M_more_120 : List eg_I := .inl (120, 3, .goto (4), 124, 0) :: []
def c_M_more_118 : List eg_I := .inl (118, 2, .iload 5, 0, 0) :: c_M_more_120
def c_M_more_115 : List eg_I := .inl (115, 3, .ifCond .le (8), 123, 0) :: c_M_more_118
def c_M_more_113 : List eg_I := .inl (113, 2, .iload 5, 0, 0) :: c_M_more_115
def c_M_more_112 : List eg_I := .inl (112, 1, .iload 2, 0, 0) :: c_M_more_113
def c_M_more_109 : List eg_I := .inr (109, 1, 270, n_M_levelOf, 1, 12, 0, 0) :: c_M_more_112
def c_M_more_108 : List eg_I := .inl (108, 1, .iload 1, 0, 0) :: c_M_more_109
def c_M_more_107 : List eg_I := .inl (107, 1, .aload 0, 0, 0) :: c_M_more_108
def c_M_more_105 : List eg_I := .inl (105, 2, .istore 5, 0, 0) :: c_M_more_107
def c_M_more_104 : List eg_I := .inl (104, 1, .isub, 0, 0) :: c_M_more_105
def c_M_more_101 : List eg_I := .inr (101, 1, 270, n_M_levelOf, 1, 12, 0, 0) :: c_M_more_104
def c_M_more_100 : List eg_I := .inl (100, 1, .iload 3, 0, 0) :: c_M_more_101
def c_M_more_99 : List eg_I := .inl (99, 1, .aload 0, 0, 0) :: c_M_more_100
def c_M_more_97 : List eg_I := .inl (97, 2, .iload 4, 0, 0) :: c_M_more_99
def c_M_more_96 : List eg_I := .inl (96, 1, .lreturn, 0, 0) :: []
def c_M_more_93 : List eg_I := .inr (93, 1, 112, n_M_finding, 1, 12, 0, 0) :: c_M_more_96
def c_M_more_90 : List eg_I := .inl (90, 3, .sipush (-1000000000000000004), 147, 0) :: c_M_more_93
def c_M_more_89 : List eg_I := .inl (89, 1, .aload 0, 0, 0) :: c_M_more_90
def c_M_more_86 : List eg_I := .inl (86, 3, .if_icmp .eq (11), 97, 0) :: c_M_more_89
def c_M_more_85 : List eg_I := .inl (85, 1, .iconst (5), 0, 0) :: c_M_more_86
def c_M_more_84 : List eg_I := .inl (84, 1, .iaload, 0, 0) :: c_M_more_85
def c_M_more_83 : List eg_I := .inl (83, 1, .iload 3, 0, 0) :: c_M_more_84
def c_M_more_80 : List eg_I := .inl (80, 3, .getfield 32, 12, 7) :: c_M_more_83
def c_M_more_79 : List eg_I := .inl (79, 1, .aload 0, 0, 0) :: c_M_more_80
def c_M_more_76 : List eg_I := .inl (76, 3, .ifCond .eq (13), 89, 0) :: c_M_more_79
def c_M_more_73 : List eg_I := .inr (73, 1, 267, n_M_isFlat, 1, 12, 0, 0) :: c_M_more_76
def c_M_more_72 : List eg_I := .inl (72, 1, .iload 1, 0, 0) :: c_M_more_73
def c_M_more_71 : List eg_I := .inl (71, 1, .aload 0, 0, 0) :: c_M_more_72
def c_M_more_70 : List eg_I := .inl (70, 1, .lreturn, 0, 0) :: []
def c_M_more_67 : List eg_I := .inr (67, 1, 112, n_M_finding, 1, 12, 0, 0) :: c_M_more_70
def c_M_more_64 : List eg_I := .inl (64, 3, .sipush (-1000000000000000006), 138, 0) :: c_M_more_67
def c_M_more_63 : List eg_I := .inl (63, 1, .aload 0, 0, 0) :: c_M_more_64
def c_M_more_60 : List eg_I := .inl (60, 3, .ifCond .ne (11), 71, 0) :: c_M_more_63
def c_M_more_59 : List eg_I := .inl (59, 1, .iaload, 0, 0) :: c_M_more_60
def c_M_more_58 : List eg_I := .inl (58, 1, .iload 3, 0, 0) :: c_M_more_59
def c_M_more_55 : List eg_I := .inl (55, 3, .getfield 32, 12, 7) :: c_M_more_58
def c_M_more_54 : List eg_I := .inl (54, 1, .aload 0, 0, 0) :: c_M_more_55
def c_M_more_51 : List eg_I := .inl (51, 3, .ifCond .eq (12), 63, 0) :: c_M_more_54
def c_M_more_50 : List eg_I := .inl (50, 1, .iaload, 0, 0) :: c_M_more_51
def c_M_more_49 : List eg_I := .inl (49, 1, .iload 1, 0, 0) :: c_M_more_50
def c_M_more_46 : List eg_I := .inl (46, 3, .getfield 32, 12, 7) :: c_M_more_49
def c_M_more_45 : List eg_I := .inl (45, 1, .aload 0, 0, 0) :: c_M_more_46
def c_M_more_44 : List eg_I := .inl (44, 1, .lreturn, 0, 0) :: []
def c_M_more_41 : List eg_I := .inr (41, 1, 112, n_M_finding, 1, 12, 0, 0) :: c_M_more_44
def c_M_more_38 : List eg_I := .inl (38, 3, .sipush (-1000000000000000001), 110, 0) :: c_M_more_41
def c_M_more_37 : List eg_I := .inl (37, 1, .aload 0, 0, 0) :: c_M_more_38
def c_M_more_34 : List eg_I := .inl (34, 3, .ifCond .ne (11), 45, 0) :: c_M_more_37
def c_M_more_31 : List eg_I := .inr (31, 0, 95, n_M_isIn, 3, 12, 0, 0) :: c_M_more_34
def c_M_more_28 : List eg_I := .inl (28, 3, .iconst (2000), 0, 0) :: c_M_more_31
def c_M_more_27 : List eg_I := .inl (27, 1, .iconst (0), 0, 0) :: c_M_more_28
def c_M_more_25 : List eg_I := .inl (25, 2, .iload 4, 0, 0) :: c_M_more_27
def c_M_more_22 : List eg_I := .inl (22, 3, .ifCond .eq (15), 37, 0) :: c_M_more_25
def c_M_more_19 : List eg_I := .inr (19, 0, 95, n_M_isIn, 3, 12, 0, 0) :: c_M_more_22
def c_M_more_16 : List eg_I := .inl (16, 3, .iconst (2000), 0, 0) :: c_M_more_19
def c_M_more_15 : List eg_I := .inl (15, 1, .iconst (0), 0, 0) :: c_M_more_16
def c_M_more_14 : List eg_I := .inl (14, 1, .iload 2, 0, 0) :: c_M_more_15
def c_M_more_11 : List eg_I := .inl (11, 3, .ifCond .eq (26), 37, 0) :: c_M_more_14
def c_M_more_8 : List eg_I := .inr (8, 0, 255, n_M_isFigure, 1, 12, 0, 0) :: c_M_more_11
def c_M_more_7 : List eg_I := .inl (7, 1, .iload 3, 0, 0) :: c_M_more_8
def c_M_more_4 : List eg_I := .inl (4, 3, .ifCond .eq (33), 37, 0) :: c_M_more_7
def c_M_more_1 : List eg_I := .inr (1, 0, 255, n_M_isFigure, 1, 12, 0, 0) :: c_M_more_4
def c_M_more_0 : List eg_I := .inl (0, 1, .iload 1, 0, 0) :: c_M_more_1
section
variable {rm : Room} {K : Nat → Nat → Nat → eg_Lo → List Value → List eg_E → Prop} {Q : Option Value → List eg_E → Prop} {kc ks : Nat} {loc : eg_Lo} {st : List Value} {h : List eg_E}
theorem s_M_more_0 {x : Int32} {l0 : Option Value} {l : eg_Lo} : wps rm K Q c_M_more_0 kc ks (l0 :: some (.int x) :: l) (st) h = wps rm K Q c_M_more_1 kc ks (l0 :: some (.int x) :: l) (.int x :: st) h := gk_iload rfl
theorem s_M_more_1  {a1 : Value} : wps rm K Q c_M_more_1 kc ks loc (a1 :: st) h = (st.length ≤ 4 ∧ eg_Cs n_M_isFigure [a1] h (fun v h9 => wps rm K Q c_M_more_4 kc ks loc (v.toList ++ st) h9)) := eg_c0_1
theorem s_M_more_4 {x : Int32} : wps rm K Q c_M_more_4 kc ks loc (.int x :: st) h = ((x = 0 → K 37 kc ks loc st h) ∧ (¬ x = 0 → wps rm K Q c_M_more_7 kc ks loc (st) h)) := gk_if1_eq
theorem s_M_more_7 {x : Int32} {l0 l1 l2 : Option Value} {l : eg_Lo} : wps rm K Q c_M_more_7 kc ks (l0 :: l1 :: l2 :: some (.int x) :: l) (st) h = wps rm K Q c_M_more_8 kc ks (l0 :: l1 :: l2 :: some (.int x) :: l) (.int x :: st) h := gk_iload rfl
theorem s_M_more_8  {a1 : Value} : wps rm K Q c_M_more_8 kc ks loc (a1 :: st) h = (st.length ≤ 4 ∧ eg_Cs n_M_isFigure [a1] h (fun v h9 => wps rm K Q c_M_more_11 kc ks loc (v.toList ++ st) h9)) := eg_c0_1
theorem s_M_more_11 {x : Int32} : wps rm K Q c_M_more_11 kc ks loc (.int x :: st) h = ((x = 0 → K 37 kc ks loc st h) ∧ (¬ x = 0 → wps rm K Q c_M_more_14 kc ks loc (st) h)) := gk_if1_eq
theorem s_M_more_14 {x : Int32} {l0 l1 : Option Value} {l : eg_Lo} : wps rm K Q c_M_more_14 kc ks (l0 :: l1 :: some (.int x) :: l) (st) h = wps rm K Q c_M_more_15 kc ks (l0 :: l1 :: some (.int x) :: l) (.int x :: st) h := gk_iload rfl
theorem s_M_more_15  : wps rm K Q c_M_more_15 kc ks loc (st) h = wps rm K Q c_M_more_16 kc ks loc (.int (0) :: st) h := gk_ic (by decide)
theorem s_M_more_16  : wps rm K Q c_M_more_16 kc ks loc (st) h = wps rm K Q c_M_more_19 kc ks loc (.int (2000) :: st) h := gk_ic (by decide)
theorem s_M_more_19  {a1 : Value} {a2 : Value} {a3 : Value} : wps rm K Q c_M_more_19 kc ks loc (a3 :: a2 :: a1 :: st) h = (st.length ≤ 4 ∧ eg_Cs n_M_isIn [a1, a2, a3] h (fun v h9 => wps rm K Q c_M_more_22 kc ks loc (v.toList ++ st) h9)) := eg_c0_3
theorem s_M_more_22 {x : Int32} : wps rm K Q c_M_more_22 kc ks loc (.int x :: st) h = ((x = 0 → K 37 kc ks loc st h) ∧ (¬ x = 0 → wps rm K Q c_M_more_25 kc ks loc (st) h)) := gk_if1_eq
theorem s_M_more_25 {x : Int32} {l0 l1 l2 l3 : Option Value} {l : eg_Lo} : wps rm K Q c_M_more_25 kc ks (l0 :: l1 :: l2 :: l3 :: some (.int x) :: l) (st) h = wps rm K Q c_M_more_27 kc ks (l0 :: l1 :: l2 :: l3 :: some (.int x) :: l) (.int x :: st) h := gk_iload rfl
theorem s_M_more_27  : wps rm K Q c_M_more_27 kc ks loc (st) h = wps rm K Q c_M_more_28 kc ks loc (.int (0) :: st) h := gk_ic (by decide)
theorem s_M_more_28  : wps rm K Q c_M_more_28 kc ks loc (st) h = wps rm K Q c_M_more_31 kc ks loc (.int (2000) :: st) h := gk_ic (by decide)
theorem s_M_more_31  {a1 : Value} {a2 : Value} {a3 : Value} : wps rm K Q c_M_more_31 kc ks loc (a3 :: a2 :: a1 :: st) h = (st.length ≤ 4 ∧ eg_Cs n_M_isIn [a1, a2, a3] h (fun v h9 => wps rm K Q c_M_more_34 kc ks loc (v.toList ++ st) h9)) := eg_c0_3
theorem s_M_more_34 {x : Int32} : wps rm K Q c_M_more_34 kc ks loc (.int x :: st) h = ((¬ x = 0 → K 45 kc ks loc st h) ∧ (x = 0 → wps rm K Q c_M_more_37 kc ks loc (st) h)) := gk_if1_ne
theorem s_M_more_37 {x : Nat} {l : eg_Lo} : wps rm K Q c_M_more_37 kc ks (some (.ref x) :: l) (st) h = wps rm K Q c_M_more_38 kc ks (some (.ref x) :: l) (.ref x :: st) h := gk_aload rfl
theorem s_M_more_38  : wps rm K Q c_M_more_38 kc ks loc (st) h = wps rm K Q c_M_more_41 kc ks loc (.long (-1000000000000000001) :: st) h := gk_lc (by decide)
theorem s_M_more_41  {a1 : Value} {x : Nat} : wps rm K Q c_M_more_41 kc ks loc (a1 :: .ref (x + 1) :: st) h = (eg_cls h x 12 ∧ st.length ≤ 4 ∧ eg_Cs n_M_finding (.ref (x + 1) :: [a1]) h (fun v h9 => wps rm K Q c_M_more_44 kc ks loc (v.toList ++ st) h9)) := eg_c1_1
theorem s_M_more_44 {x : Int64} : wps rm K Q c_M_more_44 kc ks loc ([.long x]) h = (kc = rm.cells ∧ Q (some (.long x)) h) := gk_lret
theorem s_M_more_45 {x : Nat} {l : eg_Lo} : wps rm K Q c_M_more_45 kc ks (some (.ref x) :: l) (st) h = wps rm K Q c_M_more_46 kc ks (some (.ref x) :: l) (.ref x :: st) h := gk_aload rfl
theorem s_M_more_46 {x : Nat} : wps rm K Q c_M_more_46 kc ks loc (.ref (x + 1) :: st) h = eg_gf h x 12 7 (fun v => wps rm K Q c_M_more_49 kc ks loc (v :: st) h) := gk_gf
theorem s_M_more_49 {x : Int32} {l0 : Option Value} {l : eg_Lo} : wps rm K Q c_M_more_49 kc ks (l0 :: some (.int x) :: l) (st) h = wps rm K Q c_M_more_50 kc ks (l0 :: some (.int x) :: l) (.int x :: st) h := gk_iload rfl
theorem s_M_more_50 {x : Nat} {i : Int32} : wps rm K Q c_M_more_50 kc ks loc (.int i :: .ref (x + 1) :: st) h = eg_ia h x i (fun v => wps rm K Q c_M_more_51 kc ks loc (.int v :: st) h) := gk_iaload
theorem s_M_more_51 {x : Int32} : wps rm K Q c_M_more_51 kc ks loc (.int x :: st) h = ((x = 0 → K 63 kc ks loc st h) ∧ (¬ x = 0 → wps rm K Q c_M_more_54 kc ks loc (st) h)) := gk_if1_eq
theorem s_M_more_54 {x : Nat} {l : eg_Lo} : wps rm K Q c_M_more_54 kc ks (some (.ref x) :: l) (st) h = wps rm K Q c_M_more_55 kc ks (some (.ref x) :: l) (.ref x :: st) h := gk_aload rfl
theorem s_M_more_55 {x : Nat} : wps rm K Q c_M_more_55 kc ks loc (.ref (x + 1) :: st) h = eg_gf h x 12 7 (fun v => wps rm K Q c_M_more_58 kc ks loc (v :: st) h) := gk_gf
theorem s_M_more_58 {x : Int32} {l0 l1 l2 : Option Value} {l : eg_Lo} : wps rm K Q c_M_more_58 kc ks (l0 :: l1 :: l2 :: some (.int x) :: l) (st) h = wps rm K Q c_M_more_59 kc ks (l0 :: l1 :: l2 :: some (.int x) :: l) (.int x :: st) h := gk_iload rfl
theorem s_M_more_59 {x : Nat} {i : Int32} : wps rm K Q c_M_more_59 kc ks loc (.int i :: .ref (x + 1) :: st) h = eg_ia h x i (fun v => wps rm K Q c_M_more_60 kc ks loc (.int v :: st) h) := gk_iaload
theorem s_M_more_60 {x : Int32} : wps rm K Q c_M_more_60 kc ks loc (.int x :: st) h = ((¬ x = 0 → K 71 kc ks loc st h) ∧ (x = 0 → wps rm K Q c_M_more_63 kc ks loc (st) h)) := gk_if1_ne
theorem s_M_more_63 {x : Nat} {l : eg_Lo} : wps rm K Q c_M_more_63 kc ks (some (.ref x) :: l) (st) h = wps rm K Q c_M_more_64 kc ks (some (.ref x) :: l) (.ref x :: st) h := gk_aload rfl
theorem s_M_more_64  : wps rm K Q c_M_more_64 kc ks loc (st) h = wps rm K Q c_M_more_67 kc ks loc (.long (-1000000000000000006) :: st) h := gk_lc (by decide)
theorem s_M_more_67  {a1 : Value} {x : Nat} : wps rm K Q c_M_more_67 kc ks loc (a1 :: .ref (x + 1) :: st) h = (eg_cls h x 12 ∧ st.length ≤ 4 ∧ eg_Cs n_M_finding (.ref (x + 1) :: [a1]) h (fun v h9 => wps rm K Q c_M_more_70 kc ks loc (v.toList ++ st) h9)) := eg_c1_1
theorem s_M_more_70 {x : Int64} : wps rm K Q c_M_more_70 kc ks loc ([.long x]) h = (kc = rm.cells ∧ Q (some (.long x)) h) := gk_lret
theorem s_M_more_71 {x : Nat} {l : eg_Lo} : wps rm K Q c_M_more_71 kc ks (some (.ref x) :: l) (st) h = wps rm K Q c_M_more_72 kc ks (some (.ref x) :: l) (.ref x :: st) h := gk_aload rfl
theorem s_M_more_72 {x : Int32} {l0 : Option Value} {l : eg_Lo} : wps rm K Q c_M_more_72 kc ks (l0 :: some (.int x) :: l) (st) h = wps rm K Q c_M_more_73 kc ks (l0 :: some (.int x) :: l) (.int x :: st) h := gk_iload rfl
theorem s_M_more_73  {a1 : Value} {x : Nat} : wps rm K Q c_M_more_73 kc ks loc (a1 :: .ref (x + 1) :: st) h = (eg_cls h x 12 ∧ st.length ≤ 4 ∧ eg_Cs n_M_isFlat (.ref (x + 1) :: [a1]) h (fun v h9 => wps rm K Q c_M_more_76 kc ks loc (v.toList ++ st) h9)) := eg_c1_1
theorem s_M_more_76 {x : Int32} : wps rm K Q c_M_more_76 kc ks loc (.int x :: st) h = ((x = 0 → K 89 kc ks loc st h) ∧ (¬ x = 0 → wps rm K Q c_M_more_79 kc ks loc (st) h)) := gk_if1_eq
theorem s_M_more_79 {x : Nat} {l : eg_Lo} : wps rm K Q c_M_more_79 kc ks (some (.ref x) :: l) (st) h = wps rm K Q c_M_more_80 kc ks (some (.ref x) :: l) (.ref x :: st) h := gk_aload rfl
theorem s_M_more_80 {x : Nat} : wps rm K Q c_M_more_80 kc ks loc (.ref (x + 1) :: st) h = eg_gf h x 12 7 (fun v => wps rm K Q c_M_more_83 kc ks loc (v :: st) h) := gk_gf
theorem s_M_more_83 {x : Int32} {l0 l1 l2 : Option Value} {l : eg_Lo} : wps rm K Q c_M_more_83 kc ks (l0 :: l1 :: l2 :: some (.int x) :: l) (st) h = wps rm K Q c_M_more_84 kc ks (l0 :: l1 :: l2 :: some (.int x) :: l) (.int x :: st) h := gk_iload rfl
theorem s_M_more_84 {x : Nat} {i : Int32} : wps rm K Q c_M_more_84 kc ks loc (.int i :: .ref (x + 1) :: st) h = eg_ia h x i (fun v => wps rm K Q c_M_more_85 kc ks loc (.int v :: st) h) := gk_iaload
theorem s_M_more_85  : wps rm K Q c_M_more_85 kc ks loc (st) h = wps rm K Q c_M_more_86 kc ks loc (.int (5) :: st) h := gk_ic (by decide)
theorem s_M_more_86 {x y : Int32} : wps rm K Q c_M_more_86 kc ks loc (.int y :: .int x :: st) h = ((x = y → K 97 kc ks loc st h) ∧ (¬ x = y → wps rm K Q c_M_more_89 kc ks loc (st) h)) := gk_if2_eq
theorem s_M_more_89 {x : Nat} {l : eg_Lo} : wps rm K Q c_M_more_89 kc ks (some (.ref x) :: l) (st) h = wps rm K Q c_M_more_90 kc ks (some (.ref x) :: l) (.ref x :: st) h := gk_aload rfl
theorem s_M_more_90  : wps rm K Q c_M_more_90 kc ks loc (st) h = wps rm K Q c_M_more_93 kc ks loc (.long (-1000000000000000004) :: st) h := gk_lc (by decide)
theorem s_M_more_93  {a1 : Value} {x : Nat} : wps rm K Q c_M_more_93 kc ks loc (a1 :: .ref (x + 1) :: st) h = (eg_cls h x 12 ∧ st.length ≤ 4 ∧ eg_Cs n_M_finding (.ref (x + 1) :: [a1]) h (fun v h9 => wps rm K Q c_M_more_96 kc ks loc (v.toList ++ st) h9)) := eg_c1_1
theorem s_M_more_96 {x : Int64} : wps rm K Q c_M_more_96 kc ks loc ([.long x]) h = (kc = rm.cells ∧ Q (some (.long x)) h) := gk_lret
theorem s_M_more_97 {x : Int32} {l0 l1 l2 l3 : Option Value} {l : eg_Lo} : wps rm K Q c_M_more_97 kc ks (l0 :: l1 :: l2 :: l3 :: some (.int x) :: l) (st) h = wps rm K Q c_M_more_99 kc ks (l0 :: l1 :: l2 :: l3 :: some (.int x) :: l) (.int x :: st) h := gk_iload rfl
theorem s_M_more_99 {x : Nat} {l : eg_Lo} : wps rm K Q c_M_more_99 kc ks (some (.ref x) :: l) (st) h = wps rm K Q c_M_more_100 kc ks (some (.ref x) :: l) (.ref x :: st) h := gk_aload rfl
theorem s_M_more_100 {x : Int32} {l0 l1 l2 : Option Value} {l : eg_Lo} : wps rm K Q c_M_more_100 kc ks (l0 :: l1 :: l2 :: some (.int x) :: l) (st) h = wps rm K Q c_M_more_101 kc ks (l0 :: l1 :: l2 :: some (.int x) :: l) (.int x :: st) h := gk_iload rfl
theorem s_M_more_101  {a1 : Value} {x : Nat} : wps rm K Q c_M_more_101 kc ks loc (a1 :: .ref (x + 1) :: st) h = (eg_cls h x 12 ∧ st.length ≤ 4 ∧ eg_Cs n_M_levelOf (.ref (x + 1) :: [a1]) h (fun v h9 => wps rm K Q c_M_more_104 kc ks loc (v.toList ++ st) h9)) := eg_c1_1
theorem s_M_more_104 {x y : Int32} : wps rm K Q c_M_more_104 kc ks loc (.int y :: .int x :: st) h = wps rm K Q c_M_more_105 kc ks loc (.int (x - y) :: st) h := gk_isub
theorem s_M_more_105 {x : Int32} : wps rm K Q c_M_more_105 kc ks loc (.int x :: st) h = wps rm K Q c_M_more_107 kc ks (eg_set1 loc 5 (.int x)) (st) h := gk_istore
theorem s_M_more_107 {x : Nat} {l : eg_Lo} : wps rm K Q c_M_more_107 kc ks (some (.ref x) :: l) (st) h = wps rm K Q c_M_more_108 kc ks (some (.ref x) :: l) (.ref x :: st) h := gk_aload rfl
theorem s_M_more_108 {x : Int32} {l0 : Option Value} {l : eg_Lo} : wps rm K Q c_M_more_108 kc ks (l0 :: some (.int x) :: l) (st) h = wps rm K Q c_M_more_109 kc ks (l0 :: some (.int x) :: l) (.int x :: st) h := gk_iload rfl
theorem s_M_more_109  {a1 : Value} {x : Nat} : wps rm K Q c_M_more_109 kc ks loc (a1 :: .ref (x + 1) :: st) h = (eg_cls h x 12 ∧ st.length ≤ 4 ∧ eg_Cs n_M_levelOf (.ref (x + 1) :: [a1]) h (fun v h9 => wps rm K Q c_M_more_112 kc ks loc (v.toList ++ st) h9)) := eg_c1_1
theorem s_M_more_112 {x : Int32} {l0 l1 : Option Value} {l : eg_Lo} : wps rm K Q c_M_more_112 kc ks (l0 :: l1 :: some (.int x) :: l) (st) h = wps rm K Q c_M_more_113 kc ks (l0 :: l1 :: some (.int x) :: l) (.int x :: st) h := gk_iload rfl
theorem s_M_more_113 {x : Int32} {l0 l1 l2 l3 l4 : Option Value} {l : eg_Lo} : wps rm K Q c_M_more_113 kc ks (l0 :: l1 :: l2 :: l3 :: l4 :: some (.int x) :: l) (st) h = wps rm K Q c_M_more_115 kc ks (l0 :: l1 :: l2 :: l3 :: l4 :: some (.int x) :: l) (.int x :: st) h := gk_iload rfl
theorem s_M_more_115 {x : Int32} : wps rm K Q c_M_more_115 kc ks loc (.int x :: st) h = ((x ≤ 0 → K 123 kc ks loc st h) ∧ (¬ x ≤ 0 → wps rm K Q c_M_more_118 kc ks loc (st) h)) := gk_if1_le
theorem s_M_more_118 {x : Int32} {l0 l1 l2 l3 l4 : Option Value} {l : eg_Lo} : wps rm K Q c_M_more_118 kc ks (l0 :: l1 :: l2 :: l3 :: l4 :: some (.int x) :: l) (st) h = wps rm K Q c_M_more_120 kc ks (l0 :: l1 :: l2 :: l3 :: l4 :: some (.int x) :: l) (.int x :: st) h := gk_iload rfl
theorem s_M_more_120  : wps rm K Q c_M_more_120 kc ks loc (st) h = K 124 kc ks loc st h := gk_goto
theorem s_M_more_123  : wps rm K Q c_M_more_123 kc ks loc (st) h = wps rm K Q c_M_more_124 kc ks loc (.int (0) :: st) h := gk_ic (by decide)
theorem s_M_more_124 {x y : Int32} : wps rm K Q c_M_more_124 kc ks loc (.int y :: .int x :: st) h = wps rm K Q c_M_more_125 kc ks loc (.int (x + y) :: st) h := gk_iadd
theorem s_M_more_125 {x y : Int32} : wps rm K Q c_M_more_125 kc ks loc (.int y :: .int x :: st) h = ((y < x → K 132 kc ks loc st h) ∧ (¬ y < x → wps rm K Q c_M_more_128 kc ks loc (st) h)) := gk_if2_gt
theorem s_M_more_128  : wps rm K Q c_M_more_128 kc ks loc (st) h = wps rm K Q c_M_more_129 kc ks loc (.long (1) :: st) h := gk_lc (by decide)
theorem s_M_more_129  : wps rm K Q c_M_more_129 kc ks loc (st) h = K 133 kc ks loc st h := gk_goto
theorem s_M_more_132  : wps rm K Q c_M_more_132 kc ks loc (st) h = wps rm K Q c_M_more_133 kc ks loc (.long (0) :: st) h := gk_lc (by decide)
theorem s_M_more_133 {x : Int64} : wps rm K Q c_M_more_133 kc ks loc ([.long x]) h = (kc = rm.cells ∧ Q (some (.long x)) h) := gk_lret
def T_M_more : List (Nat × List eg_I) := [(37, c_M_more_37), (45, c_M_more_45), (63, c_M_more_63), (71, c_M_more_71), (89, c_M_more_89), (97, c_M_more_97), (123, c_M_more_123), (124, c_M_more_124), (132, c_M_more_132), (133, c_M_more_133)]
theorem j_M_more_37 {R : Nat → Nat → Nat → eg_Lo → List Value → List eg_E → Prop} {f pc0 : Nat} : eg_run rm R Q T_M_more (f + 1) 37 kc ks loc st h = wps rm (eg_run rm R Q T_M_more f) Q c_M_more_37 kc ks loc st h := rfl
theorem j_M_more_45 {R : Nat → Nat → Nat → eg_Lo → List Value → List eg_E → Prop} {f pc0 : Nat} : eg_run rm R Q T_M_more (f + 1) 45 kc ks loc st h = wps rm (eg_run rm R Q T_M_more f) Q c_M_more_45 kc ks loc st h := rfl
theorem j_M_more_63 {R : Nat → Nat → Nat → eg_Lo → List Value → List eg_E → Prop} {f pc0 : Nat} : eg_run rm R Q T_M_more (f + 1) 63 kc ks loc st h = wps rm (eg_run rm R Q T_M_more f) Q c_M_more_63 kc ks loc st h := rfl
theorem j_M_more_71 {R : Nat → Nat → Nat → eg_Lo → List Value → List eg_E → Prop} {f pc0 : Nat} : eg_run rm R Q T_M_more (f + 1) 71 kc ks loc st h = wps rm (eg_run rm R Q T_M_more f) Q c_M_more_71 kc ks loc st h := rfl
theorem j_M_more_89 {R : Nat → Nat → Nat → eg_Lo → List Value → List eg_E → Prop} {f pc0 : Nat} : eg_run rm R Q T_M_more (f + 1) 89 kc ks loc st h = wps rm (eg_run rm R Q T_M_more f) Q c_M_more_89 kc ks loc st h := rfl
theorem j_M_more_97 {R : Nat → Nat → Nat → eg_Lo → List Value → List eg_E → Prop} {f pc0 : Nat} : eg_run rm R Q T_M_more (f + 1) 97 kc ks loc st h = wps rm (eg_run rm R Q T_M_more f) Q c_M_more_97 kc ks loc st h := rfl
theorem j_M_more_123 {R : Nat → Nat → Nat → eg_Lo → List Value → List eg_E → Prop} {f pc0 : Nat} : eg_run rm R Q T_M_more (f + 1) 123 kc ks loc st h = wps rm (eg_run rm R Q T_M_more f) Q c_M_more_123 kc ks loc st h := rfl
theorem j_M_more_124 {R : Nat → Nat → Nat → eg_Lo → List Value → List eg_E → Prop} {f pc0 : Nat} : eg_run rm R Q T_M_more (f + 1) 124 kc ks loc st h = wps rm (eg_run rm R Q T_M_more f) Q c_M_more_124 kc ks loc st h := rfl
theorem j_M_more_132 {R : Nat → Nat → Nat → eg_Lo → List Value → List eg_E → Prop} {f pc0 : Nat} : eg_run rm R Q T_M_more (f + 1) 132 kc ks loc st h = wps rm (eg_run rm R Q T_M_more f) Q c_M_more_132 kc ks loc st h := rfl
theorem j_M_more_133 {R : Nat → Nat → Nat → eg_Lo → List Value → List eg_E → Prop} {f pc0 : Nat} : eg_run rm R Q T_M_more (f + 1) 133 kc ks loc st h = wps rm (eg_run rm R Q T_M_more f) Q c_M_more_133 kc ks loc st h := rfl
end
theorem y_M_more_0 : eg_seq m_M_more 0 c_M_more_0 = true := by decide +kernel
theorem y_M_more_45 : eg_seq m_M_more 45 c_M_more_45 = true := by decide +kernel
theorem y_M_more_71 : eg_seq m_M_more 71 c_M_more_71 = true := by decide +kernel
theorem y_M_more_97 : eg_seq m_M_more 97 c_M_more_97 = true := by decide +kernel
theorem y_M_more_123 : eg_seq m_M_more 123 c_M_more_123 = true := by decide +kernel
theorem y_M_more_132 : eg_seq m_M_more 132 c_M_more_132 = true := by decide +kernel
theorem q_M_more : ∀ q ∈ T_M_more, eg_seq m_M_more q.1 q.2 = true := by
  intro q hq
  simp only [T_M_more, List.mem_cons, List.not_mem_nil, or_false] at hq
  rcases hq with rfl | rfl | rfl | rfl | rfl | rfl | rfl | rfl | rfl | rfl
  · exact (eg_seq_drop y_M_more_0 16 : eg_seq m_M_more 37 c_M_more_37 = true)
  · exact y_M_more_45
  · exact (eg_seq_drop y_M_more_45 10 : eg_seq m_M_more 63 c_M_more_63 = true)
  · exact y_M_more_71
  · exact (eg_seq_drop y_M_more_71 10 : eg_seq m_M_more 89 c_M_more_89 = true)
  · exact y_M_more_97
  · exact y_M_more_123
  · exact (eg_seq_drop y_M_more_123 1 : eg_seq m_M_more 124 c_M_more_124 = true)
  · exact y_M_more_132
  · exact (eg_seq_drop y_M_more_132 1 : eg_seq m_M_more 133 c_M_more_133 = true)
theorem md_M_more : eg_md n_M_more = m_M_more := rfl
theorem mn_M_more : n_M_more < 202 := Nat.le_of_ble_eq_true rfl
theorem b_M_more {as : List Value} {h : List eg_E} {Q : Option Value → List eg_E → Prop} (hf : (eg_fl as).length ≤ 6) : wps (eg_rm m_M_more) (eg_run (eg_rm m_M_more) (eg_R m_M_more Q (h.length + 0)) Q T_M_more 12) Q c_M_more_0 0 0 (eg_entry 6 as) [] h → eg_Runs n_M_more as h Q := eg_begin2 md_M_more mn_M_more y_M_more_0 q_M_more hf
/-! ===== M_frame ===== -/
def c_M_frame_384 : List eg_I := .inl (384, 1, .lreturn, 0, 0) :: []
def c_M_frame_383 : List eg_I := .inl (383, 1, .sipush (1), 0, 0) :: c_M_frame_384
def c_M_frame_380 : List eg_I := .inl (380, 3, .putstatic 273, 12, 14) :: c_M_frame_383
def c_M_frame_379 : List eg_I := .inl (379, 1, .iconst (1), 0, 0) :: c_M_frame_380
def c_M_frame_378 : List eg_I := .inl (378, 1, .aload 0, 0, 0) :: c_M_frame_379
def c_M_frame_377 : List eg_I := .inl (377, 1, .iastore, 0, 0) :: c_M_frame_378
def c_M_frame_376 : List eg_I := .inl (376, 1, .iaload, 0, 0) :: c_M_frame_377
def c_M_frame_374 : List eg_I := .inl (374, 2, .iload 7, 0, 0) :: c_M_frame_376
def c_M_frame_371 : List eg_I := .inl (371, 3, .getfield 19, 12, 3) :: c_M_frame_374
def c_M_frame_370 : List eg_I := .inl (370, 1, .aload 0, 0, 0) :: c_M_frame_371
def c_M_frame_369 : List eg_I := .inl (369, 1, .iconst (2), 0, 0) :: c_M_frame_370
def c_M_frame_366 : List eg_I := .inl (366, 3, .getfield 57, 12, 16) :: c_M_frame_369
def c_M_frame_365 : List eg_I := .inl (365, 1, .aload 0, 0, 0) :: c_M_frame_366
def c_M_frame_364 : List eg_I := .inl (364, 1, .iastore, 0, 0) :: c_M_frame_365
def c_M_frame_363 : List eg_I := .inl (363, 1, .iaload, 0, 0) :: c_M_frame_364
def c_M_frame_361 : List eg_I := .inl (361, 2, .iload 7, 0, 0) :: c_M_frame_363
def c_M_frame_358 : List eg_I := .inl (358, 3, .getfield 16, 12, 2) :: c_M_frame_361
def c_M_frame_357 : List eg_I := .inl (357, 1, .aload 0, 0, 0) :: c_M_frame_358
def c_M_frame_356 : List eg_I := .inl (356, 1, .iconst (1), 0, 0) :: c_M_frame_357
def c_M_frame_353 : List eg_I := .inl (353, 3, .getfield 57, 12, 16) :: c_M_frame_356
def c_M_frame_352 : List eg_I := .inl (352, 1, .aload 0, 0, 0) :: c_M_frame_353
def c_M_frame_351 : List eg_I := .inl (351, 1, .iastore, 0, 0) :: c_M_frame_352
def c_M_frame_350 : List eg_I := .inl (350, 1, .iaload, 0, 0) :: c_M_frame_351
def c_M_frame_348 : List eg_I := .inl (348, 2, .iload 7, 0, 0) :: c_M_frame_350
def c_M_frame_345 : List eg_I := .inl (345, 3, .getfield 13, 12, 1) :: c_M_frame_348
def c_M_frame_344 : List eg_I := .inl (344, 1, .aload 0, 0, 0) :: c_M_frame_345
def c_M_frame_343 : List eg_I := .inl (343, 1, .iconst (0), 0, 0) :: c_M_frame_344
def c_M_frame_340 : List eg_I := .inl (340, 3, .getfield 57, 12, 16) :: c_M_frame_343
def c_M_frame_339 : List eg_I := .inl (339, 1, .aload 0, 0, 0) :: c_M_frame_340
def c_M_frame_336 : List eg_I := .inr (336, 0, 200, n_M_lowest, 6, 12, 0, 0) :: c_M_frame_339
def c_M_frame_335 : List eg_I := .inl (335, 1, .iconst (0), 0, 0) :: c_M_frame_336
def c_M_frame_333 : List eg_I := .inl (333, 2, .iconst (6), 0, 0) :: c_M_frame_335
def c_M_frame_330 : List eg_I := .inl (330, 3, .getfield 54, 12, 15) :: c_M_frame_333
def c_M_frame_329 : List eg_I := .inl (329, 1, .aload 0, 0, 0) :: c_M_frame_330
def c_M_frame_327 : List eg_I := .inl (327, 2, .lload 18, 0, 0) :: c_M_frame_329
def c_M_frame_325 : List eg_I := .inl (325, 2, .lload 16, 0, 0) :: c_M_frame_327
def c_M_frame_323 : List eg_I := .inl (323, 2, .lload 14, 0, 0) :: c_M_frame_325
def c_M_frame_320 : List eg_I := .inr (320, 0, 200, n_M_lowest, 6, 12, 0, 0) :: c_M_frame_323
def c_M_frame_319 : List eg_I := .inl (319, 1, .iconst (0), 0, 0) :: c_M_frame_320
def c_M_frame_318 : List eg_I := .inl (318, 1, .iconst (3), 0, 0) :: c_M_frame_319
def c_M_frame_315 : List eg_I := .inl (315, 3, .getfield 54, 12, 15) :: c_M_frame_318
def c_M_frame_314 : List eg_I := .inl (314, 1, .aload 0, 0, 0) :: c_M_frame_315
def c_M_frame_313 : List eg_I := .inl (313, 1, .lsub, 0, 0) :: c_M_frame_314
def c_M_frame_312 : List eg_I := .inl (312, 1, .lmul, 0, 0) :: c_M_frame_313
def c_M_frame_310 : List eg_I := .inl (310, 2, .lload 22, 0, 0) :: c_M_frame_312
def c_M_frame_308 : List eg_I := .inl (308, 2, .lload 12, 0, 0) :: c_M_frame_310
def c_M_frame_307 : List eg_I := .inl (307, 1, .lmul, 0, 0) :: c_M_frame_308
def c_M_frame_305 : List eg_I := .inl (305, 2, .lload 20, 0, 0) :: c_M_frame_307
def c_M_frame_304 : List eg_I := .inl (304, 1, .i2l, 0, 0) :: c_M_frame_305
def c_M_frame_302 : List eg_I := .inl (302, 2, .iload 4, 0, 0) :: c_M_frame_304
def c_M_frame_301 : List eg_I := .inl (301, 1, .lsub, 0, 0) :: c_M_frame_302
def c_M_frame_300 : List eg_I := .inl (300, 1, .lmul, 0, 0) :: c_M_frame_301
def c_M_frame_298 : List eg_I := .inl (298, 2, .lload 22, 0, 0) :: c_M_frame_300
def c_M_frame_296 : List eg_I := .inl (296, 2, .lload 10, 0, 0) :: c_M_frame_298
def c_M_frame_295 : List eg_I := .inl (295, 1, .lmul, 0, 0) :: c_M_frame_296
def c_M_frame_293 : List eg_I := .inl (293, 2, .lload 20, 0, 0) :: c_M_frame_295
def c_M_frame_292 : List eg_I := .inl (292, 1, .i2l, 0, 0) :: c_M_frame_293
def c_M_frame_291 : List eg_I := .inl (291, 1, .iload 3, 0, 0) :: c_M_frame_292
def c_M_frame_290 : List eg_I := .inl (290, 1, .lsub, 0, 0) :: c_M_frame_291
def c_M_frame_289 : List eg_I := .inl (289, 1, .lmul, 0, 0) :: c_M_frame_290
def c_M_frame_287 : List eg_I := .inl (287, 2, .lload 22, 0, 0) :: c_M_frame_289
def c_M_frame_285 : List eg_I := .inl (285, 2, .lload 8, 0, 0) :: c_M_frame_287
def c_M_frame_284 : List eg_I := .inl (284, 1, .lmul, 0, 0) :: c_M_frame_285
def c_M_frame_282 : List eg_I := .inl (282, 2, .lload 20, 0, 0) :: c_M_frame_284
def c_M_frame_281 : List eg_I := .inl (281, 1, .i2l, 0, 0) :: c_M_frame_282
def c_M_frame_280 : List eg_I := .inl (280, 1, .iload 2, 0, 0) :: c_M_frame_281
def c_M_frame_277 : List eg_I := .inr (277, 0, 200, n_M_lowest, 6, 12, 0, 0) :: c_M_frame_280
def c_M_frame_276 : List eg_I := .inl (276, 1, .iconst (0), 0, 0) :: c_M_frame_277
def c_M_frame_275 : List eg_I := .inl (275, 1, .iconst (0), 0, 0) :: c_M_frame_276
def c_M_frame_272 : List eg_I := .inl (272, 3, .getfield 54, 12, 15) :: c_M_frame_275
def c_M_frame_271 : List eg_I := .inl (271, 1, .aload 0, 0, 0) :: c_M_frame_272
def c_M_frame_269 : List eg_I := .inl (269, 2, .lload 12, 0, 0) :: c_M_frame_271
def c_M_frame_267 : List eg_I := .inl (267, 2, .lload 10, 0, 0) :: c_M_frame_269
def c_M_frame_265 : List eg_I := .inl (265, 2, .lload 8, 0, 0) :: c_M_frame_267
def c_M_frame_263 : List eg_I := .inl (263, 2, .lstore 22, 0, 0) :: c_M_frame_265
def c_M_frame_262 : List eg_I := .inl (262, 1, .ladd, 0, 0) :: c_M_frame_263
def c_M_frame_261 : List eg_I := .inl (261, 1, .lmul, 0, 0) :: c_M_frame_262
def c_M_frame_260 : List eg_I := .inl (260, 1, .i2l, 0, 0) :: c_M_frame_261
def c_M_frame_258 : List eg_I := .inl (258, 2, .iload 4, 0, 0) :: c_M_frame_260
def c_M_frame_256 : List eg_I := .inl (256, 2, .lload 12, 0, 0) :: c_M_frame_258
def c_M_frame_255 : List eg_I := .inl (255, 1, .ladd, 0, 0) :: c_M_frame_256
def c_M_frame_254 : List eg_I := .inl (254, 1, .lmul, 0, 0) :: c_M_frame_255
def c_M_frame_253 : List eg_I := .inl (253, 1, .i2l, 0, 0) :: c_M_frame_254
def c_M_frame_252 : List eg_I := .inl (252, 1, .iload 3, 0, 0) :: c_M_frame_253
def c_M_frame_250 : List eg_I := .inl (250, 2, .lload 10, 0, 0) :: c_M_frame_252
def c_M_frame_249 : List eg_I := .inl (249, 1, .lmul, 0, 0) :: c_M_frame_250
def c_M_frame_248 : List eg_I := .inl (248, 1, .i2l, 0, 0) :: c_M_frame_249
def c_M_frame_247 : List eg_I := .inl (247, 1, .iload 2, 0, 0) :: c_M_frame_248
def c_M_frame_245 : List eg_I := .inl (245, 2, .lload 8, 0, 0) :: c_M_frame_247
def c_M_frame_243 : List eg_I := .inl (243, 2, .lstore 20, 0, 0) :: c_M_frame_245
def c_M_frame_242 : List eg_I := .inl (242, 1, .ladd, 0, 0) :: c_M_frame_243
def c_M_frame_241 : List eg_I := .inl (241, 1, .lmul, 0, 0) :: c_M_frame_242
def c_M_frame_239 : List eg_I := .inl (239, 2, .lload 12, 0, 0) :: c_M_frame_241
def c_M_frame_237 : List eg_I := .inl (237, 2, .lload 12, 0, 0) :: c_M_frame_239
def c_M_frame_236 : List eg_I := .inl (236, 1, .ladd, 0, 0) :: c_M_frame_237
def c_M_frame_235 : List eg_I := .inl (235, 1, .lmul, 0, 0) :: c_M_frame_236
def c_M_frame_233 : List eg_I := .inl (233, 2, .lload 10, 0, 0) :: c_M_frame_235
def c_M_frame_231 : List eg_I := .inl (231, 2, .lload 10, 0, 0) :: c_M_frame_233
def c_M_frame_230 : List eg_I := .inl (230, 1, .lmul, 0, 0) :: c_M_frame_231
def c_M_frame_228 : List eg_I := .inl (228, 2, .lload 8, 0, 0) :: c_M_frame_230
def c_M_frame_226 : List eg_I := .inl (226, 2, .lload 8, 0, 0) :: c_M_frame_228
def c_M_frame_225 : List eg_I := .inl (225, 1, .lreturn, 0, 0) :: []
def c_M_frame_222 : List eg_I := .inr (222, 1, 112, n_M_finding, 1, 12, 0, 0) :: c_M_frame_225
def c_M_frame_219 : List eg_I := .inl (219, 3, .sipush (-1000000000000000003), 143, 0) :: c_M_frame_222
def c_M_frame_218 : List eg_I := .inl (218, 1, .aload 0, 0, 0) :: c_M_frame_219
def c_M_frame_215 : List eg_I := .inl (215, 3, .ifCond .ne (11), 226, 0) :: c_M_frame_218
def c_M_frame_214 : List eg_I := .inl (214, 1, .lcmp, 0, 0) :: c_M_frame_215
def c_M_frame_213 : List eg_I := .inl (213, 1, .sipush (0), 0, 0) :: c_M_frame_214
def c_M_frame_211 : List eg_I := .inl (211, 2, .lload 18, 0, 0) :: c_M_frame_213
def c_M_frame_208 : List eg_I := .inl (208, 3, .ifCond .ne (18), 226, 0) :: c_M_frame_211
def c_M_frame_207 : List eg_I := .inl (207, 1, .lcmp, 0, 0) :: c_M_frame_208
def c_M_frame_206 : List eg_I := .inl (206, 1, .sipush (0), 0, 0) :: c_M_frame_207
def c_M_frame_204 : List eg_I := .inl (204, 2, .lload 16, 0, 0) :: c_M_frame_206
def c_M_frame_201 : List eg_I := .inl (201, 3, .ifCond .ne (25), 226, 0) :: c_M_frame_204
def c_M_frame_200 : List eg_I := .inl (200, 1, .lcmp, 0, 0) :: c_M_frame_201
def c_M_frame_199 : List eg_I := .inl (199, 1, .sipush (0), 0, 0) :: c_M_frame_200
def c_M_frame_197 : List eg_I := .inl (197, 2, .lload 14, 0, 0) :: c_M_frame_199
def c_M_frame_195 : List eg_I := .inl (195, 2, .lstore 18, 0, 0) :: c_M_frame_197
def c_M_frame_194 : List eg_I := .inl (194, 1, .lsub, 0, 0) :: c_M_frame_195
def c_M_frame_193 : List eg_I := .inl (193, 1, .lmul, 0, 0) :: c_M_frame_194
def c_M_frame_192 : List eg_I := .inl (192, 1, .i2l, 0, 0) :: c_M_frame_193
def c_M_frame_191 : List eg_I := .inl (191, 1, .iload 2, 0, 0) :: c_M_frame_192
def c_M_frame_189 : List eg_I := .inl (189, 2, .lload 10, 0, 0) :: c_M_frame_191
def c_M_frame_188 : List eg_I := .inl (188, 1, .lmul, 0, 0) :: c_M_frame_189
def c_M_frame_187 : List eg_I := .inl (187, 1, .i2l, 0, 0) :: c_M_frame_188
def c_M_frame_186 : List eg_I := .inl (186, 1, .iload 3, 0, 0) :: c_M_frame_187
def c_M_frame_184 : List eg_I := .inl (184, 2, .lload 8, 0, 0) :: c_M_frame_186
def c_M_frame_182 : List eg_I := .inl (182, 2, .lstore 16, 0, 0) :: c_M_frame_184
def c_M_frame_181 : List eg_I := .inl (181, 1, .lsub, 0, 0) :: c_M_frame_182
def c_M_frame_180 : List eg_I := .inl (180, 1, .lmul, 0, 0) :: c_M_frame_181
def c_M_frame_179 : List eg_I := .inl (179, 1, .i2l, 0, 0) :: c_M_frame_180
def c_M_frame_177 : List eg_I := .inl (177, 2, .iload 4, 0, 0) :: c_M_frame_179
def c_M_frame_175 : List eg_I := .inl (175, 2, .lload 8, 0, 0) :: c_M_frame_177
def c_M_frame_174 : List eg_I := .inl (174, 1, .lmul, 0, 0) :: c_M_frame_175
def c_M_frame_173 : List eg_I := .inl (173, 1, .i2l, 0, 0) :: c_M_frame_174
def c_M_frame_172 : List eg_I := .inl (172, 1, .iload 2, 0, 0) :: c_M_frame_173
def c_M_frame_170 : List eg_I := .inl (170, 2, .lload 12, 0, 0) :: c_M_frame_172
def c_M_frame_168 : List eg_I := .inl (168, 2, .lstore 14, 0, 0) :: c_M_frame_170
def c_M_frame_167 : List eg_I := .inl (167, 1, .lsub, 0, 0) :: c_M_frame_168
def c_M_frame_166 : List eg_I := .inl (166, 1, .lmul, 0, 0) :: c_M_frame_167
def c_M_frame_165 : List eg_I := .inl (165, 1, .i2l, 0, 0) :: c_M_frame_166
def c_M_frame_164 : List eg_I := .inl (164, 1, .iload 3, 0, 0) :: c_M_frame_165
def c_M_frame_162 : List eg_I := .inl (162, 2, .lload 12, 0, 0) :: c_M_frame_164
def c_M_frame_161 : List eg_I := .inl (161, 1, .lmul, 0, 0) :: c_M_frame_162
def c_M_frame_160 : List eg_I := .inl (160, 1, .i2l, 0, 0) :: c_M_frame_161
def c_M_frame_158 : List eg_I := .inl (158, 2, .iload 4, 0, 0) :: c_M_frame_160
def c_M_frame_156 : List eg_I := .inl (156, 2, .lload 10, 0, 0) :: c_M_frame_158
def c_M_frame_154 : List eg_I := .inl (154, 2, .lstore 12, 0, 0) :: c_M_frame_156
def c_M_frame_153 : List eg_I := .inl (153, 1, .laload, 0, 0) :: c_M_frame_154
def c_M_frame_152 : List eg_I := .inl (152, 1, .iadd, 0, 0) :: c_M_frame_153
def c_M_frame_151 : List eg_I := .inl (151, 1, .iconst (2), 0, 0) :: c_M_frame_152
def c_M_frame_150 : List eg_I := .inl (150, 1, .imul, 0, 0) :: c_M_frame_151
def c_M_frame_149 : List eg_I := .inl (149, 1, .iload 1, 0, 0) :: c_M_frame_150
def c_M_frame_148 : List eg_I := .inl (148, 1, .iconst (3), 0, 0) :: c_M_frame_149
def c_M_frame_145 : List eg_I := .inl (145, 3, .getfield 48, 12, 12) :: c_M_frame_148
def c_M_frame_144 : List eg_I := .inl (144, 1, .aload 0, 0, 0) :: c_M_frame_145
def c_M_frame_142 : List eg_I := .inl (142, 2, .lstore 10, 0, 0) :: c_M_frame_144
def c_M_frame_141 : List eg_I := .inl (141, 1, .laload, 0, 0) :: c_M_frame_142
def c_M_frame_140 : List eg_I := .inl (140, 1, .iadd, 0, 0) :: c_M_frame_141
def c_M_frame_139 : List eg_I := .inl (139, 1, .iconst (1), 0, 0) :: c_M_frame_140
def c_M_frame_138 : List eg_I := .inl (138, 1, .imul, 0, 0) :: c_M_frame_139
def c_M_frame_137 : List eg_I := .inl (137, 1, .iload 1, 0, 0) :: c_M_frame_138
def c_M_frame_136 : List eg_I := .inl (136, 1, .iconst (3), 0, 0) :: c_M_frame_137
def c_M_frame_133 : List eg_I := .inl (133, 3, .getfield 48, 12, 12) :: c_M_frame_136
def c_M_frame_132 : List eg_I := .inl (132, 1, .aload 0, 0, 0) :: c_M_frame_133
def c_M_frame_130 : List eg_I := .inl (130, 2, .lstore 8, 0, 0) :: c_M_frame_132
def c_M_frame_129 : List eg_I := .inl (129, 1, .laload, 0, 0) :: c_M_frame_130
def c_M_frame_128 : List eg_I := .inl (128, 1, .imul, 0, 0) :: c_M_frame_129
def c_M_frame_127 : List eg_I := .inl (127, 1, .iload 1, 0, 0) :: c_M_frame_128
def c_M_frame_126 : List eg_I := .inl (126, 1, .iconst (3), 0, 0) :: c_M_frame_127
def c_M_frame_123 : List eg_I := .inl (123, 3, .getfield 48, 12, 12) :: c_M_frame_126
def c_M_frame_122 : List eg_I := .inl (122, 1, .aload 0, 0, 0) :: c_M_frame_123
def c_M_frame_121 : List eg_I := .inl (121, 1, .lreturn, 0, 0) :: []
def c_M_frame_118 : List eg_I := .inr (118, 1, 112, n_M_finding, 1, 12, 0, 0) :: c_M_frame_121
def c_M_frame_115 : List eg_I := .inl (115, 3, .sipush (-1000000000000000007), 126, 0) :: c_M_frame_118
def c_M_frame_114 : List eg_I := .inl (114, 1, .aload 0, 0, 0) :: c_M_frame_115
def c_M_frame_111 : List eg_I := .inl (111, 3, .ifCond .eq (11), 122, 0) :: c_M_frame_114
def c_M_frame_110 : List eg_I := .inl (110, 1, .baload, 0, 0) :: c_M_frame_111
def c_M_frame_108 : List eg_I := .inl (108, 2, .iload 7, 0, 0) :: c_M_frame_110
def c_M_frame_105 : List eg_I := .inl (105, 3, .getfield 22, 12, 4) :: c_M_frame_108
def c_M_frame_104 : List eg_I := .inl (104, 1, .aload 0, 0, 0) :: c_M_frame_105
def c_M_frame_102 : List eg_I := .inl (102, 2, .istore 7, 0, 0) :: c_M_frame_104
def c_M_frame_99 : List eg_I := .inr (99, 0, 103, n_M_at_II, 2, 12, 0, 0) :: c_M_frame_102
def c_M_frame_97 : List eg_I := .inl (97, 2, .iload 6, 0, 0) :: c_M_frame_99
def c_M_frame_95 : List eg_I := .inl (95, 2, .iload 5, 0, 0) :: c_M_frame_97
def c_M_frame_94 : List eg_I := .inl (94, 1, .lreturn, 0, 0) :: []
def c_M_frame_91 : List eg_I := .inr (91, 1, 112, n_M_finding, 1, 12, 0, 0) :: c_M_frame_94
def c_M_frame_88 : List eg_I := .inl (88, 3, .sipush (-1000000000000000004), 147, 0) :: c_M_frame_91
def c_M_frame_87 : List eg_I := .inl (87, 1, .aload 0, 0, 0) :: c_M_frame_88
def c_M_frame_84 : List eg_I := .inl (84, 3, .if_icmp .eq (11), 95, 0) :: c_M_frame_87
def c_M_frame_83 : List eg_I := .inl (83, 1, .iconst (3), 0, 0) :: c_M_frame_84
def c_M_frame_82 : List eg_I := .inl (82, 1, .iaload, 0, 0) :: c_M_frame_83
def c_M_frame_81 : List eg_I := .inl (81, 1, .iload 1, 0, 0) :: c_M_frame_82
def c_M_frame_78 : List eg_I := .inl (78, 3, .getfield 32, 12, 7) :: c_M_frame_81
def c_M_frame_77 : List eg_I := .inl (77, 1, .aload 0, 0, 0) :: c_M_frame_78
def c_M_frame_76 : List eg_I := .inl (76, 1, .lreturn, 0, 0) :: []
def c_M_frame_73 : List eg_I := .inr (73, 1, 112, n_M_finding, 1, 12, 0, 0) :: c_M_frame_76
def c_M_frame_70 : List eg_I := .inl (70, 3, .sipush (-1000000000000000006), 138, 0) :: c_M_frame_73
def c_M_frame_69 : List eg_I := .inl (69, 1, .aload 0, 0, 0) :: c_M_frame_70
def c_M_frame_66 : List eg_I := .inl (66, 3, .ifCond .ne (11), 77, 0) :: c_M_frame_69
def c_M_frame_65 : List eg_I := .inl (65, 1, .iaload, 0, 0) :: c_M_frame_66
def c_M_frame_64 : List eg_I := .inl (64, 1, .iload 1, 0, 0) :: c_M_frame_65
def c_M_frame_61 : List eg_I := .inl (61, 3, .getfield 32, 12, 7) :: c_M_frame_64
def c_M_frame_60 : List eg_I := .inl (60, 1, .aload 0, 0, 0) :: c_M_frame_61
def c_M_frame_59 : List eg_I := .inl (59, 1, .lreturn, 0, 0) :: []
def c_M_frame_56 : List eg_I := .inr (56, 1, 112, n_M_finding, 1, 12, 0, 0) :: c_M_frame_59
def c_M_frame_53 : List eg_I := .inl (53, 3, .sipush (-1000000000000000001), 110, 0) :: c_M_frame_56
def c_M_frame_52 : List eg_I := .inl (52, 1, .aload 0, 0, 0) :: c_M_frame_53
def c_M_frame_49 : List eg_I := .inl (49, 3, .ifCond .ne (11), 60, 0) :: c_M_frame_52
def c_M_frame_46 : List eg_I := .inr (46, 0, 95, n_M_isIn, 3, 12, 0, 0) :: c_M_frame_49
def c_M_frame_44 : List eg_I := .inl (44, 2, .iconst (100), 0, 0) :: c_M_frame_46
def c_M_frame_42 : List eg_I := .inl (42, 2, .iconst (-100), 0, 0) :: c_M_frame_44
def c_M_frame_40 : List eg_I := .inl (40, 2, .iload 4, 0, 0) :: c_M_frame_42
def c_M_frame_37 : List eg_I := .inl (37, 3, .ifCond .eq (15), 52, 0) :: c_M_frame_40
def c_M_frame_34 : List eg_I := .inr (34, 0, 95, n_M_isIn, 3, 12, 0, 0) :: c_M_frame_37
def c_M_frame_32 : List eg_I := .inl (32, 2, .iconst (100), 0, 0) :: c_M_frame_34
def c_M_frame_30 : List eg_I := .inl (30, 2, .iconst (-100), 0, 0) :: c_M_frame_32
def c_M_frame_29 : List eg_I := .inl (29, 1, .iload 3, 0, 0) :: c_M_frame_30
def c_M_frame_26 : List eg_I := .inl (26, 3, .ifCond .eq (26), 52, 0) :: c_M_frame_29
def c_M_frame_23 : List eg_I := .inr (23, 0, 95, n_M_isIn, 3, 12, 0, 0) :: c_M_frame_26
def c_M_frame_21 : List eg_I := .inl (21, 2, .iconst (100), 0, 0) :: c_M_frame_23
def c_M_frame_19 : List eg_I := .inl (19, 2, .iconst (-100), 0, 0) :: c_M_frame_21
def c_M_frame_18 : List eg_I := .inl (18, 1, .iload 2, 0, 0) :: c_M_frame_19
def c_M_frame_15 : List eg_I := .inl (15, 3, .ifCond .eq (37), 52, 0) :: c_M_frame_18
def c_M_frame_12 : List eg_I := .inr (12, 1, 122, n_M_isPoint, 2, 12, 0, 0) :: c_M_frame_15
def c_M_frame_10 : List eg_I := .inl (10, 2, .iload 6, 0, 0) :: c_M_frame_12
def c_M_frame_8 : List eg_I := .inl (8, 2, .iload 5, 0, 0) :: c_M_frame_10
def c_M_frame_7 : List eg_I := .inl (7, 1, .aload 0, 0, 0) :: c_M_frame_8
def c_M_frame_4 : List eg_I := .inl (4, 3, .ifCond .eq (48), 52, 0) :: c_M_frame_7
def c_M_frame_1 : List eg_I := .inr (1, 0, 255, n_M_isFigure, 1, 12, 0, 0) :: c_M_frame_4
def c_M_frame_0 : List eg_I := .inl (0, 1, .iload 1, 0, 0) :: c_M_frame_1
section
variable {rm : Room} {K : Nat → Nat → Nat → eg_Lo → List Value → List eg_E → Prop} {Q : Option Value → List eg_E → Prop} {kc ks : Nat} {loc : eg_Lo} {st : List Value} {h : List eg_E}
theorem s_M_frame_0 {x : Int32} {l0 : Option Value} {l : eg_Lo} : wps rm K Q c_M_frame_0 kc ks (l0 :: some (.int x) :: l) (st) h = wps rm K Q c_M_frame_1 kc ks (l0 :: some (.int x) :: l) (.int x :: st) h := gk_iload rfl
theorem s_M_frame_1  {a1 : Value} : wps rm K Q c_M_frame_1 kc ks loc (a1 :: st) h = (st.length ≤ 4 ∧ eg_Cs n_M_isFigure [a1] h (fun v h9 => wps rm K Q c_M_frame_4 kc ks loc (v.toList ++ st) h9)) := eg_c0_1
theorem s_M_frame_4 {x : Int32} : wps rm K Q c_M_frame_4 kc ks loc (.int x :: st) h = ((x = 0 → K 52 kc ks loc st h) ∧ (¬ x = 0 → wps rm K Q c_M_frame_7 kc ks loc (st) h)) := gk_if1_eq
theorem s_M_frame_7 {x : Nat} {l : eg_Lo} : wps rm K Q c_M_frame_7 kc ks (some (.ref x) :: l) (st) h = wps rm K Q c_M_frame_8 kc ks (some (.ref x) :: l) (.ref x :: st) h := gk_aload rfl
theorem s_M_frame_8 {x : Int32} {l0 l1 l2 l3 l4 : Option Value} {l : eg_Lo} : wps rm K Q c_M_frame_8 kc ks (l0 :: l1 :: l2 :: l3 :: l4 :: some (.int x) :: l) (st) h = wps rm K Q c_M_frame_10 kc ks (l0 :: l1 :: l2 :: l3 :: l4 :: some (.int x) :: l) (.int x :: st) h := gk_iload rfl
theorem s_M_frame_10 {x : Int32} {l0 l1 l2 l3 l4 l5 : Option Value} {l : eg_Lo} : wps rm K Q c_M_frame_10 kc ks (l0 :: l1 :: l2 :: l3 :: l4 :: l5 :: some (.int x) :: l) (st) h = wps rm K Q c_M_frame_12 kc ks (l0 :: l1 :: l2 :: l3 :: l4 :: l5 :: some (.int x) :: l) (.int x :: st) h := gk_iload rfl
theorem s_M_frame_12  {a1 : Value} {a2 : Value} {x : Nat} : wps rm K Q c_M_frame_12 kc ks loc (a2 :: a1 :: .ref (x + 1) :: st) h = (eg_cls h x 12 ∧ st.length ≤ 4 ∧ eg_Cs n_M_isPoint (.ref (x + 1) :: [a1, a2]) h (fun v h9 => wps rm K Q c_M_frame_15 kc ks loc (v.toList ++ st) h9)) := eg_c1_2
theorem s_M_frame_15 {x : Int32} : wps rm K Q c_M_frame_15 kc ks loc (.int x :: st) h = ((x = 0 → K 52 kc ks loc st h) ∧ (¬ x = 0 → wps rm K Q c_M_frame_18 kc ks loc (st) h)) := gk_if1_eq
theorem s_M_frame_18 {x : Int32} {l0 l1 : Option Value} {l : eg_Lo} : wps rm K Q c_M_frame_18 kc ks (l0 :: l1 :: some (.int x) :: l) (st) h = wps rm K Q c_M_frame_19 kc ks (l0 :: l1 :: some (.int x) :: l) (.int x :: st) h := gk_iload rfl
theorem s_M_frame_19  : wps rm K Q c_M_frame_19 kc ks loc (st) h = wps rm K Q c_M_frame_21 kc ks loc (.int (-100) :: st) h := gk_ic (by decide)
theorem s_M_frame_21  : wps rm K Q c_M_frame_21 kc ks loc (st) h = wps rm K Q c_M_frame_23 kc ks loc (.int (100) :: st) h := gk_ic (by decide)
theorem s_M_frame_23  {a1 : Value} {a2 : Value} {a3 : Value} : wps rm K Q c_M_frame_23 kc ks loc (a3 :: a2 :: a1 :: st) h = (st.length ≤ 4 ∧ eg_Cs n_M_isIn [a1, a2, a3] h (fun v h9 => wps rm K Q c_M_frame_26 kc ks loc (v.toList ++ st) h9)) := eg_c0_3
theorem s_M_frame_26 {x : Int32} : wps rm K Q c_M_frame_26 kc ks loc (.int x :: st) h = ((x = 0 → K 52 kc ks loc st h) ∧ (¬ x = 0 → wps rm K Q c_M_frame_29 kc ks loc (st) h)) := gk_if1_eq
theorem s_M_frame_29 {x : Int32} {l0 l1 l2 : Option Value} {l : eg_Lo} : wps rm K Q c_M_frame_29 kc ks (l0 :: l1 :: l2 :: some (.int x) :: l) (st) h = wps rm K Q c_M_frame_30 kc ks (l0 :: l1 :: l2 :: some (.int x) :: l) (.int x :: st) h := gk_iload rfl
theorem s_M_frame_30  : wps rm K Q c_M_frame_30 kc ks loc (st) h = wps rm K Q c_M_frame_32 kc ks loc (.int (-100) :: st) h := gk_ic (by decide)
theorem s_M_frame_32  : wps rm K Q c_M_frame_32 kc ks loc (st) h = wps rm K Q c_M_frame_34 kc ks loc (.int (100) :: st) h := gk_ic (by decide)
theorem s_M_frame_34  {a1 : Value} {a2 : Value} {a3 : Value} : wps rm K Q c_M_frame_34 kc ks loc (a3 :: a2 :: a1 :: st) h = (st.length ≤ 4 ∧ eg_Cs n_M_isIn [a1, a2, a3] h (fun v h9 => wps rm K Q c_M_frame_37 kc ks loc (v.toList ++ st) h9)) := eg_c0_3
theorem s_M_frame_37 {x : Int32} : wps rm K Q c_M_frame_37 kc ks loc (.int x :: st) h = ((x = 0 → K 52 kc ks loc st h) ∧ (¬ x = 0 → wps rm K Q c_M_frame_40 kc ks loc (st) h)) := gk_if1_eq
theorem s_M_frame_40 {x : Int32} {l0 l1 l2 l3 : Option Value} {l : eg_Lo} : wps rm K Q c_M_frame_40 kc ks (l0 :: l1 :: l2 :: l3 :: some (.int x) :: l) (st) h = wps rm K Q c_M_frame_42 kc ks (l0 :: l1 :: l2 :: l3 :: some (.int x) :: l) (.int x :: st) h := gk_iload rfl
theorem s_M_frame_42  : wps rm K Q c_M_frame_42 kc ks loc (st) h = wps rm K Q c_M_frame_44 kc ks loc (.int (-100) :: st) h := gk_ic (by decide)
theorem s_M_frame_44  : wps rm K Q c_M_frame_44 kc ks loc (st) h = wps rm K Q c_M_frame_46 kc ks loc (.int (100) :: st) h := gk_ic (by decide)
theorem s_M_frame_46  {a1 : Value} {a2 : Value} {a3 : Value} : wps rm K Q c_M_frame_46 kc ks loc (a3 :: a2 :: a1 :: st) h = (st.length ≤ 4 ∧ eg_Cs n_M_isIn [a1, a2, a3] h (fun v h9 => wps rm K Q c_M_frame_49 kc ks loc (v.toList ++ st) h9)) := eg_c0_3
theorem s_M_frame_49 {x : Int32} : wps rm K Q c_M_frame_49 kc ks loc (.int x :: st) h = ((¬ x = 0 → K 60 kc ks loc st h) ∧ (x = 0 → wps rm K Q c_M_frame_52 kc ks loc (st) h)) := gk_if1_ne
theorem s_M_frame_52 {x : Nat} {l : eg_Lo} : wps rm K Q c_M_frame_52 kc ks (some (.ref x) :: l) (st) h = wps rm K Q c_M_frame_53 kc ks (some (.ref x) :: l) (.ref x :: st) h := gk_aload rfl
theorem s_M_frame_53  : wps rm K Q c_M_frame_53 kc ks loc (st) h = wps rm K Q c_M_frame_56 kc ks loc (.long (-1000000000000000001) :: st) h := gk_lc (by decide)
theorem s_M_frame_56  {a1 : Value} {x : Nat} : wps rm K Q c_M_frame_56 kc ks loc (a1 :: .ref (x + 1) :: st) h = (eg_cls h x 12 ∧ st.length ≤ 4 ∧ eg_Cs n_M_finding (.ref (x + 1) :: [a1]) h (fun v h9 => wps rm K Q c_M_frame_59 kc ks loc (v.toList ++ st) h9)) := eg_c1_1
theorem s_M_frame_59 {x : Int64} : wps rm K Q c_M_frame_59 kc ks loc ([.long x]) h = (kc = rm.cells ∧ Q (some (.long x)) h) := gk_lret
theorem s_M_frame_60 {x : Nat} {l : eg_Lo} : wps rm K Q c_M_frame_60 kc ks (some (.ref x) :: l) (st) h = wps rm K Q c_M_frame_61 kc ks (some (.ref x) :: l) (.ref x :: st) h := gk_aload rfl
theorem s_M_frame_61 {x : Nat} : wps rm K Q c_M_frame_61 kc ks loc (.ref (x + 1) :: st) h = eg_gf h x 12 7 (fun v => wps rm K Q c_M_frame_64 kc ks loc (v :: st) h) := gk_gf
theorem s_M_frame_64 {x : Int32} {l0 : Option Value} {l : eg_Lo} : wps rm K Q c_M_frame_64 kc ks (l0 :: some (.int x) :: l) (st) h = wps rm K Q c_M_frame_65 kc ks (l0 :: some (.int x) :: l) (.int x :: st) h := gk_iload rfl
theorem s_M_frame_65 {x : Nat} {i : Int32} : wps rm K Q c_M_frame_65 kc ks loc (.int i :: .ref (x + 1) :: st) h = eg_ia h x i (fun v => wps rm K Q c_M_frame_66 kc ks loc (.int v :: st) h) := gk_iaload
theorem s_M_frame_66 {x : Int32} : wps rm K Q c_M_frame_66 kc ks loc (.int x :: st) h = ((¬ x = 0 → K 77 kc ks loc st h) ∧ (x = 0 → wps rm K Q c_M_frame_69 kc ks loc (st) h)) := gk_if1_ne
theorem s_M_frame_69 {x : Nat} {l : eg_Lo} : wps rm K Q c_M_frame_69 kc ks (some (.ref x) :: l) (st) h = wps rm K Q c_M_frame_70 kc ks (some (.ref x) :: l) (.ref x :: st) h := gk_aload rfl
theorem s_M_frame_70  : wps rm K Q c_M_frame_70 kc ks loc (st) h = wps rm K Q c_M_frame_73 kc ks loc (.long (-1000000000000000006) :: st) h := gk_lc (by decide)
theorem s_M_frame_73  {a1 : Value} {x : Nat} : wps rm K Q c_M_frame_73 kc ks loc (a1 :: .ref (x + 1) :: st) h = (eg_cls h x 12 ∧ st.length ≤ 4 ∧ eg_Cs n_M_finding (.ref (x + 1) :: [a1]) h (fun v h9 => wps rm K Q c_M_frame_76 kc ks loc (v.toList ++ st) h9)) := eg_c1_1
theorem s_M_frame_76 {x : Int64} : wps rm K Q c_M_frame_76 kc ks loc ([.long x]) h = (kc = rm.cells ∧ Q (some (.long x)) h) := gk_lret
theorem s_M_frame_77 {x : Nat} {l : eg_Lo} : wps rm K Q c_M_frame_77 kc ks (some (.ref x) :: l) (st) h = wps rm K Q c_M_frame_78 kc ks (some (.ref x) :: l) (.ref x :: st) h := gk_aload rfl
theorem s_M_frame_78 {x : Nat} : wps rm K Q c_M_frame_78 kc ks loc (.ref (x + 1) :: st) h = eg_gf h x 12 7 (fun v => wps rm K Q c_M_frame_81 kc ks loc (v :: st) h) := gk_gf
theorem s_M_frame_81 {x : Int32} {l0 : Option Value} {l : eg_Lo} : wps rm K Q c_M_frame_81 kc ks (l0 :: some (.int x) :: l) (st) h = wps rm K Q c_M_frame_82 kc ks (l0 :: some (.int x) :: l) (.int x :: st) h := gk_iload rfl
theorem s_M_frame_82 {x : Nat} {i : Int32} : wps rm K Q c_M_frame_82 kc ks loc (.int i :: .ref (x + 1) :: st) h = eg_ia h x i (fun v => wps rm K Q c_M_frame_83 kc ks loc (.int v :: st) h) := gk_iaload
theorem s_M_frame_83  : wps rm K Q c_M_frame_83 kc ks loc (st) h = wps rm K Q c_M_frame_84 kc ks loc (.int (3) :: st) h := gk_ic (by decide)
theorem s_M_frame_84 {x y : Int32} : wps rm K Q c_M_frame_84 kc ks loc (.int y :: .int x :: st) h = ((x = y → K 95 kc ks loc st h) ∧ (¬ x = y → wps rm K Q c_M_frame_87 kc ks loc (st) h)) := gk_if2_eq
theorem s_M_frame_87 {x : Nat} {l : eg_Lo} : wps rm K Q c_M_frame_87 kc ks (some (.ref x) :: l) (st) h = wps rm K Q c_M_frame_88 kc ks (some (.ref x) :: l) (.ref x :: st) h := gk_aload rfl
theorem s_M_frame_88  : wps rm K Q c_M_frame_88 kc ks loc (st) h = wps rm K Q c_M_frame_91 kc ks loc (.long (-1000000000000000004) :: st) h := gk_lc (by decide)
theorem s_M_frame_91  {a1 : Value} {x : Nat} : wps rm K Q c_M_frame_91 kc ks loc (a1 :: .ref (x + 1) :: st) h = (eg_cls h x 12 ∧ st.length ≤ 4 ∧ eg_Cs n_M_finding (.ref (x + 1) :: [a1]) h (fun v h9 => wps rm K Q c_M_frame_94 kc ks loc (v.toList ++ st) h9)) := eg_c1_1
theorem s_M_frame_94 {x : Int64} : wps rm K Q c_M_frame_94 kc ks loc ([.long x]) h = (kc = rm.cells ∧ Q (some (.long x)) h) := gk_lret
theorem s_M_frame_95 {x : Int32} {l0 l1 l2 l3 l4 : Option Value} {l : eg_Lo} : wps rm K Q c_M_frame_95 kc ks (l0 :: l1 :: l2 :: l3 :: l4 :: some (.int x) :: l) (st) h = wps rm K Q c_M_frame_97 kc ks (l0 :: l1 :: l2 :: l3 :: l4 :: some (.int x) :: l) (.int x :: st) h := gk_iload rfl
theorem s_M_frame_97 {x : Int32} {l0 l1 l2 l3 l4 l5 : Option Value} {l : eg_Lo} : wps rm K Q c_M_frame_97 kc ks (l0 :: l1 :: l2 :: l3 :: l4 :: l5 :: some (.int x) :: l) (st) h = wps rm K Q c_M_frame_99 kc ks (l0 :: l1 :: l2 :: l3 :: l4 :: l5 :: some (.int x) :: l) (.int x :: st) h := gk_iload rfl
theorem s_M_frame_99  {a1 : Value} {a2 : Value} : wps rm K Q c_M_frame_99 kc ks loc (a2 :: a1 :: st) h = (st.length ≤ 4 ∧ eg_Cs n_M_at_II [a1, a2] h (fun v h9 => wps rm K Q c_M_frame_102 kc ks loc (v.toList ++ st) h9)) := eg_c0_2
theorem s_M_frame_102 {x : Int32} : wps rm K Q c_M_frame_102 kc ks loc (.int x :: st) h = wps rm K Q c_M_frame_104 kc ks (eg_set1 loc 7 (.int x)) (st) h := gk_istore
theorem s_M_frame_104 {x : Nat} {l : eg_Lo} : wps rm K Q c_M_frame_104 kc ks (some (.ref x) :: l) (st) h = wps rm K Q c_M_frame_105 kc ks (some (.ref x) :: l) (.ref x :: st) h := gk_aload rfl
theorem s_M_frame_105 {x : Nat} : wps rm K Q c_M_frame_105 kc ks loc (.ref (x + 1) :: st) h = eg_gf h x 12 4 (fun v => wps rm K Q c_M_frame_108 kc ks loc (v :: st) h) := gk_gf
theorem s_M_frame_108 {x : Int32} {l0 l1 l2 l3 l4 l5 l6 : Option Value} {l : eg_Lo} : wps rm K Q c_M_frame_108 kc ks (l0 :: l1 :: l2 :: l3 :: l4 :: l5 :: l6 :: some (.int x) :: l) (st) h = wps rm K Q c_M_frame_110 kc ks (l0 :: l1 :: l2 :: l3 :: l4 :: l5 :: l6 :: some (.int x) :: l) (.int x :: st) h := gk_iload rfl
theorem s_M_frame_110 {x : Nat} {i : Int32} : wps rm K Q c_M_frame_110 kc ks loc (.int i :: .ref (x + 1) :: st) h = eg_ba h x i (fun v => wps rm K Q c_M_frame_111 kc ks loc (.int v :: st) h) := gk_baload
theorem s_M_frame_111 {x : Int32} : wps rm K Q c_M_frame_111 kc ks loc (.int x :: st) h = ((x = 0 → K 122 kc ks loc st h) ∧ (¬ x = 0 → wps rm K Q c_M_frame_114 kc ks loc (st) h)) := gk_if1_eq
theorem s_M_frame_114 {x : Nat} {l : eg_Lo} : wps rm K Q c_M_frame_114 kc ks (some (.ref x) :: l) (st) h = wps rm K Q c_M_frame_115 kc ks (some (.ref x) :: l) (.ref x :: st) h := gk_aload rfl
theorem s_M_frame_115  : wps rm K Q c_M_frame_115 kc ks loc (st) h = wps rm K Q c_M_frame_118 kc ks loc (.long (-1000000000000000007) :: st) h := gk_lc (by decide)
theorem s_M_frame_118  {a1 : Value} {x : Nat} : wps rm K Q c_M_frame_118 kc ks loc (a1 :: .ref (x + 1) :: st) h = (eg_cls h x 12 ∧ st.length ≤ 4 ∧ eg_Cs n_M_finding (.ref (x + 1) :: [a1]) h (fun v h9 => wps rm K Q c_M_frame_121 kc ks loc (v.toList ++ st) h9)) := eg_c1_1
theorem s_M_frame_121 {x : Int64} : wps rm K Q c_M_frame_121 kc ks loc ([.long x]) h = (kc = rm.cells ∧ Q (some (.long x)) h) := gk_lret
theorem s_M_frame_122 {x : Nat} {l : eg_Lo} : wps rm K Q c_M_frame_122 kc ks (some (.ref x) :: l) (st) h = wps rm K Q c_M_frame_123 kc ks (some (.ref x) :: l) (.ref x :: st) h := gk_aload rfl
theorem s_M_frame_123 {x : Nat} : wps rm K Q c_M_frame_123 kc ks loc (.ref (x + 1) :: st) h = eg_gf h x 12 12 (fun v => wps rm K Q c_M_frame_126 kc ks loc (v :: st) h) := gk_gf
theorem s_M_frame_126  : wps rm K Q c_M_frame_126 kc ks loc (st) h = wps rm K Q c_M_frame_127 kc ks loc (.int (3) :: st) h := gk_ic (by decide)
theorem s_M_frame_127 {x : Int32} {l0 : Option Value} {l : eg_Lo} : wps rm K Q c_M_frame_127 kc ks (l0 :: some (.int x) :: l) (st) h = wps rm K Q c_M_frame_128 kc ks (l0 :: some (.int x) :: l) (.int x :: st) h := gk_iload rfl
theorem s_M_frame_128 {x y : Int32} : wps rm K Q c_M_frame_128 kc ks loc (.int y :: .int x :: st) h = wps rm K Q c_M_frame_129 kc ks loc (.int (x * y) :: st) h := gk_imul
theorem s_M_frame_129 {x : Nat} {i : Int32} : wps rm K Q c_M_frame_129 kc ks loc (.int i :: .ref (x + 1) :: st) h = eg_la h x i (fun v => wps rm K Q c_M_frame_130 kc ks loc (.long v :: st) h) := gk_laload
theorem s_M_frame_130 {x : Int64} : wps rm K Q c_M_frame_130 kc ks loc (.long x :: st) h = wps rm K Q c_M_frame_132 kc ks (eg_set2 loc 8 (.long x)) (st) h := gk_lstore
theorem s_M_frame_132 {x : Nat} {l : eg_Lo} : wps rm K Q c_M_frame_132 kc ks (some (.ref x) :: l) (st) h = wps rm K Q c_M_frame_133 kc ks (some (.ref x) :: l) (.ref x :: st) h := gk_aload rfl
theorem s_M_frame_133 {x : Nat} : wps rm K Q c_M_frame_133 kc ks loc (.ref (x + 1) :: st) h = eg_gf h x 12 12 (fun v => wps rm K Q c_M_frame_136 kc ks loc (v :: st) h) := gk_gf
theorem s_M_frame_136  : wps rm K Q c_M_frame_136 kc ks loc (st) h = wps rm K Q c_M_frame_137 kc ks loc (.int (3) :: st) h := gk_ic (by decide)
theorem s_M_frame_137 {x : Int32} {l0 : Option Value} {l : eg_Lo} : wps rm K Q c_M_frame_137 kc ks (l0 :: some (.int x) :: l) (st) h = wps rm K Q c_M_frame_138 kc ks (l0 :: some (.int x) :: l) (.int x :: st) h := gk_iload rfl
theorem s_M_frame_138 {x y : Int32} : wps rm K Q c_M_frame_138 kc ks loc (.int y :: .int x :: st) h = wps rm K Q c_M_frame_139 kc ks loc (.int (x * y) :: st) h := gk_imul
theorem s_M_frame_139  : wps rm K Q c_M_frame_139 kc ks loc (st) h = wps rm K Q c_M_frame_140 kc ks loc (.int (1) :: st) h := gk_ic (by decide)
theorem s_M_frame_140 {x y : Int32} : wps rm K Q c_M_frame_140 kc ks loc (.int y :: .int x :: st) h = wps rm K Q c_M_frame_141 kc ks loc (.int (x + y) :: st) h := gk_iadd
theorem s_M_frame_141 {x : Nat} {i : Int32} : wps rm K Q c_M_frame_141 kc ks loc (.int i :: .ref (x + 1) :: st) h = eg_la h x i (fun v => wps rm K Q c_M_frame_142 kc ks loc (.long v :: st) h) := gk_laload
theorem s_M_frame_142 {x : Int64} : wps rm K Q c_M_frame_142 kc ks loc (.long x :: st) h = wps rm K Q c_M_frame_144 kc ks (eg_set2 loc 10 (.long x)) (st) h := gk_lstore
theorem s_M_frame_144 {x : Nat} {l : eg_Lo} : wps rm K Q c_M_frame_144 kc ks (some (.ref x) :: l) (st) h = wps rm K Q c_M_frame_145 kc ks (some (.ref x) :: l) (.ref x :: st) h := gk_aload rfl
theorem s_M_frame_145 {x : Nat} : wps rm K Q c_M_frame_145 kc ks loc (.ref (x + 1) :: st) h = eg_gf h x 12 12 (fun v => wps rm K Q c_M_frame_148 kc ks loc (v :: st) h) := gk_gf
theorem s_M_frame_148  : wps rm K Q c_M_frame_148 kc ks loc (st) h = wps rm K Q c_M_frame_149 kc ks loc (.int (3) :: st) h := gk_ic (by decide)
theorem s_M_frame_149 {x : Int32} {l0 : Option Value} {l : eg_Lo} : wps rm K Q c_M_frame_149 kc ks (l0 :: some (.int x) :: l) (st) h = wps rm K Q c_M_frame_150 kc ks (l0 :: some (.int x) :: l) (.int x :: st) h := gk_iload rfl
theorem s_M_frame_150 {x y : Int32} : wps rm K Q c_M_frame_150 kc ks loc (.int y :: .int x :: st) h = wps rm K Q c_M_frame_151 kc ks loc (.int (x * y) :: st) h := gk_imul
theorem s_M_frame_151  : wps rm K Q c_M_frame_151 kc ks loc (st) h = wps rm K Q c_M_frame_152 kc ks loc (.int (2) :: st) h := gk_ic (by decide)
theorem s_M_frame_152 {x y : Int32} : wps rm K Q c_M_frame_152 kc ks loc (.int y :: .int x :: st) h = wps rm K Q c_M_frame_153 kc ks loc (.int (x + y) :: st) h := gk_iadd
theorem s_M_frame_153 {x : Nat} {i : Int32} : wps rm K Q c_M_frame_153 kc ks loc (.int i :: .ref (x + 1) :: st) h = eg_la h x i (fun v => wps rm K Q c_M_frame_154 kc ks loc (.long v :: st) h) := gk_laload
theorem s_M_frame_154 {x : Int64} : wps rm K Q c_M_frame_154 kc ks loc (.long x :: st) h = wps rm K Q c_M_frame_156 kc ks (eg_set2 loc 12 (.long x)) (st) h := gk_lstore
theorem s_M_frame_156 {x : Int64} {l0 l1 l2 l3 l4 l5 l6 l7 l8 l9 : Option Value} {l : eg_Lo} : wps rm K Q c_M_frame_156 kc ks (l0 :: l1 :: l2 :: l3 :: l4 :: l5 :: l6 :: l7 :: l8 :: l9 :: some (.long x) :: l) (st) h = wps rm K Q c_M_frame_158 kc ks (l0 :: l1 :: l2 :: l3 :: l4 :: l5 :: l6 :: l7 :: l8 :: l9 :: some (.long x) :: l) (.long x :: st) h := gk_lload rfl
theorem s_M_frame_158 {x : Int32} {l0 l1 l2 l3 : Option Value} {l : eg_Lo} : wps rm K Q c_M_frame_158 kc ks (l0 :: l1 :: l2 :: l3 :: some (.int x) :: l) (st) h = wps rm K Q c_M_frame_160 kc ks (l0 :: l1 :: l2 :: l3 :: some (.int x) :: l) (.int x :: st) h := gk_iload rfl
theorem s_M_frame_160 {x : Int32} : wps rm K Q c_M_frame_160 kc ks loc (.int x :: st) h = wps rm K Q c_M_frame_161 kc ks loc (.long (x.toInt64) :: st) h := gk_i2l
theorem s_M_frame_161 {x y : Int64} : wps rm K Q c_M_frame_161 kc ks loc (.long y :: .long x :: st) h = wps rm K Q c_M_frame_162 kc ks loc (.long (x * y) :: st) h := gk_lmul
theorem s_M_frame_162 {x : Int64} {l0 l1 l2 l3 l4 l5 l6 l7 l8 l9 l10 l11 : Option Value} {l : eg_Lo} : wps rm K Q c_M_frame_162 kc ks (l0 :: l1 :: l2 :: l3 :: l4 :: l5 :: l6 :: l7 :: l8 :: l9 :: l10 :: l11 :: some (.long x) :: l) (st) h = wps rm K Q c_M_frame_164 kc ks (l0 :: l1 :: l2 :: l3 :: l4 :: l5 :: l6 :: l7 :: l8 :: l9 :: l10 :: l11 :: some (.long x) :: l) (.long x :: st) h := gk_lload rfl
theorem s_M_frame_164 {x : Int32} {l0 l1 l2 : Option Value} {l : eg_Lo} : wps rm K Q c_M_frame_164 kc ks (l0 :: l1 :: l2 :: some (.int x) :: l) (st) h = wps rm K Q c_M_frame_165 kc ks (l0 :: l1 :: l2 :: some (.int x) :: l) (.int x :: st) h := gk_iload rfl
theorem s_M_frame_165 {x : Int32} : wps rm K Q c_M_frame_165 kc ks loc (.int x :: st) h = wps rm K Q c_M_frame_166 kc ks loc (.long (x.toInt64) :: st) h := gk_i2l
theorem s_M_frame_166 {x y : Int64} : wps rm K Q c_M_frame_166 kc ks loc (.long y :: .long x :: st) h = wps rm K Q c_M_frame_167 kc ks loc (.long (x * y) :: st) h := gk_lmul
theorem s_M_frame_167 {x y : Int64} : wps rm K Q c_M_frame_167 kc ks loc (.long y :: .long x :: st) h = wps rm K Q c_M_frame_168 kc ks loc (.long (x - y) :: st) h := gk_lsub
theorem s_M_frame_168 {x : Int64} : wps rm K Q c_M_frame_168 kc ks loc (.long x :: st) h = wps rm K Q c_M_frame_170 kc ks (eg_set2 loc 14 (.long x)) (st) h := gk_lstore
theorem s_M_frame_170 {x : Int64} {l0 l1 l2 l3 l4 l5 l6 l7 l8 l9 l10 l11 : Option Value} {l : eg_Lo} : wps rm K Q c_M_frame_170 kc ks (l0 :: l1 :: l2 :: l3 :: l4 :: l5 :: l6 :: l7 :: l8 :: l9 :: l10 :: l11 :: some (.long x) :: l) (st) h = wps rm K Q c_M_frame_172 kc ks (l0 :: l1 :: l2 :: l3 :: l4 :: l5 :: l6 :: l7 :: l8 :: l9 :: l10 :: l11 :: some (.long x) :: l) (.long x :: st) h := gk_lload rfl
theorem s_M_frame_172 {x : Int32} {l0 l1 : Option Value} {l : eg_Lo} : wps rm K Q c_M_frame_172 kc ks (l0 :: l1 :: some (.int x) :: l) (st) h = wps rm K Q c_M_frame_173 kc ks (l0 :: l1 :: some (.int x) :: l) (.int x :: st) h := gk_iload rfl
theorem s_M_frame_173 {x : Int32} : wps rm K Q c_M_frame_173 kc ks loc (.int x :: st) h = wps rm K Q c_M_frame_174 kc ks loc (.long (x.toInt64) :: st) h := gk_i2l
theorem s_M_frame_174 {x y : Int64} : wps rm K Q c_M_frame_174 kc ks loc (.long y :: .long x :: st) h = wps rm K Q c_M_frame_175 kc ks loc (.long (x * y) :: st) h := gk_lmul
theorem s_M_frame_175 {x : Int64} {l0 l1 l2 l3 l4 l5 l6 l7 : Option Value} {l : eg_Lo} : wps rm K Q c_M_frame_175 kc ks (l0 :: l1 :: l2 :: l3 :: l4 :: l5 :: l6 :: l7 :: some (.long x) :: l) (st) h = wps rm K Q c_M_frame_177 kc ks (l0 :: l1 :: l2 :: l3 :: l4 :: l5 :: l6 :: l7 :: some (.long x) :: l) (.long x :: st) h := gk_lload rfl
theorem s_M_frame_177 {x : Int32} {l0 l1 l2 l3 : Option Value} {l : eg_Lo} : wps rm K Q c_M_frame_177 kc ks (l0 :: l1 :: l2 :: l3 :: some (.int x) :: l) (st) h = wps rm K Q c_M_frame_179 kc ks (l0 :: l1 :: l2 :: l3 :: some (.int x) :: l) (.int x :: st) h := gk_iload rfl
theorem s_M_frame_179 {x : Int32} : wps rm K Q c_M_frame_179 kc ks loc (.int x :: st) h = wps rm K Q c_M_frame_180 kc ks loc (.long (x.toInt64) :: st) h := gk_i2l
theorem s_M_frame_180 {x y : Int64} : wps rm K Q c_M_frame_180 kc ks loc (.long y :: .long x :: st) h = wps rm K Q c_M_frame_181 kc ks loc (.long (x * y) :: st) h := gk_lmul
theorem s_M_frame_181 {x y : Int64} : wps rm K Q c_M_frame_181 kc ks loc (.long y :: .long x :: st) h = wps rm K Q c_M_frame_182 kc ks loc (.long (x - y) :: st) h := gk_lsub
theorem s_M_frame_182 {x : Int64} : wps rm K Q c_M_frame_182 kc ks loc (.long x :: st) h = wps rm K Q c_M_frame_184 kc ks (eg_set2 loc 16 (.long x)) (st) h := gk_lstore
theorem s_M_frame_184 {x : Int64} {l0 l1 l2 l3 l4 l5 l6 l7 : Option Value} {l : eg_Lo} : wps rm K Q c_M_frame_184 kc ks (l0 :: l1 :: l2 :: l3 :: l4 :: l5 :: l6 :: l7 :: some (.long x) :: l) (st) h = wps rm K Q c_M_frame_186 kc ks (l0 :: l1 :: l2 :: l3 :: l4 :: l5 :: l6 :: l7 :: some (.long x) :: l) (.long x :: st) h := gk_lload rfl
theorem s_M_frame_186 {x : Int32} {l0 l1 l2 : Option Value} {l : eg_Lo} : wps rm K Q c_M_frame_186 kc ks (l0 :: l1 :: l2 :: some (.int x) :: l) (st) h = wps rm K Q c_M_frame_187 kc ks (l0 :: l1 :: l2 :: some (.int x) :: l) (.int x :: st) h := gk_iload rfl
theorem s_M_frame_187 {x : Int32} : wps rm K Q c_M_frame_187 kc ks loc (.int x :: st) h = wps rm K Q c_M_frame_188 kc ks loc (.long (x.toInt64) :: st) h := gk_i2l
theorem s_M_frame_188 {x y : Int64} : wps rm K Q c_M_frame_188 kc ks loc (.long y :: .long x :: st) h = wps rm K Q c_M_frame_189 kc ks loc (.long (x * y) :: st) h := gk_lmul
theorem s_M_frame_189 {x : Int64} {l0 l1 l2 l3 l4 l5 l6 l7 l8 l9 : Option Value} {l : eg_Lo} : wps rm K Q c_M_frame_189 kc ks (l0 :: l1 :: l2 :: l3 :: l4 :: l5 :: l6 :: l7 :: l8 :: l9 :: some (.long x) :: l) (st) h = wps rm K Q c_M_frame_191 kc ks (l0 :: l1 :: l2 :: l3 :: l4 :: l5 :: l6 :: l7 :: l8 :: l9 :: some (.long x) :: l) (.long x :: st) h := gk_lload rfl
theorem s_M_frame_191 {x : Int32} {l0 l1 : Option Value} {l : eg_Lo} : wps rm K Q c_M_frame_191 kc ks (l0 :: l1 :: some (.int x) :: l) (st) h = wps rm K Q c_M_frame_192 kc ks (l0 :: l1 :: some (.int x) :: l) (.int x :: st) h := gk_iload rfl
theorem s_M_frame_192 {x : Int32} : wps rm K Q c_M_frame_192 kc ks loc (.int x :: st) h = wps rm K Q c_M_frame_193 kc ks loc (.long (x.toInt64) :: st) h := gk_i2l
theorem s_M_frame_193 {x y : Int64} : wps rm K Q c_M_frame_193 kc ks loc (.long y :: .long x :: st) h = wps rm K Q c_M_frame_194 kc ks loc (.long (x * y) :: st) h := gk_lmul
theorem s_M_frame_194 {x y : Int64} : wps rm K Q c_M_frame_194 kc ks loc (.long y :: .long x :: st) h = wps rm K Q c_M_frame_195 kc ks loc (.long (x - y) :: st) h := gk_lsub
theorem s_M_frame_195 {x : Int64} : wps rm K Q c_M_frame_195 kc ks loc (.long x :: st) h = wps rm K Q c_M_frame_197 kc ks (eg_set2 loc 18 (.long x)) (st) h := gk_lstore
theorem s_M_frame_197 {x : Int64} {l0 l1 l2 l3 l4 l5 l6 l7 l8 l9 l10 l11 l12 l13 : Option Value} {l : eg_Lo} : wps rm K Q c_M_frame_197 kc ks (l0 :: l1 :: l2 :: l3 :: l4 :: l5 :: l6 :: l7 :: l8 :: l9 :: l10 :: l11 :: l12 :: l13 :: some (.long x) :: l) (st) h = wps rm K Q c_M_frame_199 kc ks (l0 :: l1 :: l2 :: l3 :: l4 :: l5 :: l6 :: l7 :: l8 :: l9 :: l10 :: l11 :: l12 :: l13 :: some (.long x) :: l) (.long x :: st) h := gk_lload rfl
theorem s_M_frame_199  : wps rm K Q c_M_frame_199 kc ks loc (st) h = wps rm K Q c_M_frame_200 kc ks loc (.long (0) :: st) h := gk_lc (by decide)
theorem s_M_frame_200 {x y : Int64} : wps rm K Q c_M_frame_200 kc ks loc (.long y :: .long x :: st) h = wps rm K Q c_M_frame_201 kc ks loc (.int (lg_cmp x y) :: st) h := gk_lcmp
theorem s_M_frame_201 {x : Int32} : wps rm K Q c_M_frame_201 kc ks loc (.int x :: st) h = ((¬ x = 0 → K 226 kc ks loc st h) ∧ (x = 0 → wps rm K Q c_M_frame_204 kc ks loc (st) h)) := gk_if1_ne
theorem s_M_frame_204 {x : Int64} {l0 l1 l2 l3 l4 l5 l6 l7 l8 l9 l10 l11 l12 l13 l14 l15 : Option Value} {l : eg_Lo} : wps rm K Q c_M_frame_204 kc ks (l0 :: l1 :: l2 :: l3 :: l4 :: l5 :: l6 :: l7 :: l8 :: l9 :: l10 :: l11 :: l12 :: l13 :: l14 :: l15 :: some (.long x) :: l) (st) h = wps rm K Q c_M_frame_206 kc ks (l0 :: l1 :: l2 :: l3 :: l4 :: l5 :: l6 :: l7 :: l8 :: l9 :: l10 :: l11 :: l12 :: l13 :: l14 :: l15 :: some (.long x) :: l) (.long x :: st) h := gk_lload rfl
theorem s_M_frame_206  : wps rm K Q c_M_frame_206 kc ks loc (st) h = wps rm K Q c_M_frame_207 kc ks loc (.long (0) :: st) h := gk_lc (by decide)
theorem s_M_frame_207 {x y : Int64} : wps rm K Q c_M_frame_207 kc ks loc (.long y :: .long x :: st) h = wps rm K Q c_M_frame_208 kc ks loc (.int (lg_cmp x y) :: st) h := gk_lcmp
theorem s_M_frame_208 {x : Int32} : wps rm K Q c_M_frame_208 kc ks loc (.int x :: st) h = ((¬ x = 0 → K 226 kc ks loc st h) ∧ (x = 0 → wps rm K Q c_M_frame_211 kc ks loc (st) h)) := gk_if1_ne
theorem s_M_frame_211 {x : Int64} {l0 l1 l2 l3 l4 l5 l6 l7 l8 l9 l10 l11 l12 l13 l14 l15 l16 l17 : Option Value} {l : eg_Lo} : wps rm K Q c_M_frame_211 kc ks (l0 :: l1 :: l2 :: l3 :: l4 :: l5 :: l6 :: l7 :: l8 :: l9 :: l10 :: l11 :: l12 :: l13 :: l14 :: l15 :: l16 :: l17 :: some (.long x) :: l) (st) h = wps rm K Q c_M_frame_213 kc ks (l0 :: l1 :: l2 :: l3 :: l4 :: l5 :: l6 :: l7 :: l8 :: l9 :: l10 :: l11 :: l12 :: l13 :: l14 :: l15 :: l16 :: l17 :: some (.long x) :: l) (.long x :: st) h := gk_lload rfl
theorem s_M_frame_213  : wps rm K Q c_M_frame_213 kc ks loc (st) h = wps rm K Q c_M_frame_214 kc ks loc (.long (0) :: st) h := gk_lc (by decide)
theorem s_M_frame_214 {x y : Int64} : wps rm K Q c_M_frame_214 kc ks loc (.long y :: .long x :: st) h = wps rm K Q c_M_frame_215 kc ks loc (.int (lg_cmp x y) :: st) h := gk_lcmp
theorem s_M_frame_215 {x : Int32} : wps rm K Q c_M_frame_215 kc ks loc (.int x :: st) h = ((¬ x = 0 → K 226 kc ks loc st h) ∧ (x = 0 → wps rm K Q c_M_frame_218 kc ks loc (st) h)) := gk_if1_ne
theorem s_M_frame_218 {x : Nat} {l : eg_Lo} : wps rm K Q c_M_frame_218 kc ks (some (.ref x) :: l) (st) h = wps rm K Q c_M_frame_219 kc ks (some (.ref x) :: l) (.ref x :: st) h := gk_aload rfl
theorem s_M_frame_219  : wps rm K Q c_M_frame_219 kc ks loc (st) h = wps rm K Q c_M_frame_222 kc ks loc (.long (-1000000000000000003) :: st) h := gk_lc (by decide)
theorem s_M_frame_222  {a1 : Value} {x : Nat} : wps rm K Q c_M_frame_222 kc ks loc (a1 :: .ref (x + 1) :: st) h = (eg_cls h x 12 ∧ st.length ≤ 4 ∧ eg_Cs n_M_finding (.ref (x + 1) :: [a1]) h (fun v h9 => wps rm K Q c_M_frame_225 kc ks loc (v.toList ++ st) h9)) := eg_c1_1
theorem s_M_frame_225 {x : Int64} : wps rm K Q c_M_frame_225 kc ks loc ([.long x]) h = (kc = rm.cells ∧ Q (some (.long x)) h) := gk_lret
theorem s_M_frame_226 {x : Int64} {l0 l1 l2 l3 l4 l5 l6 l7 : Option Value} {l : eg_Lo} : wps rm K Q c_M_frame_226 kc ks (l0 :: l1 :: l2 :: l3 :: l4 :: l5 :: l6 :: l7 :: some (.long x) :: l) (st) h = wps rm K Q c_M_frame_228 kc ks (l0 :: l1 :: l2 :: l3 :: l4 :: l5 :: l6 :: l7 :: some (.long x) :: l) (.long x :: st) h := gk_lload rfl
theorem s_M_frame_228 {x : Int64} {l0 l1 l2 l3 l4 l5 l6 l7 : Option Value} {l : eg_Lo} : wps rm K Q c_M_frame_228 kc ks (l0 :: l1 :: l2 :: l3 :: l4 :: l5 :: l6 :: l7 :: some (.long x) :: l) (st) h = wps rm K Q c_M_frame_230 kc ks (l0 :: l1 :: l2 :: l3 :: l4 :: l5 :: l6 :: l7 :: some (.long x) :: l) (.long x :: st) h := gk_lload rfl
theorem s_M_frame_230 {x y : Int64} : wps rm K Q c_M_frame_230 kc ks loc (.long y :: .long x :: st) h = wps rm K Q c_M_frame_231 kc ks loc (.long (x * y) :: st) h := gk_lmul
theorem s_M_frame_231 {x : Int64} {l0 l1 l2 l3 l4 l5 l6 l7 l8 l9 : Option Value} {l : eg_Lo} : wps rm K Q c_M_frame_231 kc ks (l0 :: l1 :: l2 :: l3 :: l4 :: l5 :: l6 :: l7 :: l8 :: l9 :: some (.long x) :: l) (st) h = wps rm K Q c_M_frame_233 kc ks (l0 :: l1 :: l2 :: l3 :: l4 :: l5 :: l6 :: l7 :: l8 :: l9 :: some (.long x) :: l) (.long x :: st) h := gk_lload rfl
theorem s_M_frame_233 {x : Int64} {l0 l1 l2 l3 l4 l5 l6 l7 l8 l9 : Option Value} {l : eg_Lo} : wps rm K Q c_M_frame_233 kc ks (l0 :: l1 :: l2 :: l3 :: l4 :: l5 :: l6 :: l7 :: l8 :: l9 :: some (.long x) :: l) (st) h = wps rm K Q c_M_frame_235 kc ks (l0 :: l1 :: l2 :: l3 :: l4 :: l5 :: l6 :: l7 :: l8 :: l9 :: some (.long x) :: l) (.long x :: st) h := gk_lload rfl
theorem s_M_frame_235 {x y : Int64} : wps rm K Q c_M_frame_235 kc ks loc (.long y :: .long x :: st) h = wps rm K Q c_M_frame_236 kc ks loc (.long (x * y) :: st) h := gk_lmul
theorem s_M_frame_236 {x y : Int64} : wps rm K Q c_M_frame_236 kc ks loc (.long y :: .long x :: st) h = wps rm K Q c_M_frame_237 kc ks loc (.long (x + y) :: st) h := gk_ladd
theorem s_M_frame_237 {x : Int64} {l0 l1 l2 l3 l4 l5 l6 l7 l8 l9 l10 l11 : Option Value} {l : eg_Lo} : wps rm K Q c_M_frame_237 kc ks (l0 :: l1 :: l2 :: l3 :: l4 :: l5 :: l6 :: l7 :: l8 :: l9 :: l10 :: l11 :: some (.long x) :: l) (st) h = wps rm K Q c_M_frame_239 kc ks (l0 :: l1 :: l2 :: l3 :: l4 :: l5 :: l6 :: l7 :: l8 :: l9 :: l10 :: l11 :: some (.long x) :: l) (.long x :: st) h := gk_lload rfl
theorem s_M_frame_239 {x : Int64} {l0 l1 l2 l3 l4 l5 l6 l7 l8 l9 l10 l11 : Option Value} {l : eg_Lo} : wps rm K Q c_M_frame_239 kc ks (l0 :: l1 :: l2 :: l3 :: l4 :: l5 :: l6 :: l7 :: l8 :: l9 :: l10 :: l11 :: some (.long x) :: l) (st) h = wps rm K Q c_M_frame_241 kc ks (l0 :: l1 :: l2 :: l3 :: l4 :: l5 :: l6 :: l7 :: l8 :: l9 :: l10 :: l11 :: some (.long x) :: l) (.long x :: st) h := gk_lload rfl
theorem s_M_frame_241 {x y : Int64} : wps rm K Q c_M_frame_241 kc ks loc (.long y :: .long x :: st) h = wps rm K Q c_M_frame_242 kc ks loc (.long (x * y) :: st) h := gk_lmul
theorem s_M_frame_242 {x y : Int64} : wps rm K Q c_M_frame_242 kc ks loc (.long y :: .long x :: st) h = wps rm K Q c_M_frame_243 kc ks loc (.long (x + y) :: st) h := gk_ladd
theorem s_M_frame_243 {x : Int64} : wps rm K Q c_M_frame_243 kc ks loc (.long x :: st) h = wps rm K Q c_M_frame_245 kc ks (eg_set2 loc 20 (.long x)) (st) h := gk_lstore
theorem s_M_frame_245 {x : Int64} {l0 l1 l2 l3 l4 l5 l6 l7 : Option Value} {l : eg_Lo} : wps rm K Q c_M_frame_245 kc ks (l0 :: l1 :: l2 :: l3 :: l4 :: l5 :: l6 :: l7 :: some (.long x) :: l) (st) h = wps rm K Q c_M_frame_247 kc ks (l0 :: l1 :: l2 :: l3 :: l4 :: l5 :: l6 :: l7 :: some (.long x) :: l) (.long x :: st) h := gk_lload rfl
theorem s_M_frame_247 {x : Int32} {l0 l1 : Option Value} {l : eg_Lo} : wps rm K Q c_M_frame_247 kc ks (l0 :: l1 :: some (.int x) :: l) (st) h = wps rm K Q c_M_frame_248 kc ks (l0 :: l1 :: some (.int x) :: l) (.int x :: st) h := gk_iload rfl
theorem s_M_frame_248 {x : Int32} : wps rm K Q c_M_frame_248 kc ks loc (.int x :: st) h = wps rm K Q c_M_frame_249 kc ks loc (.long (x.toInt64) :: st) h := gk_i2l
theorem s_M_frame_249 {x y : Int64} : wps rm K Q c_M_frame_249 kc ks loc (.long y :: .long x :: st) h = wps rm K Q c_M_frame_250 kc ks loc (.long (x * y) :: st) h := gk_lmul
theorem s_M_frame_250 {x : Int64} {l0 l1 l2 l3 l4 l5 l6 l7 l8 l9 : Option Value} {l : eg_Lo} : wps rm K Q c_M_frame_250 kc ks (l0 :: l1 :: l2 :: l3 :: l4 :: l5 :: l6 :: l7 :: l8 :: l9 :: some (.long x) :: l) (st) h = wps rm K Q c_M_frame_252 kc ks (l0 :: l1 :: l2 :: l3 :: l4 :: l5 :: l6 :: l7 :: l8 :: l9 :: some (.long x) :: l) (.long x :: st) h := gk_lload rfl
theorem s_M_frame_252 {x : Int32} {l0 l1 l2 : Option Value} {l : eg_Lo} : wps rm K Q c_M_frame_252 kc ks (l0 :: l1 :: l2 :: some (.int x) :: l) (st) h = wps rm K Q c_M_frame_253 kc ks (l0 :: l1 :: l2 :: some (.int x) :: l) (.int x :: st) h := gk_iload rfl
theorem s_M_frame_253 {x : Int32} : wps rm K Q c_M_frame_253 kc ks loc (.int x :: st) h = wps rm K Q c_M_frame_254 kc ks loc (.long (x.toInt64) :: st) h := gk_i2l
theorem s_M_frame_254 {x y : Int64} : wps rm K Q c_M_frame_254 kc ks loc (.long y :: .long x :: st) h = wps rm K Q c_M_frame_255 kc ks loc (.long (x * y) :: st) h := gk_lmul
theorem s_M_frame_255 {x y : Int64} : wps rm K Q c_M_frame_255 kc ks loc (.long y :: .long x :: st) h = wps rm K Q c_M_frame_256 kc ks loc (.long (x + y) :: st) h := gk_ladd
theorem s_M_frame_256 {x : Int64} {l0 l1 l2 l3 l4 l5 l6 l7 l8 l9 l10 l11 : Option Value} {l : eg_Lo} : wps rm K Q c_M_frame_256 kc ks (l0 :: l1 :: l2 :: l3 :: l4 :: l5 :: l6 :: l7 :: l8 :: l9 :: l10 :: l11 :: some (.long x) :: l) (st) h = wps rm K Q c_M_frame_258 kc ks (l0 :: l1 :: l2 :: l3 :: l4 :: l5 :: l6 :: l7 :: l8 :: l9 :: l10 :: l11 :: some (.long x) :: l) (.long x :: st) h := gk_lload rfl
theorem s_M_frame_258 {x : Int32} {l0 l1 l2 l3 : Option Value} {l : eg_Lo} : wps rm K Q c_M_frame_258 kc ks (l0 :: l1 :: l2 :: l3 :: some (.int x) :: l) (st) h = wps rm K Q c_M_frame_260 kc ks (l0 :: l1 :: l2 :: l3 :: some (.int x) :: l) (.int x :: st) h := gk_iload rfl
theorem s_M_frame_260 {x : Int32} : wps rm K Q c_M_frame_260 kc ks loc (.int x :: st) h = wps rm K Q c_M_frame_261 kc ks loc (.long (x.toInt64) :: st) h := gk_i2l
theorem s_M_frame_261 {x y : Int64} : wps rm K Q c_M_frame_261 kc ks loc (.long y :: .long x :: st) h = wps rm K Q c_M_frame_262 kc ks loc (.long (x * y) :: st) h := gk_lmul
theorem s_M_frame_262 {x y : Int64} : wps rm K Q c_M_frame_262 kc ks loc (.long y :: .long x :: st) h = wps rm K Q c_M_frame_263 kc ks loc (.long (x + y) :: st) h := gk_ladd
theorem s_M_frame_263 {x : Int64} : wps rm K Q c_M_frame_263 kc ks loc (.long x :: st) h = wps rm K Q c_M_frame_265 kc ks (eg_set2 loc 22 (.long x)) (st) h := gk_lstore
theorem s_M_frame_265 {x : Int64} {l0 l1 l2 l3 l4 l5 l6 l7 : Option Value} {l : eg_Lo} : wps rm K Q c_M_frame_265 kc ks (l0 :: l1 :: l2 :: l3 :: l4 :: l5 :: l6 :: l7 :: some (.long x) :: l) (st) h = wps rm K Q c_M_frame_267 kc ks (l0 :: l1 :: l2 :: l3 :: l4 :: l5 :: l6 :: l7 :: some (.long x) :: l) (.long x :: st) h := gk_lload rfl
theorem s_M_frame_267 {x : Int64} {l0 l1 l2 l3 l4 l5 l6 l7 l8 l9 : Option Value} {l : eg_Lo} : wps rm K Q c_M_frame_267 kc ks (l0 :: l1 :: l2 :: l3 :: l4 :: l5 :: l6 :: l7 :: l8 :: l9 :: some (.long x) :: l) (st) h = wps rm K Q c_M_frame_269 kc ks (l0 :: l1 :: l2 :: l3 :: l4 :: l5 :: l6 :: l7 :: l8 :: l9 :: some (.long x) :: l) (.long x :: st) h := gk_lload rfl
theorem s_M_frame_269 {x : Int64} {l0 l1 l2 l3 l4 l5 l6 l7 l8 l9 l10 l11 : Option Value} {l : eg_Lo} : wps rm K Q c_M_frame_269 kc ks (l0 :: l1 :: l2 :: l3 :: l4 :: l5 :: l6 :: l7 :: l8 :: l9 :: l10 :: l11 :: some (.long x) :: l) (st) h = wps rm K Q c_M_frame_271 kc ks (l0 :: l1 :: l2 :: l3 :: l4 :: l5 :: l6 :: l7 :: l8 :: l9 :: l10 :: l11 :: some (.long x) :: l) (.long x :: st) h := gk_lload rfl
theorem s_M_frame_271 {x : Nat} {l : eg_Lo} : wps rm K Q c_M_frame_271 kc ks (some (.ref x) :: l) (st) h = wps rm K Q c_M_frame_272 kc ks (some (.ref x) :: l) (.ref x :: st) h := gk_aload rfl
theorem s_M_frame_272 {x : Nat} : wps rm K Q c_M_frame_272 kc ks loc (.ref (x + 1) :: st) h = eg_gf h x 12 15 (fun v => wps rm K Q c_M_frame_275 kc ks loc (v :: st) h) := gk_gf
theorem s_M_frame_275  : wps rm K Q c_M_frame_275 kc ks loc (st) h = wps rm K Q c_M_frame_276 kc ks loc (.int (0) :: st) h := gk_ic (by decide)
theorem s_M_frame_276  : wps rm K Q c_M_frame_276 kc ks loc (st) h = wps rm K Q c_M_frame_277 kc ks loc (.int (0) :: st) h := gk_ic (by decide)
theorem s_M_frame_277  {a1 : Value} {a2 : Value} {a3 : Value} {a4 : Value} {a5 : Value} {a6 : Value} : wps rm K Q c_M_frame_277 kc ks loc (a6 :: a5 :: a4 :: a3 :: a2 :: a1 :: st) h = (st.length ≤ 4 ∧ eg_Cs n_M_lowest [a1, a2, a3, a4, a5, a6] h (fun v h9 => wps rm K Q c_M_frame_280 kc ks loc (v.toList ++ st) h9)) := eg_c0_6
theorem s_M_frame_280 {x : Int32} {l0 l1 : Option Value} {l : eg_Lo} : wps rm K Q c_M_frame_280 kc ks (l0 :: l1 :: some (.int x) :: l) (st) h = wps rm K Q c_M_frame_281 kc ks (l0 :: l1 :: some (.int x) :: l) (.int x :: st) h := gk_iload rfl
theorem s_M_frame_281 {x : Int32} : wps rm K Q c_M_frame_281 kc ks loc (.int x :: st) h = wps rm K Q c_M_frame_282 kc ks loc (.long (x.toInt64) :: st) h := gk_i2l
theorem s_M_frame_282 {x : Int64} {l0 l1 l2 l3 l4 l5 l6 l7 l8 l9 l10 l11 l12 l13 l14 l15 l16 l17 l18 l19 : Option Value} {l : eg_Lo} : wps rm K Q c_M_frame_282 kc ks (l0 :: l1 :: l2 :: l3 :: l4 :: l5 :: l6 :: l7 :: l8 :: l9 :: l10 :: l11 :: l12 :: l13 :: l14 :: l15 :: l16 :: l17 :: l18 :: l19 :: some (.long x) :: l) (st) h = wps rm K Q c_M_frame_284 kc ks (l0 :: l1 :: l2 :: l3 :: l4 :: l5 :: l6 :: l7 :: l8 :: l9 :: l10 :: l11 :: l12 :: l13 :: l14 :: l15 :: l16 :: l17 :: l18 :: l19 :: some (.long x) :: l) (.long x :: st) h := gk_lload rfl
theorem s_M_frame_284 {x y : Int64} : wps rm K Q c_M_frame_284 kc ks loc (.long y :: .long x :: st) h = wps rm K Q c_M_frame_285 kc ks loc (.long (x * y) :: st) h := gk_lmul
theorem s_M_frame_285 {x : Int64} {l0 l1 l2 l3 l4 l5 l6 l7 : Option Value} {l : eg_Lo} : wps rm K Q c_M_frame_285 kc ks (l0 :: l1 :: l2 :: l3 :: l4 :: l5 :: l6 :: l7 :: some (.long x) :: l) (st) h = wps rm K Q c_M_frame_287 kc ks (l0 :: l1 :: l2 :: l3 :: l4 :: l5 :: l6 :: l7 :: some (.long x) :: l) (.long x :: st) h := gk_lload rfl
theorem s_M_frame_287 {x : Int64} {l0 l1 l2 l3 l4 l5 l6 l7 l8 l9 l10 l11 l12 l13 l14 l15 l16 l17 l18 l19 l20 l21 : Option Value} {l : eg_Lo} : wps rm K Q c_M_frame_287 kc ks (l0 :: l1 :: l2 :: l3 :: l4 :: l5 :: l6 :: l7 :: l8 :: l9 :: l10 :: l11 :: l12 :: l13 :: l14 :: l15 :: l16 :: l17 :: l18 :: l19 :: l20 :: l21 :: some (.long x) :: l) (st) h = wps rm K Q c_M_frame_289 kc ks (l0 :: l1 :: l2 :: l3 :: l4 :: l5 :: l6 :: l7 :: l8 :: l9 :: l10 :: l11 :: l12 :: l13 :: l14 :: l15 :: l16 :: l17 :: l18 :: l19 :: l20 :: l21 :: some (.long x) :: l) (.long x :: st) h := gk_lload rfl
theorem s_M_frame_289 {x y : Int64} : wps rm K Q c_M_frame_289 kc ks loc (.long y :: .long x :: st) h = wps rm K Q c_M_frame_290 kc ks loc (.long (x * y) :: st) h := gk_lmul
theorem s_M_frame_290 {x y : Int64} : wps rm K Q c_M_frame_290 kc ks loc (.long y :: .long x :: st) h = wps rm K Q c_M_frame_291 kc ks loc (.long (x - y) :: st) h := gk_lsub
theorem s_M_frame_291 {x : Int32} {l0 l1 l2 : Option Value} {l : eg_Lo} : wps rm K Q c_M_frame_291 kc ks (l0 :: l1 :: l2 :: some (.int x) :: l) (st) h = wps rm K Q c_M_frame_292 kc ks (l0 :: l1 :: l2 :: some (.int x) :: l) (.int x :: st) h := gk_iload rfl
theorem s_M_frame_292 {x : Int32} : wps rm K Q c_M_frame_292 kc ks loc (.int x :: st) h = wps rm K Q c_M_frame_293 kc ks loc (.long (x.toInt64) :: st) h := gk_i2l
theorem s_M_frame_293 {x : Int64} {l0 l1 l2 l3 l4 l5 l6 l7 l8 l9 l10 l11 l12 l13 l14 l15 l16 l17 l18 l19 : Option Value} {l : eg_Lo} : wps rm K Q c_M_frame_293 kc ks (l0 :: l1 :: l2 :: l3 :: l4 :: l5 :: l6 :: l7 :: l8 :: l9 :: l10 :: l11 :: l12 :: l13 :: l14 :: l15 :: l16 :: l17 :: l18 :: l19 :: some (.long x) :: l) (st) h = wps rm K Q c_M_frame_295 kc ks (l0 :: l1 :: l2 :: l3 :: l4 :: l5 :: l6 :: l7 :: l8 :: l9 :: l10 :: l11 :: l12 :: l13 :: l14 :: l15 :: l16 :: l17 :: l18 :: l19 :: some (.long x) :: l) (.long x :: st) h := gk_lload rfl
theorem s_M_frame_295 {x y : Int64} : wps rm K Q c_M_frame_295 kc ks loc (.long y :: .long x :: st) h = wps rm K Q c_M_frame_296 kc ks loc (.long (x * y) :: st) h := gk_lmul
theorem s_M_frame_296 {x : Int64} {l0 l1 l2 l3 l4 l5 l6 l7 l8 l9 : Option Value} {l : eg_Lo} : wps rm K Q c_M_frame_296 kc ks (l0 :: l1 :: l2 :: l3 :: l4 :: l5 :: l6 :: l7 :: l8 :: l9 :: some (.long x) :: l) (st) h = wps rm K Q c_M_frame_298 kc ks (l0 :: l1 :: l2 :: l3 :: l4 :: l5 :: l6 :: l7 :: l8 :: l9 :: some (.long x) :: l) (.long x :: st) h := gk_lload rfl
theorem s_M_frame_298 {x : Int64} {l0 l1 l2 l3 l4 l5 l6 l7 l8 l9 l10 l11 l12 l13 l14 l15 l16 l17 l18 l19 l20 l21 : Option Value} {l : eg_Lo} : wps rm K Q c_M_frame_298 kc ks (l0 :: l1 :: l2 :: l3 :: l4 :: l5 :: l6 :: l7 :: l8 :: l9 :: l10 :: l11 :: l12 :: l13 :: l14 :: l15 :: l16 :: l17 :: l18 :: l19 :: l20 :: l21 :: some (.long x) :: l) (st) h = wps rm K Q c_M_frame_300 kc ks (l0 :: l1 :: l2 :: l3 :: l4 :: l5 :: l6 :: l7 :: l8 :: l9 :: l10 :: l11 :: l12 :: l13 :: l14 :: l15 :: l16 :: l17 :: l18 :: l19 :: l20 :: l21 :: some (.long x) :: l) (.long x :: st) h := gk_lload rfl
theorem s_M_frame_300 {x y : Int64} : wps rm K Q c_M_frame_300 kc ks loc (.long y :: .long x :: st) h = wps rm K Q c_M_frame_301 kc ks loc (.long (x * y) :: st) h := gk_lmul
theorem s_M_frame_301 {x y : Int64} : wps rm K Q c_M_frame_301 kc ks loc (.long y :: .long x :: st) h = wps rm K Q c_M_frame_302 kc ks loc (.long (x - y) :: st) h := gk_lsub
theorem s_M_frame_302 {x : Int32} {l0 l1 l2 l3 : Option Value} {l : eg_Lo} : wps rm K Q c_M_frame_302 kc ks (l0 :: l1 :: l2 :: l3 :: some (.int x) :: l) (st) h = wps rm K Q c_M_frame_304 kc ks (l0 :: l1 :: l2 :: l3 :: some (.int x) :: l) (.int x :: st) h := gk_iload rfl
theorem s_M_frame_304 {x : Int32} : wps rm K Q c_M_frame_304 kc ks loc (.int x :: st) h = wps rm K Q c_M_frame_305 kc ks loc (.long (x.toInt64) :: st) h := gk_i2l
theorem s_M_frame_305 {x : Int64} {l0 l1 l2 l3 l4 l5 l6 l7 l8 l9 l10 l11 l12 l13 l14 l15 l16 l17 l18 l19 : Option Value} {l : eg_Lo} : wps rm K Q c_M_frame_305 kc ks (l0 :: l1 :: l2 :: l3 :: l4 :: l5 :: l6 :: l7 :: l8 :: l9 :: l10 :: l11 :: l12 :: l13 :: l14 :: l15 :: l16 :: l17 :: l18 :: l19 :: some (.long x) :: l) (st) h = wps rm K Q c_M_frame_307 kc ks (l0 :: l1 :: l2 :: l3 :: l4 :: l5 :: l6 :: l7 :: l8 :: l9 :: l10 :: l11 :: l12 :: l13 :: l14 :: l15 :: l16 :: l17 :: l18 :: l19 :: some (.long x) :: l) (.long x :: st) h := gk_lload rfl
theorem s_M_frame_307 {x y : Int64} : wps rm K Q c_M_frame_307 kc ks loc (.long y :: .long x :: st) h = wps rm K Q c_M_frame_308 kc ks loc (.long (x * y) :: st) h := gk_lmul
theorem s_M_frame_308 {x : Int64} {l0 l1 l2 l3 l4 l5 l6 l7 l8 l9 l10 l11 : Option Value} {l : eg_Lo} : wps rm K Q c_M_frame_308 kc ks (l0 :: l1 :: l2 :: l3 :: l4 :: l5 :: l6 :: l7 :: l8 :: l9 :: l10 :: l11 :: some (.long x) :: l) (st) h = wps rm K Q c_M_frame_310 kc ks (l0 :: l1 :: l2 :: l3 :: l4 :: l5 :: l6 :: l7 :: l8 :: l9 :: l10 :: l11 :: some (.long x) :: l) (.long x :: st) h := gk_lload rfl
theorem s_M_frame_310 {x : Int64} {l0 l1 l2 l3 l4 l5 l6 l7 l8 l9 l10 l11 l12 l13 l14 l15 l16 l17 l18 l19 l20 l21 : Option Value} {l : eg_Lo} : wps rm K Q c_M_frame_310 kc ks (l0 :: l1 :: l2 :: l3 :: l4 :: l5 :: l6 :: l7 :: l8 :: l9 :: l10 :: l11 :: l12 :: l13 :: l14 :: l15 :: l16 :: l17 :: l18 :: l19 :: l20 :: l21 :: some (.long x) :: l) (st) h = wps rm K Q c_M_frame_312 kc ks (l0 :: l1 :: l2 :: l3 :: l4 :: l5 :: l6 :: l7 :: l8 :: l9 :: l10 :: l11 :: l12 :: l13 :: l14 :: l15 :: l16 :: l17 :: l18 :: l19 :: l20 :: l21 :: some (.long x) :: l) (.long x :: st) h := gk_lload rfl
theorem s_M_frame_312 {x y : Int64} : wps rm K Q c_M_frame_312 kc ks loc (.long y :: .long x :: st) h = wps rm K Q c_M_frame_313 kc ks loc (.long (x * y) :: st) h := gk_lmul
theorem s_M_frame_313 {x y : Int64} : wps rm K Q c_M_frame_313 kc ks loc (.long y :: .long x :: st) h = wps rm K Q c_M_frame_314 kc ks loc (.long (x - y) :: st) h := gk_lsub
theorem s_M_frame_314 {x : Nat} {l : eg_Lo} : wps rm K Q c_M_frame_314 kc ks (some (.ref x) :: l) (st) h = wps rm K Q c_M_frame_315 kc ks (some (.ref x) :: l) (.ref x :: st) h := gk_aload rfl
theorem s_M_frame_315 {x : Nat} : wps rm K Q c_M_frame_315 kc ks loc (.ref (x + 1) :: st) h = eg_gf h x 12 15 (fun v => wps rm K Q c_M_frame_318 kc ks loc (v :: st) h) := gk_gf
theorem s_M_frame_318  : wps rm K Q c_M_frame_318 kc ks loc (st) h = wps rm K Q c_M_frame_319 kc ks loc (.int (3) :: st) h := gk_ic (by decide)
theorem s_M_frame_319  : wps rm K Q c_M_frame_319 kc ks loc (st) h = wps rm K Q c_M_frame_320 kc ks loc (.int (0) :: st) h := gk_ic (by decide)
theorem s_M_frame_320  {a1 : Value} {a2 : Value} {a3 : Value} {a4 : Value} {a5 : Value} {a6 : Value} : wps rm K Q c_M_frame_320 kc ks loc (a6 :: a5 :: a4 :: a3 :: a2 :: a1 :: st) h = (st.length ≤ 4 ∧ eg_Cs n_M_lowest [a1, a2, a3, a4, a5, a6] h (fun v h9 => wps rm K Q c_M_frame_323 kc ks loc (v.toList ++ st) h9)) := eg_c0_6
theorem s_M_frame_323 {x : Int64} {l0 l1 l2 l3 l4 l5 l6 l7 l8 l9 l10 l11 l12 l13 : Option Value} {l : eg_Lo} : wps rm K Q c_M_frame_323 kc ks (l0 :: l1 :: l2 :: l3 :: l4 :: l5 :: l6 :: l7 :: l8 :: l9 :: l10 :: l11 :: l12 :: l13 :: some (.long x) :: l) (st) h = wps rm K Q c_M_frame_325 kc ks (l0 :: l1 :: l2 :: l3 :: l4 :: l5 :: l6 :: l7 :: l8 :: l9 :: l10 :: l11 :: l12 :: l13 :: some (.long x) :: l) (.long x :: st) h := gk_lload rfl
theorem s_M_frame_325 {x : Int64} {l0 l1 l2 l3 l4 l5 l6 l7 l8 l9 l10 l11 l12 l13 l14 l15 : Option Value} {l : eg_Lo} : wps rm K Q c_M_frame_325 kc ks (l0 :: l1 :: l2 :: l3 :: l4 :: l5 :: l6 :: l7 :: l8 :: l9 :: l10 :: l11 :: l12 :: l13 :: l14 :: l15 :: some (.long x) :: l) (st) h = wps rm K Q c_M_frame_327 kc ks (l0 :: l1 :: l2 :: l3 :: l4 :: l5 :: l6 :: l7 :: l8 :: l9 :: l10 :: l11 :: l12 :: l13 :: l14 :: l15 :: some (.long x) :: l) (.long x :: st) h := gk_lload rfl
theorem s_M_frame_327 {x : Int64} {l0 l1 l2 l3 l4 l5 l6 l7 l8 l9 l10 l11 l12 l13 l14 l15 l16 l17 : Option Value} {l : eg_Lo} : wps rm K Q c_M_frame_327 kc ks (l0 :: l1 :: l2 :: l3 :: l4 :: l5 :: l6 :: l7 :: l8 :: l9 :: l10 :: l11 :: l12 :: l13 :: l14 :: l15 :: l16 :: l17 :: some (.long x) :: l) (st) h = wps rm K Q c_M_frame_329 kc ks (l0 :: l1 :: l2 :: l3 :: l4 :: l5 :: l6 :: l7 :: l8 :: l9 :: l10 :: l11 :: l12 :: l13 :: l14 :: l15 :: l16 :: l17 :: some (.long x) :: l) (.long x :: st) h := gk_lload rfl
theorem s_M_frame_329 {x : Nat} {l : eg_Lo} : wps rm K Q c_M_frame_329 kc ks (some (.ref x) :: l) (st) h = wps rm K Q c_M_frame_330 kc ks (some (.ref x) :: l) (.ref x :: st) h := gk_aload rfl
theorem s_M_frame_330 {x : Nat} : wps rm K Q c_M_frame_330 kc ks loc (.ref (x + 1) :: st) h = eg_gf h x 12 15 (fun v => wps rm K Q c_M_frame_333 kc ks loc (v :: st) h) := gk_gf
theorem s_M_frame_333  : wps rm K Q c_M_frame_333 kc ks loc (st) h = wps rm K Q c_M_frame_335 kc ks loc (.int (6) :: st) h := gk_ic (by decide)
theorem s_M_frame_335  : wps rm K Q c_M_frame_335 kc ks loc (st) h = wps rm K Q c_M_frame_336 kc ks loc (.int (0) :: st) h := gk_ic (by decide)
theorem s_M_frame_336  {a1 : Value} {a2 : Value} {a3 : Value} {a4 : Value} {a5 : Value} {a6 : Value} : wps rm K Q c_M_frame_336 kc ks loc (a6 :: a5 :: a4 :: a3 :: a2 :: a1 :: st) h = (st.length ≤ 4 ∧ eg_Cs n_M_lowest [a1, a2, a3, a4, a5, a6] h (fun v h9 => wps rm K Q c_M_frame_339 kc ks loc (v.toList ++ st) h9)) := eg_c0_6
theorem s_M_frame_339 {x : Nat} {l : eg_Lo} : wps rm K Q c_M_frame_339 kc ks (some (.ref x) :: l) (st) h = wps rm K Q c_M_frame_340 kc ks (some (.ref x) :: l) (.ref x :: st) h := gk_aload rfl
theorem s_M_frame_340 {x : Nat} : wps rm K Q c_M_frame_340 kc ks loc (.ref (x + 1) :: st) h = eg_gf h x 12 16 (fun v => wps rm K Q c_M_frame_343 kc ks loc (v :: st) h) := gk_gf
theorem s_M_frame_343  : wps rm K Q c_M_frame_343 kc ks loc (st) h = wps rm K Q c_M_frame_344 kc ks loc (.int (0) :: st) h := gk_ic (by decide)
theorem s_M_frame_344 {x : Nat} {l : eg_Lo} : wps rm K Q c_M_frame_344 kc ks (some (.ref x) :: l) (st) h = wps rm K Q c_M_frame_345 kc ks (some (.ref x) :: l) (.ref x :: st) h := gk_aload rfl
theorem s_M_frame_345 {x : Nat} : wps rm K Q c_M_frame_345 kc ks loc (.ref (x + 1) :: st) h = eg_gf h x 12 1 (fun v => wps rm K Q c_M_frame_348 kc ks loc (v :: st) h) := gk_gf
theorem s_M_frame_348 {x : Int32} {l0 l1 l2 l3 l4 l5 l6 : Option Value} {l : eg_Lo} : wps rm K Q c_M_frame_348 kc ks (l0 :: l1 :: l2 :: l3 :: l4 :: l5 :: l6 :: some (.int x) :: l) (st) h = wps rm K Q c_M_frame_350 kc ks (l0 :: l1 :: l2 :: l3 :: l4 :: l5 :: l6 :: some (.int x) :: l) (.int x :: st) h := gk_iload rfl
theorem s_M_frame_350 {x : Nat} {i : Int32} : wps rm K Q c_M_frame_350 kc ks loc (.int i :: .ref (x + 1) :: st) h = eg_ia h x i (fun v => wps rm K Q c_M_frame_351 kc ks loc (.int v :: st) h) := gk_iaload
theorem s_M_frame_351 {x : Nat} {i : Int32} {v : Int32} : wps rm K Q c_M_frame_351 kc ks loc (.int v :: .int i :: .ref (x + 1) :: st) h = eg_is h x i v (fun h9 => wps rm K Q c_M_frame_352 kc ks loc (st) h9) := gk_iastore
theorem s_M_frame_352 {x : Nat} {l : eg_Lo} : wps rm K Q c_M_frame_352 kc ks (some (.ref x) :: l) (st) h = wps rm K Q c_M_frame_353 kc ks (some (.ref x) :: l) (.ref x :: st) h := gk_aload rfl
theorem s_M_frame_353 {x : Nat} : wps rm K Q c_M_frame_353 kc ks loc (.ref (x + 1) :: st) h = eg_gf h x 12 16 (fun v => wps rm K Q c_M_frame_356 kc ks loc (v :: st) h) := gk_gf
theorem s_M_frame_356  : wps rm K Q c_M_frame_356 kc ks loc (st) h = wps rm K Q c_M_frame_357 kc ks loc (.int (1) :: st) h := gk_ic (by decide)
theorem s_M_frame_357 {x : Nat} {l : eg_Lo} : wps rm K Q c_M_frame_357 kc ks (some (.ref x) :: l) (st) h = wps rm K Q c_M_frame_358 kc ks (some (.ref x) :: l) (.ref x :: st) h := gk_aload rfl
theorem s_M_frame_358 {x : Nat} : wps rm K Q c_M_frame_358 kc ks loc (.ref (x + 1) :: st) h = eg_gf h x 12 2 (fun v => wps rm K Q c_M_frame_361 kc ks loc (v :: st) h) := gk_gf
theorem s_M_frame_361 {x : Int32} {l0 l1 l2 l3 l4 l5 l6 : Option Value} {l : eg_Lo} : wps rm K Q c_M_frame_361 kc ks (l0 :: l1 :: l2 :: l3 :: l4 :: l5 :: l6 :: some (.int x) :: l) (st) h = wps rm K Q c_M_frame_363 kc ks (l0 :: l1 :: l2 :: l3 :: l4 :: l5 :: l6 :: some (.int x) :: l) (.int x :: st) h := gk_iload rfl
theorem s_M_frame_363 {x : Nat} {i : Int32} : wps rm K Q c_M_frame_363 kc ks loc (.int i :: .ref (x + 1) :: st) h = eg_ia h x i (fun v => wps rm K Q c_M_frame_364 kc ks loc (.int v :: st) h) := gk_iaload
theorem s_M_frame_364 {x : Nat} {i : Int32} {v : Int32} : wps rm K Q c_M_frame_364 kc ks loc (.int v :: .int i :: .ref (x + 1) :: st) h = eg_is h x i v (fun h9 => wps rm K Q c_M_frame_365 kc ks loc (st) h9) := gk_iastore
theorem s_M_frame_365 {x : Nat} {l : eg_Lo} : wps rm K Q c_M_frame_365 kc ks (some (.ref x) :: l) (st) h = wps rm K Q c_M_frame_366 kc ks (some (.ref x) :: l) (.ref x :: st) h := gk_aload rfl
theorem s_M_frame_366 {x : Nat} : wps rm K Q c_M_frame_366 kc ks loc (.ref (x + 1) :: st) h = eg_gf h x 12 16 (fun v => wps rm K Q c_M_frame_369 kc ks loc (v :: st) h) := gk_gf
theorem s_M_frame_369  : wps rm K Q c_M_frame_369 kc ks loc (st) h = wps rm K Q c_M_frame_370 kc ks loc (.int (2) :: st) h := gk_ic (by decide)
theorem s_M_frame_370 {x : Nat} {l : eg_Lo} : wps rm K Q c_M_frame_370 kc ks (some (.ref x) :: l) (st) h = wps rm K Q c_M_frame_371 kc ks (some (.ref x) :: l) (.ref x :: st) h := gk_aload rfl
theorem s_M_frame_371 {x : Nat} : wps rm K Q c_M_frame_371 kc ks loc (.ref (x + 1) :: st) h = eg_gf h x 12 3 (fun v => wps rm K Q c_M_frame_374 kc ks loc (v :: st) h) := gk_gf
theorem s_M_frame_374 {x : Int32} {l0 l1 l2 l3 l4 l5 l6 : Option Value} {l : eg_Lo} : wps rm K Q c_M_frame_374 kc ks (l0 :: l1 :: l2 :: l3 :: l4 :: l5 :: l6 :: some (.int x) :: l) (st) h = wps rm K Q c_M_frame_376 kc ks (l0 :: l1 :: l2 :: l3 :: l4 :: l5 :: l6 :: some (.int x) :: l) (.int x :: st) h := gk_iload rfl
theorem s_M_frame_376 {x : Nat} {i : Int32} : wps rm K Q c_M_frame_376 kc ks loc (.int i :: .ref (x + 1) :: st) h = eg_ia h x i (fun v => wps rm K Q c_M_frame_377 kc ks loc (.int v :: st) h) := gk_iaload
theorem s_M_frame_377 {x : Nat} {i : Int32} {v : Int32} : wps rm K Q c_M_frame_377 kc ks loc (.int v :: .int i :: .ref (x + 1) :: st) h = eg_is h x i v (fun h9 => wps rm K Q c_M_frame_378 kc ks loc (st) h9) := gk_iastore
theorem s_M_frame_378 {x : Nat} {l : eg_Lo} : wps rm K Q c_M_frame_378 kc ks (some (.ref x) :: l) (st) h = wps rm K Q c_M_frame_379 kc ks (some (.ref x) :: l) (.ref x :: st) h := gk_aload rfl
theorem s_M_frame_379  : wps rm K Q c_M_frame_379 kc ks loc (st) h = wps rm K Q c_M_frame_380 kc ks loc (.int (1) :: st) h := gk_ic (by decide)
theorem s_M_frame_380 {x : Nat} {v : Int32} : wps rm K Q c_M_frame_380 kc ks loc (.int v :: .ref (x + 1) :: st) h = eg_pb h x 12 14 v (fun h9 => wps rm K Q c_M_frame_383 kc ks loc (st) h9) := gk_pb
theorem s_M_frame_383  : wps rm K Q c_M_frame_383 kc ks loc (st) h = wps rm K Q c_M_frame_384 kc ks loc (.long (1) :: st) h := gk_lc (by decide)
theorem s_M_frame_384 {x : Int64} : wps rm K Q c_M_frame_384 kc ks loc ([.long x]) h = (kc = rm.cells ∧ Q (some (.long x)) h) := gk_lret
def T_M_frame : List (Nat × List eg_I) := [(52, c_M_frame_52), (60, c_M_frame_60), (77, c_M_frame_77), (95, c_M_frame_95), (122, c_M_frame_122), (226, c_M_frame_226)]
theorem j_M_frame_52 {R : Nat → Nat → Nat → eg_Lo → List Value → List eg_E → Prop} {f pc0 : Nat} : eg_run rm R Q T_M_frame (f + 1) 52 kc ks loc st h = wps rm (eg_run rm R Q T_M_frame f) Q c_M_frame_52 kc ks loc st h := rfl
theorem j_M_frame_60 {R : Nat → Nat → Nat → eg_Lo → List Value → List eg_E → Prop} {f pc0 : Nat} : eg_run rm R Q T_M_frame (f + 1) 60 kc ks loc st h = wps rm (eg_run rm R Q T_M_frame f) Q c_M_frame_60 kc ks loc st h := rfl
theorem j_M_frame_77 {R : Nat → Nat → Nat → eg_Lo → List Value → List eg_E → Prop} {f pc0 : Nat} : eg_run rm R Q T_M_frame (f + 1) 77 kc ks loc st h = wps rm (eg_run rm R Q T_M_frame f) Q c_M_frame_77 kc ks loc st h := rfl
theorem j_M_frame_95 {R : Nat → Nat → Nat → eg_Lo → List Value → List eg_E → Prop} {f pc0 : Nat} : eg_run rm R Q T_M_frame (f + 1) 95 kc ks loc st h = wps rm (eg_run rm R Q T_M_frame f) Q c_M_frame_95 kc ks loc st h := rfl
theorem j_M_frame_122 {R : Nat → Nat → Nat → eg_Lo → List Value → List eg_E → Prop} {f pc0 : Nat} : eg_run rm R Q T_M_frame (f + 1) 122 kc ks loc st h = wps rm (eg_run rm R Q T_M_frame f) Q c_M_frame_122 kc ks loc st h := rfl
theorem j_M_frame_226 {R : Nat → Nat → Nat → eg_Lo → List Value → List eg_E → Prop} {f pc0 : Nat} : eg_run rm R Q T_M_frame (f + 1) 226 kc ks loc st h = wps rm (eg_run rm R Q T_M_frame f) Q c_M_frame_226 kc ks loc st h := rfl
end
theorem y_M_frame_0 : eg_seq m_M_frame 0 c_M_frame_0 = true := by decide +kernel
theorem y_M_frame_60 : eg_seq m_M_frame 60 c_M_frame_60 = true := by decide +kernel
theorem y_M_frame_77 : eg_seq m_M_frame 77 c_M_frame_77 = true := by decide +kernel
theorem y_M_frame_95 : eg_seq m_M_frame 95 c_M_frame_95 = true := by decide +kernel
theorem y_M_frame_122 : eg_seq m_M_frame 122 c_M_frame_122 = true := by decide +kernel
theorem y_M_frame_226 : eg_seq m_M_frame 226 c_M_frame_226 = true := by decide +kernel
theorem q_M_frame : ∀ q ∈ T_M_frame, eg_seq m_M_frame q.1 q.2 = true := by
  intro q hq
  simp only [T_M_frame, List.mem_cons, List.not_mem_nil, or_false] at hq
  rcases hq with rfl | rfl | rfl | rfl | rfl | rfl
  · exact (eg_seq_drop y_M_frame_0 23 : eg_seq m_M_frame 52 c_M_frame_52 = true)
  · exact y_M_frame_60
  · exact y_M_frame_77
  · exact y_M_frame_95
  · exact y_M_frame_122
  · exact y_M_frame_226
theorem md_M_frame : eg_md n_M_frame = m_M_frame := rfl
theorem mn_M_frame : n_M_frame < 202 := Nat.le_of_ble_eq_true rfl
theorem b_M_frame {as : List Value} {h : List eg_E} {Q : Option Value → List eg_E → Prop} (hf : (eg_fl as).length ≤ 24) : wps (eg_rm m_M_frame) (eg_run (eg_rm m_M_frame) (eg_R m_M_frame Q (h.length + 0)) Q T_M_frame 8) Q c_M_frame_0 0 0 (eg_entry 24 as) [] h → eg_Runs n_M_frame as h Q := eg_begin2 md_M_frame mn_M_frame y_M_frame_0 q_M_frame hf
/-! ===== M_axis ===== -/
def c_M_axis_53 : List eg_I := .inl (53, 1, .lreturn, 0, 0) :: []
def c_M_axis_50 : List eg_I := .inr (50, 1, 112, n_M_finding, 1, 12, 0, 0) :: c_M_axis_53
def c_M_axis_47 : List eg_I := .inl (47, 3, .sipush (-1000000000000000006), 138, 0) :: c_M_axis_50
def c_M_axis_46 : List eg_I := .inl (46, 1, .aload 0, 0, 0) :: c_M_axis_47
def c_M_axis_43 : List eg_I := .inl (43, 3, .goto (10), 53, 0) :: []
def c_M_axis_42 : List eg_I := .inl (42, 1, .laload, 0, 0) :: c_M_axis_43
def c_M_axis_41 : List eg_I := .inl (41, 1, .iadd, 0, 0) :: c_M_axis_42
def c_M_axis_40 : List eg_I := .inl (40, 1, .iload 2, 0, 0) :: c_M_axis_41
def c_M_axis_39 : List eg_I := .inl (39, 1, .imul, 0, 0) :: c_M_axis_40
def c_M_axis_38 : List eg_I := .inl (38, 1, .iload 1, 0, 0) :: c_M_axis_39
def c_M_axis_37 : List eg_I := .inl (37, 1, .iconst (3), 0, 0) :: c_M_axis_38
def c_M_axis_34 : List eg_I := .inl (34, 3, .getfield 54, 12, 15) :: c_M_axis_37
def c_M_axis_33 : List eg_I := .inl (33, 1, .aload 0, 0, 0) :: c_M_axis_34
def c_M_axis_30 : List eg_I := .inl (30, 3, .ifCond .eq (16), 46, 0) :: c_M_axis_33
def c_M_axis_27 : List eg_I := .inl (27, 3, .getfield 273, 12, 14) :: c_M_axis_30
def c_M_axis_26 : List eg_I := .inl (26, 1, .aload 0, 0, 0) :: c_M_axis_27
def c_M_axis_25 : List eg_I := .inl (25, 1, .lreturn, 0, 0) :: []
def c_M_axis_22 : List eg_I := .inr (22, 1, 112, n_M_finding, 1, 12, 0, 0) :: c_M_axis_25
def c_M_axis_19 : List eg_I := .inl (19, 3, .sipush (-1000000000000000001), 110, 0) :: c_M_axis_22
def c_M_axis_18 : List eg_I := .inl (18, 1, .aload 0, 0, 0) :: c_M_axis_19
def c_M_axis_15 : List eg_I := .inl (15, 3, .ifCond .ne (11), 26, 0) :: c_M_axis_18
def c_M_axis_12 : List eg_I := .inr (12, 0, 95, n_M_isIn, 3, 12, 0, 0) :: c_M_axis_15
def c_M_axis_11 : List eg_I := .inl (11, 1, .iconst (2), 0, 0) :: c_M_axis_12
def c_M_axis_10 : List eg_I := .inl (10, 1, .iconst (0), 0, 0) :: c_M_axis_11
def c_M_axis_9 : List eg_I := .inl (9, 1, .iload 2, 0, 0) :: c_M_axis_10
def c_M_axis_6 : List eg_I := .inl (6, 3, .ifCond .eq (12), 18, 0) :: c_M_axis_9
def c_M_axis_3 : List eg_I := .inr (3, 0, 95, n_M_isIn, 3, 12, 0, 0) :: c_M_axis_6
def c_M_axis_2 : List eg_I := .inl (2, 1, .iconst (2), 0, 0) :: c_M_axis_3
def c_M_axis_1 : List eg_I := .inl (1, 1, .iconst (0), 0, 0) :: c_M_axis_2
def c_M_axis_0 : List eg_I := .inl (0, 1, .iload 1, 0, 0) :: c_M_axis_1
section
variable {rm : Room} {K : Nat → Nat → Nat → eg_Lo → List Value → List eg_E → Prop} {Q : Option Value → List eg_E → Prop} {kc ks : Nat} {loc : eg_Lo} {st : List Value} {h : List eg_E}
theorem s_M_axis_0 {x : Int32} {l0 : Option Value} {l : eg_Lo} : wps rm K Q c_M_axis_0 kc ks (l0 :: some (.int x) :: l) (st) h = wps rm K Q c_M_axis_1 kc ks (l0 :: some (.int x) :: l) (.int x :: st) h := gk_iload rfl
theorem s_M_axis_1  : wps rm K Q c_M_axis_1 kc ks loc (st) h = wps rm K Q c_M_axis_2 kc ks loc (.int (0) :: st) h := gk_ic (by decide)
theorem s_M_axis_2  : wps rm K Q c_M_axis_2 kc ks loc (st) h = wps rm K Q c_M_axis_3 kc ks loc (.int (2) :: st) h := gk_ic (by decide)
theorem s_M_axis_3  {a1 : Value} {a2 : Value} {a3 : Value} : wps rm K Q c_M_axis_3 kc ks loc (a3 :: a2 :: a1 :: st) h = (st.length ≤ 4 ∧ eg_Cs n_M_isIn [a1, a2, a3] h (fun v h9 => wps rm K Q c_M_axis_6 kc ks loc (v.toList ++ st) h9)) := eg_c0_3
theorem s_M_axis_6 {x : Int32} : wps rm K Q c_M_axis_6 kc ks loc (.int x :: st) h = ((x = 0 → K 18 kc ks loc st h) ∧ (¬ x = 0 → wps rm K Q c_M_axis_9 kc ks loc (st) h)) := gk_if1_eq
theorem s_M_axis_9 {x : Int32} {l0 l1 : Option Value} {l : eg_Lo} : wps rm K Q c_M_axis_9 kc ks (l0 :: l1 :: some (.int x) :: l) (st) h = wps rm K Q c_M_axis_10 kc ks (l0 :: l1 :: some (.int x) :: l) (.int x :: st) h := gk_iload rfl
theorem s_M_axis_10  : wps rm K Q c_M_axis_10 kc ks loc (st) h = wps rm K Q c_M_axis_11 kc ks loc (.int (0) :: st) h := gk_ic (by decide)
theorem s_M_axis_11  : wps rm K Q c_M_axis_11 kc ks loc (st) h = wps rm K Q c_M_axis_12 kc ks loc (.int (2) :: st) h := gk_ic (by decide)
theorem s_M_axis_12  {a1 : Value} {a2 : Value} {a3 : Value} : wps rm K Q c_M_axis_12 kc ks loc (a3 :: a2 :: a1 :: st) h = (st.length ≤ 4 ∧ eg_Cs n_M_isIn [a1, a2, a3] h (fun v h9 => wps rm K Q c_M_axis_15 kc ks loc (v.toList ++ st) h9)) := eg_c0_3
theorem s_M_axis_15 {x : Int32} : wps rm K Q c_M_axis_15 kc ks loc (.int x :: st) h = ((¬ x = 0 → K 26 kc ks loc st h) ∧ (x = 0 → wps rm K Q c_M_axis_18 kc ks loc (st) h)) := gk_if1_ne
theorem s_M_axis_18 {x : Nat} {l : eg_Lo} : wps rm K Q c_M_axis_18 kc ks (some (.ref x) :: l) (st) h = wps rm K Q c_M_axis_19 kc ks (some (.ref x) :: l) (.ref x :: st) h := gk_aload rfl
theorem s_M_axis_19  : wps rm K Q c_M_axis_19 kc ks loc (st) h = wps rm K Q c_M_axis_22 kc ks loc (.long (-1000000000000000001) :: st) h := gk_lc (by decide)
theorem s_M_axis_22  {a1 : Value} {x : Nat} : wps rm K Q c_M_axis_22 kc ks loc (a1 :: .ref (x + 1) :: st) h = (eg_cls h x 12 ∧ st.length ≤ 4 ∧ eg_Cs n_M_finding (.ref (x + 1) :: [a1]) h (fun v h9 => wps rm K Q c_M_axis_25 kc ks loc (v.toList ++ st) h9)) := eg_c1_1
theorem s_M_axis_25 {x : Int64} : wps rm K Q c_M_axis_25 kc ks loc ([.long x]) h = (kc = rm.cells ∧ Q (some (.long x)) h) := gk_lret
theorem s_M_axis_26 {x : Nat} {l : eg_Lo} : wps rm K Q c_M_axis_26 kc ks (some (.ref x) :: l) (st) h = wps rm K Q c_M_axis_27 kc ks (some (.ref x) :: l) (.ref x :: st) h := gk_aload rfl
theorem s_M_axis_27 {x : Nat} : wps rm K Q c_M_axis_27 kc ks loc (.ref (x + 1) :: st) h = eg_gf h x 12 14 (fun v => wps rm K Q c_M_axis_30 kc ks loc (v :: st) h) := gk_gf
theorem s_M_axis_30 {x : Int32} : wps rm K Q c_M_axis_30 kc ks loc (.int x :: st) h = ((x = 0 → K 46 kc ks loc st h) ∧ (¬ x = 0 → wps rm K Q c_M_axis_33 kc ks loc (st) h)) := gk_if1_eq
theorem s_M_axis_33 {x : Nat} {l : eg_Lo} : wps rm K Q c_M_axis_33 kc ks (some (.ref x) :: l) (st) h = wps rm K Q c_M_axis_34 kc ks (some (.ref x) :: l) (.ref x :: st) h := gk_aload rfl
theorem s_M_axis_34 {x : Nat} : wps rm K Q c_M_axis_34 kc ks loc (.ref (x + 1) :: st) h = eg_gf h x 12 15 (fun v => wps rm K Q c_M_axis_37 kc ks loc (v :: st) h) := gk_gf
theorem s_M_axis_37  : wps rm K Q c_M_axis_37 kc ks loc (st) h = wps rm K Q c_M_axis_38 kc ks loc (.int (3) :: st) h := gk_ic (by decide)
theorem s_M_axis_38 {x : Int32} {l0 : Option Value} {l : eg_Lo} : wps rm K Q c_M_axis_38 kc ks (l0 :: some (.int x) :: l) (st) h = wps rm K Q c_M_axis_39 kc ks (l0 :: some (.int x) :: l) (.int x :: st) h := gk_iload rfl
theorem s_M_axis_39 {x y : Int32} : wps rm K Q c_M_axis_39 kc ks loc (.int y :: .int x :: st) h = wps rm K Q c_M_axis_40 kc ks loc (.int (x * y) :: st) h := gk_imul
theorem s_M_axis_40 {x : Int32} {l0 l1 : Option Value} {l : eg_Lo} : wps rm K Q c_M_axis_40 kc ks (l0 :: l1 :: some (.int x) :: l) (st) h = wps rm K Q c_M_axis_41 kc ks (l0 :: l1 :: some (.int x) :: l) (.int x :: st) h := gk_iload rfl
theorem s_M_axis_41 {x y : Int32} : wps rm K Q c_M_axis_41 kc ks loc (.int y :: .int x :: st) h = wps rm K Q c_M_axis_42 kc ks loc (.int (x + y) :: st) h := gk_iadd
theorem s_M_axis_42 {x : Nat} {i : Int32} : wps rm K Q c_M_axis_42 kc ks loc (.int i :: .ref (x + 1) :: st) h = eg_la h x i (fun v => wps rm K Q c_M_axis_43 kc ks loc (.long v :: st) h) := gk_laload
theorem s_M_axis_43  : wps rm K Q c_M_axis_43 kc ks loc (st) h = K 53 kc ks loc st h := gk_goto
theorem s_M_axis_46 {x : Nat} {l : eg_Lo} : wps rm K Q c_M_axis_46 kc ks (some (.ref x) :: l) (st) h = wps rm K Q c_M_axis_47 kc ks (some (.ref x) :: l) (.ref x :: st) h := gk_aload rfl
theorem s_M_axis_47  : wps rm K Q c_M_axis_47 kc ks loc (st) h = wps rm K Q c_M_axis_50 kc ks loc (.long (-1000000000000000006) :: st) h := gk_lc (by decide)
theorem s_M_axis_50  {a1 : Value} {x : Nat} : wps rm K Q c_M_axis_50 kc ks loc (a1 :: .ref (x + 1) :: st) h = (eg_cls h x 12 ∧ st.length ≤ 4 ∧ eg_Cs n_M_finding (.ref (x + 1) :: [a1]) h (fun v h9 => wps rm K Q c_M_axis_53 kc ks loc (v.toList ++ st) h9)) := eg_c1_1
theorem s_M_axis_53 {x : Int64} : wps rm K Q c_M_axis_53 kc ks loc ([.long x]) h = (kc = rm.cells ∧ Q (some (.long x)) h) := gk_lret
def T_M_axis : List (Nat × List eg_I) := [(18, c_M_axis_18), (26, c_M_axis_26), (46, c_M_axis_46), (53, c_M_axis_53)]
theorem j_M_axis_18 {R : Nat → Nat → Nat → eg_Lo → List Value → List eg_E → Prop} {f pc0 : Nat} : eg_run rm R Q T_M_axis (f + 1) 18 kc ks loc st h = wps rm (eg_run rm R Q T_M_axis f) Q c_M_axis_18 kc ks loc st h := rfl
theorem j_M_axis_26 {R : Nat → Nat → Nat → eg_Lo → List Value → List eg_E → Prop} {f pc0 : Nat} : eg_run rm R Q T_M_axis (f + 1) 26 kc ks loc st h = wps rm (eg_run rm R Q T_M_axis f) Q c_M_axis_26 kc ks loc st h := rfl
theorem j_M_axis_46 {R : Nat → Nat → Nat → eg_Lo → List Value → List eg_E → Prop} {f pc0 : Nat} : eg_run rm R Q T_M_axis (f + 1) 46 kc ks loc st h = wps rm (eg_run rm R Q T_M_axis f) Q c_M_axis_46 kc ks loc st h := rfl
theorem j_M_axis_53 {R : Nat → Nat → Nat → eg_Lo → List Value → List eg_E → Prop} {f pc0 : Nat} : eg_run rm R Q T_M_axis (f + 1) 53 kc ks loc st h = wps rm (eg_run rm R Q T_M_axis f) Q c_M_axis_53 kc ks loc st h := rfl
end
theorem y_M_axis_0 : eg_seq m_M_axis 0 c_M_axis_0 = true := by decide +kernel
theorem y_M_axis_26 : eg_seq m_M_axis 26 c_M_axis_26 = true := by decide +kernel
theorem y_M_axis_46 : eg_seq m_M_axis 46 c_M_axis_46 = true := by decide +kernel
theorem q_M_axis : ∀ q ∈ T_M_axis, eg_seq m_M_axis q.1 q.2 = true := by
  intro q hq
  simp only [T_M_axis, List.mem_cons, List.not_mem_nil, or_false] at hq
  rcases hq with rfl | rfl | rfl | rfl
  · exact (eg_seq_drop y_M_axis_0 10 : eg_seq m_M_axis 18 c_M_axis_18 = true)
  · exact y_M_axis_26
  · exact y_M_axis_46
  · exact (eg_seq_drop y_M_axis_46 3 : eg_seq m_M_axis 53 c_M_axis_53 = true)
theorem md_M_axis : eg_md n_M_axis = m_M_axis := rfl
theorem mn_M_axis : n_M_axis < 202 := Nat.le_of_ble_eq_true rfl
theorem b_M_axis {as : List Value} {h : List eg_E} {Q : Option Value → List eg_E → Prop} (hf : (eg_fl as).length ≤ 3) : wps (eg_rm m_M_axis) (eg_run (eg_rm m_M_axis) (eg_R m_M_axis Q (h.length + 0)) Q T_M_axis 6) Q c_M_axis_0 0 0 (eg_entry 3 as) [] h → eg_Runs n_M_axis as h Q := eg_begin2 md_M_axis mn_M_axis y_M_axis_0 q_M_axis hf
/-! ===== M_inFrame ===== -/
def c_M_inFrame_144 : List eg_I := .inl (144, 1, .lreturn, 0, 0) :: []
def c_M_inFrame_143 : List eg_I := .inl (143, 1, .ladd, 0, 0) :: c_M_inFrame_144
def c_M_inFrame_142 : List eg_I := .inl (142, 1, .lmul, 0, 0) :: c_M_inFrame_143
def c_M_inFrame_141 : List eg_I := .inl (141, 1, .i2l, 0, 0) :: c_M_inFrame_142
def c_M_inFrame_140 : List eg_I := .inl (140, 1, .isub, 0, 0) :: c_M_inFrame_141
def c_M_inFrame_139 : List eg_I := .inl (139, 1, .iaload, 0, 0) :: c_M_inFrame_140
def c_M_inFrame_138 : List eg_I := .inl (138, 1, .iconst (2), 0, 0) :: c_M_inFrame_139
def c_M_inFrame_135 : List eg_I := .inl (135, 3, .getfield 57, 12, 16) :: c_M_inFrame_138
def c_M_inFrame_134 : List eg_I := .inl (134, 1, .aload 0, 0, 0) :: c_M_inFrame_135
def c_M_inFrame_133 : List eg_I := .inl (133, 1, .iaload, 0, 0) :: c_M_inFrame_134
def c_M_inFrame_131 : List eg_I := .inl (131, 2, .iload 4, 0, 0) :: c_M_inFrame_133
def c_M_inFrame_128 : List eg_I := .inl (128, 3, .getfield 19, 12, 3) :: c_M_inFrame_131
def c_M_inFrame_127 : List eg_I := .inl (127, 1, .aload 0, 0, 0) :: c_M_inFrame_128
def c_M_inFrame_126 : List eg_I := .inl (126, 1, .laload, 0, 0) :: c_M_inFrame_127
def c_M_inFrame_125 : List eg_I := .inl (125, 1, .iadd, 0, 0) :: c_M_inFrame_126
def c_M_inFrame_124 : List eg_I := .inl (124, 1, .iconst (2), 0, 0) :: c_M_inFrame_125
def c_M_inFrame_123 : List eg_I := .inl (123, 1, .imul, 0, 0) :: c_M_inFrame_124
def c_M_inFrame_122 : List eg_I := .inl (122, 1, .iload 3, 0, 0) :: c_M_inFrame_123
def c_M_inFrame_121 : List eg_I := .inl (121, 1, .iconst (3), 0, 0) :: c_M_inFrame_122
def c_M_inFrame_118 : List eg_I := .inl (118, 3, .getfield 54, 12, 15) :: c_M_inFrame_121
def c_M_inFrame_117 : List eg_I := .inl (117, 1, .aload 0, 0, 0) :: c_M_inFrame_118
def c_M_inFrame_116 : List eg_I := .inl (116, 1, .ladd, 0, 0) :: c_M_inFrame_117
def c_M_inFrame_115 : List eg_I := .inl (115, 1, .lmul, 0, 0) :: c_M_inFrame_116
def c_M_inFrame_114 : List eg_I := .inl (114, 1, .i2l, 0, 0) :: c_M_inFrame_115
def c_M_inFrame_113 : List eg_I := .inl (113, 1, .isub, 0, 0) :: c_M_inFrame_114
def c_M_inFrame_112 : List eg_I := .inl (112, 1, .iaload, 0, 0) :: c_M_inFrame_113
def c_M_inFrame_111 : List eg_I := .inl (111, 1, .iconst (1), 0, 0) :: c_M_inFrame_112
def c_M_inFrame_108 : List eg_I := .inl (108, 3, .getfield 57, 12, 16) :: c_M_inFrame_111
def c_M_inFrame_107 : List eg_I := .inl (107, 1, .aload 0, 0, 0) :: c_M_inFrame_108
def c_M_inFrame_106 : List eg_I := .inl (106, 1, .iaload, 0, 0) :: c_M_inFrame_107
def c_M_inFrame_104 : List eg_I := .inl (104, 2, .iload 4, 0, 0) :: c_M_inFrame_106
def c_M_inFrame_101 : List eg_I := .inl (101, 3, .getfield 16, 12, 2) :: c_M_inFrame_104
def c_M_inFrame_100 : List eg_I := .inl (100, 1, .aload 0, 0, 0) :: c_M_inFrame_101
def c_M_inFrame_99 : List eg_I := .inl (99, 1, .laload, 0, 0) :: c_M_inFrame_100
def c_M_inFrame_98 : List eg_I := .inl (98, 1, .iadd, 0, 0) :: c_M_inFrame_99
def c_M_inFrame_97 : List eg_I := .inl (97, 1, .iconst (1), 0, 0) :: c_M_inFrame_98
def c_M_inFrame_96 : List eg_I := .inl (96, 1, .imul, 0, 0) :: c_M_inFrame_97
def c_M_inFrame_95 : List eg_I := .inl (95, 1, .iload 3, 0, 0) :: c_M_inFrame_96
def c_M_inFrame_94 : List eg_I := .inl (94, 1, .iconst (3), 0, 0) :: c_M_inFrame_95
def c_M_inFrame_91 : List eg_I := .inl (91, 3, .getfield 54, 12, 15) :: c_M_inFrame_94
def c_M_inFrame_90 : List eg_I := .inl (90, 1, .aload 0, 0, 0) :: c_M_inFrame_91
def c_M_inFrame_89 : List eg_I := .inl (89, 1, .lmul, 0, 0) :: c_M_inFrame_90
def c_M_inFrame_88 : List eg_I := .inl (88, 1, .i2l, 0, 0) :: c_M_inFrame_89
def c_M_inFrame_87 : List eg_I := .inl (87, 1, .isub, 0, 0) :: c_M_inFrame_88
def c_M_inFrame_86 : List eg_I := .inl (86, 1, .iaload, 0, 0) :: c_M_inFrame_87
def c_M_inFrame_85 : List eg_I := .inl (85, 1, .iconst (0), 0, 0) :: c_M_inFrame_86
def c_M_inFrame_82 : List eg_I := .inl (82, 3, .getfield 57, 12, 16) :: c_M_inFrame_85
def c_M_inFrame_81 : List eg_I := .inl (81, 1, .aload 0, 0, 0) :: c_M_inFrame_82
def c_M_inFrame_80 : List eg_I := .inl (80, 1, .iaload, 0, 0) :: c_M_inFrame_81
def c_M_inFrame_78 : List eg_I := .inl (78, 2, .iload 4, 0, 0) :: c_M_inFrame_80
def c_M_inFrame_75 : List eg_I := .inl (75, 3, .getfield 13, 12, 1) :: c_M_inFrame_78
def c_M_inFrame_74 : List eg_I := .inl (74, 1, .aload 0, 0, 0) :: c_M_inFrame_75
def c_M_inFrame_73 : List eg_I := .inl (73, 1, .laload, 0, 0) :: c_M_inFrame_74
def c_M_inFrame_72 : List eg_I := .inl (72, 1, .imul, 0, 0) :: c_M_inFrame_73
def c_M_inFrame_71 : List eg_I := .inl (71, 1, .iload 3, 0, 0) :: c_M_inFrame_72
def c_M_inFrame_70 : List eg_I := .inl (70, 1, .iconst (3), 0, 0) :: c_M_inFrame_71
def c_M_inFrame_67 : List eg_I := .inl (67, 3, .getfield 54, 12, 15) :: c_M_inFrame_70
def c_M_inFrame_66 : List eg_I := .inl (66, 1, .aload 0, 0, 0) :: c_M_inFrame_67
def c_M_inFrame_65 : List eg_I := .inl (65, 1, .lreturn, 0, 0) :: []
def c_M_inFrame_62 : List eg_I := .inr (62, 1, 112, n_M_finding, 1, 12, 0, 0) :: c_M_inFrame_65
def c_M_inFrame_59 : List eg_I := .inl (59, 3, .sipush (-1000000000000000006), 138, 0) :: c_M_inFrame_62
def c_M_inFrame_58 : List eg_I := .inl (58, 1, .aload 0, 0, 0) :: c_M_inFrame_59
def c_M_inFrame_55 : List eg_I := .inl (55, 3, .ifCond .ne (11), 66, 0) :: c_M_inFrame_58
def c_M_inFrame_52 : List eg_I := .inl (52, 3, .getfield 273, 12, 14) :: c_M_inFrame_55
def c_M_inFrame_51 : List eg_I := .inl (51, 1, .aload 0, 0, 0) :: c_M_inFrame_52
def c_M_inFrame_50 : List eg_I := .inl (50, 1, .lreturn, 0, 0) :: []
def c_M_inFrame_47 : List eg_I := .inr (47, 1, 112, n_M_finding, 1, 12, 0, 0) :: c_M_inFrame_50
def c_M_inFrame_44 : List eg_I := .inl (44, 3, .sipush (-1000000000000000007), 126, 0) :: c_M_inFrame_47
def c_M_inFrame_43 : List eg_I := .inl (43, 1, .aload 0, 0, 0) :: c_M_inFrame_44
def c_M_inFrame_40 : List eg_I := .inl (40, 3, .ifCond .eq (11), 51, 0) :: c_M_inFrame_43
def c_M_inFrame_39 : List eg_I := .inl (39, 1, .baload, 0, 0) :: c_M_inFrame_40
def c_M_inFrame_37 : List eg_I := .inl (37, 2, .iload 4, 0, 0) :: c_M_inFrame_39
def c_M_inFrame_34 : List eg_I := .inl (34, 3, .getfield 22, 12, 4) :: c_M_inFrame_37
def c_M_inFrame_33 : List eg_I := .inl (33, 1, .aload 0, 0, 0) :: c_M_inFrame_34
def c_M_inFrame_31 : List eg_I := .inl (31, 2, .istore 4, 0, 0) :: c_M_inFrame_33
def c_M_inFrame_28 : List eg_I := .inr (28, 0, 103, n_M_at_II, 2, 12, 0, 0) :: c_M_inFrame_31
def c_M_inFrame_27 : List eg_I := .inl (27, 1, .iload 2, 0, 0) :: c_M_inFrame_28
def c_M_inFrame_26 : List eg_I := .inl (26, 1, .iload 1, 0, 0) :: c_M_inFrame_27
def c_M_inFrame_25 : List eg_I := .inl (25, 1, .lreturn, 0, 0) :: []
def c_M_inFrame_22 : List eg_I := .inr (22, 1, 112, n_M_finding, 1, 12, 0, 0) :: c_M_inFrame_25
def c_M_inFrame_19 : List eg_I := .inl (19, 3, .sipush (-1000000000000000001), 110, 0) :: c_M_inFrame_22
def c_M_inFrame_18 : List eg_I := .inl (18, 1, .aload 0, 0, 0) :: c_M_inFrame_19
def c_M_inFrame_15 : List eg_I := .inl (15, 3, .ifCond .ne (11), 26, 0) :: c_M_inFrame_18
def c_M_inFrame_12 : List eg_I := .inr (12, 0, 95, n_M_isIn, 3, 12, 0, 0) :: c_M_inFrame_15
def c_M_inFrame_11 : List eg_I := .inl (11, 1, .iconst (2), 0, 0) :: c_M_inFrame_12
def c_M_inFrame_10 : List eg_I := .inl (10, 1, .iconst (0), 0, 0) :: c_M_inFrame_11
def c_M_inFrame_9 : List eg_I := .inl (9, 1, .iload 3, 0, 0) :: c_M_inFrame_10
def c_M_inFrame_6 : List eg_I := .inl (6, 3, .ifCond .eq (12), 18, 0) :: c_M_inFrame_9
def c_M_inFrame_3 : List eg_I := .inr (3, 1, 122, n_M_isPoint, 2, 12, 0, 0) :: c_M_inFrame_6
def c_M_inFrame_2 : List eg_I := .inl (2, 1, .iload 2, 0, 0) :: c_M_inFrame_3
def c_M_inFrame_1 : List eg_I := .inl (1, 1, .iload 1, 0, 0) :: c_M_inFrame_2
def c_M_inFrame_0 : List eg_I := .inl (0, 1, .aload 0, 0, 0) :: c_M_inFrame_1
section
variable {rm : Room} {K : Nat → Nat → Nat → eg_Lo → List Value → List eg_E → Prop} {Q : Option Value → List eg_E → Prop} {kc ks : Nat} {loc : eg_Lo} {st : List Value} {h : List eg_E}
theorem s_M_inFrame_0 {x : Nat} {l : eg_Lo} : wps rm K Q c_M_inFrame_0 kc ks (some (.ref x) :: l) (st) h = wps rm K Q c_M_inFrame_1 kc ks (some (.ref x) :: l) (.ref x :: st) h := gk_aload rfl
theorem s_M_inFrame_1 {x : Int32} {l0 : Option Value} {l : eg_Lo} : wps rm K Q c_M_inFrame_1 kc ks (l0 :: some (.int x) :: l) (st) h = wps rm K Q c_M_inFrame_2 kc ks (l0 :: some (.int x) :: l) (.int x :: st) h := gk_iload rfl
theorem s_M_inFrame_2 {x : Int32} {l0 l1 : Option Value} {l : eg_Lo} : wps rm K Q c_M_inFrame_2 kc ks (l0 :: l1 :: some (.int x) :: l) (st) h = wps rm K Q c_M_inFrame_3 kc ks (l0 :: l1 :: some (.int x) :: l) (.int x :: st) h := gk_iload rfl
theorem s_M_inFrame_3  {a1 : Value} {a2 : Value} {x : Nat} : wps rm K Q c_M_inFrame_3 kc ks loc (a2 :: a1 :: .ref (x + 1) :: st) h = (eg_cls h x 12 ∧ st.length ≤ 4 ∧ eg_Cs n_M_isPoint (.ref (x + 1) :: [a1, a2]) h (fun v h9 => wps rm K Q c_M_inFrame_6 kc ks loc (v.toList ++ st) h9)) := eg_c1_2
theorem s_M_inFrame_6 {x : Int32} : wps rm K Q c_M_inFrame_6 kc ks loc (.int x :: st) h = ((x = 0 → K 18 kc ks loc st h) ∧ (¬ x = 0 → wps rm K Q c_M_inFrame_9 kc ks loc (st) h)) := gk_if1_eq
theorem s_M_inFrame_9 {x : Int32} {l0 l1 l2 : Option Value} {l : eg_Lo} : wps rm K Q c_M_inFrame_9 kc ks (l0 :: l1 :: l2 :: some (.int x) :: l) (st) h = wps rm K Q c_M_inFrame_10 kc ks (l0 :: l1 :: l2 :: some (.int x) :: l) (.int x :: st) h := gk_iload rfl
theorem s_M_inFrame_10  : wps rm K Q c_M_inFrame_10 kc ks loc (st) h = wps rm K Q c_M_inFrame_11 kc ks loc (.int (0) :: st) h := gk_ic (by decide)
theorem s_M_inFrame_11  : wps rm K Q c_M_inFrame_11 kc ks loc (st) h = wps rm K Q c_M_inFrame_12 kc ks loc (.int (2) :: st) h := gk_ic (by decide)
theorem s_M_inFrame_12  {a1 : Value} {a2 : Value} {a3 : Value} : wps rm K Q c_M_inFrame_12 kc ks loc (a3 :: a2 :: a1 :: st) h = (st.length ≤ 4 ∧ eg_Cs n_M_isIn [a1, a2, a3] h (fun v h9 => wps rm K Q c_M_inFrame_15 kc ks loc (v.toList ++ st) h9)) := eg_c0_3
theorem s_M_inFrame_15 {x : Int32} : wps rm K Q c_M_inFrame_15 kc ks loc (.int x :: st) h = ((¬ x = 0 → K 26 kc ks loc st h) ∧ (x = 0 → wps rm K Q c_M_inFrame_18 kc ks loc (st) h)) := gk_if1_ne
theorem s_M_inFrame_18 {x : Nat} {l : eg_Lo} : wps rm K Q c_M_inFrame_18 kc ks (some (.ref x) :: l) (st) h = wps rm K Q c_M_inFrame_19 kc ks (some (.ref x) :: l) (.ref x :: st) h := gk_aload rfl
theorem s_M_inFrame_19  : wps rm K Q c_M_inFrame_19 kc ks loc (st) h = wps rm K Q c_M_inFrame_22 kc ks loc (.long (-1000000000000000001) :: st) h := gk_lc (by decide)
theorem s_M_inFrame_22  {a1 : Value} {x : Nat} : wps rm K Q c_M_inFrame_22 kc ks loc (a1 :: .ref (x + 1) :: st) h = (eg_cls h x 12 ∧ st.length ≤ 4 ∧ eg_Cs n_M_finding (.ref (x + 1) :: [a1]) h (fun v h9 => wps rm K Q c_M_inFrame_25 kc ks loc (v.toList ++ st) h9)) := eg_c1_1
theorem s_M_inFrame_25 {x : Int64} : wps rm K Q c_M_inFrame_25 kc ks loc ([.long x]) h = (kc = rm.cells ∧ Q (some (.long x)) h) := gk_lret
theorem s_M_inFrame_26 {x : Int32} {l0 : Option Value} {l : eg_Lo} : wps rm K Q c_M_inFrame_26 kc ks (l0 :: some (.int x) :: l) (st) h = wps rm K Q c_M_inFrame_27 kc ks (l0 :: some (.int x) :: l) (.int x :: st) h := gk_iload rfl
theorem s_M_inFrame_27 {x : Int32} {l0 l1 : Option Value} {l : eg_Lo} : wps rm K Q c_M_inFrame_27 kc ks (l0 :: l1 :: some (.int x) :: l) (st) h = wps rm K Q c_M_inFrame_28 kc ks (l0 :: l1 :: some (.int x) :: l) (.int x :: st) h := gk_iload rfl
theorem s_M_inFrame_28  {a1 : Value} {a2 : Value} : wps rm K Q c_M_inFrame_28 kc ks loc (a2 :: a1 :: st) h = (st.length ≤ 4 ∧ eg_Cs n_M_at_II [a1, a2] h (fun v h9 => wps rm K Q c_M_inFrame_31 kc ks loc (v.toList ++ st) h9)) := eg_c0_2
theorem s_M_inFrame_31 {x : Int32} : wps rm K Q c_M_inFrame_31 kc ks loc (.int x :: st) h = wps rm K Q c_M_inFrame_33 kc ks (eg_set1 loc 4 (.int x)) (st) h := gk_istore
theorem s_M_inFrame_33 {x : Nat} {l : eg_Lo} : wps rm K Q c_M_inFrame_33 kc ks (some (.ref x) :: l) (st) h = wps rm K Q c_M_inFrame_34 kc ks (some (.ref x) :: l) (.ref x :: st) h := gk_aload rfl
theorem s_M_inFrame_34 {x : Nat} : wps rm K Q c_M_inFrame_34 kc ks loc (.ref (x + 1) :: st) h = eg_gf h x 12 4 (fun v => wps rm K Q c_M_inFrame_37 kc ks loc (v :: st) h) := gk_gf
theorem s_M_inFrame_37 {x : Int32} {l0 l1 l2 l3 : Option Value} {l : eg_Lo} : wps rm K Q c_M_inFrame_37 kc ks (l0 :: l1 :: l2 :: l3 :: some (.int x) :: l) (st) h = wps rm K Q c_M_inFrame_39 kc ks (l0 :: l1 :: l2 :: l3 :: some (.int x) :: l) (.int x :: st) h := gk_iload rfl
theorem s_M_inFrame_39 {x : Nat} {i : Int32} : wps rm K Q c_M_inFrame_39 kc ks loc (.int i :: .ref (x + 1) :: st) h = eg_ba h x i (fun v => wps rm K Q c_M_inFrame_40 kc ks loc (.int v :: st) h) := gk_baload
theorem s_M_inFrame_40 {x : Int32} : wps rm K Q c_M_inFrame_40 kc ks loc (.int x :: st) h = ((x = 0 → K 51 kc ks loc st h) ∧ (¬ x = 0 → wps rm K Q c_M_inFrame_43 kc ks loc (st) h)) := gk_if1_eq
theorem s_M_inFrame_43 {x : Nat} {l : eg_Lo} : wps rm K Q c_M_inFrame_43 kc ks (some (.ref x) :: l) (st) h = wps rm K Q c_M_inFrame_44 kc ks (some (.ref x) :: l) (.ref x :: st) h := gk_aload rfl
theorem s_M_inFrame_44  : wps rm K Q c_M_inFrame_44 kc ks loc (st) h = wps rm K Q c_M_inFrame_47 kc ks loc (.long (-1000000000000000007) :: st) h := gk_lc (by decide)
theorem s_M_inFrame_47  {a1 : Value} {x : Nat} : wps rm K Q c_M_inFrame_47 kc ks loc (a1 :: .ref (x + 1) :: st) h = (eg_cls h x 12 ∧ st.length ≤ 4 ∧ eg_Cs n_M_finding (.ref (x + 1) :: [a1]) h (fun v h9 => wps rm K Q c_M_inFrame_50 kc ks loc (v.toList ++ st) h9)) := eg_c1_1
theorem s_M_inFrame_50 {x : Int64} : wps rm K Q c_M_inFrame_50 kc ks loc ([.long x]) h = (kc = rm.cells ∧ Q (some (.long x)) h) := gk_lret
theorem s_M_inFrame_51 {x : Nat} {l : eg_Lo} : wps rm K Q c_M_inFrame_51 kc ks (some (.ref x) :: l) (st) h = wps rm K Q c_M_inFrame_52 kc ks (some (.ref x) :: l) (.ref x :: st) h := gk_aload rfl
theorem s_M_inFrame_52 {x : Nat} : wps rm K Q c_M_inFrame_52 kc ks loc (.ref (x + 1) :: st) h = eg_gf h x 12 14 (fun v => wps rm K Q c_M_inFrame_55 kc ks loc (v :: st) h) := gk_gf
theorem s_M_inFrame_55 {x : Int32} : wps rm K Q c_M_inFrame_55 kc ks loc (.int x :: st) h = ((¬ x = 0 → K 66 kc ks loc st h) ∧ (x = 0 → wps rm K Q c_M_inFrame_58 kc ks loc (st) h)) := gk_if1_ne
theorem s_M_inFrame_58 {x : Nat} {l : eg_Lo} : wps rm K Q c_M_inFrame_58 kc ks (some (.ref x) :: l) (st) h = wps rm K Q c_M_inFrame_59 kc ks (some (.ref x) :: l) (.ref x :: st) h := gk_aload rfl
theorem s_M_inFrame_59  : wps rm K Q c_M_inFrame_59 kc ks loc (st) h = wps rm K Q c_M_inFrame_62 kc ks loc (.long (-1000000000000000006) :: st) h := gk_lc (by decide)
theorem s_M_inFrame_62  {a1 : Value} {x : Nat} : wps rm K Q c_M_inFrame_62 kc ks loc (a1 :: .ref (x + 1) :: st) h = (eg_cls h x 12 ∧ st.length ≤ 4 ∧ eg_Cs n_M_finding (.ref (x + 1) :: [a1]) h (fun v h9 => wps rm K Q c_M_inFrame_65 kc ks loc (v.toList ++ st) h9)) := eg_c1_1
theorem s_M_inFrame_65 {x : Int64} : wps rm K Q c_M_inFrame_65 kc ks loc ([.long x]) h = (kc = rm.cells ∧ Q (some (.long x)) h) := gk_lret
theorem s_M_inFrame_66 {x : Nat} {l : eg_Lo} : wps rm K Q c_M_inFrame_66 kc ks (some (.ref x) :: l) (st) h = wps rm K Q c_M_inFrame_67 kc ks (some (.ref x) :: l) (.ref x :: st) h := gk_aload rfl
theorem s_M_inFrame_67 {x : Nat} : wps rm K Q c_M_inFrame_67 kc ks loc (.ref (x + 1) :: st) h = eg_gf h x 12 15 (fun v => wps rm K Q c_M_inFrame_70 kc ks loc (v :: st) h) := gk_gf
theorem s_M_inFrame_70  : wps rm K Q c_M_inFrame_70 kc ks loc (st) h = wps rm K Q c_M_inFrame_71 kc ks loc (.int (3) :: st) h := gk_ic (by decide)
theorem s_M_inFrame_71 {x : Int32} {l0 l1 l2 : Option Value} {l : eg_Lo} : wps rm K Q c_M_inFrame_71 kc ks (l0 :: l1 :: l2 :: some (.int x) :: l) (st) h = wps rm K Q c_M_inFrame_72 kc ks (l0 :: l1 :: l2 :: some (.int x) :: l) (.int x :: st) h := gk_iload rfl
theorem s_M_inFrame_72 {x y : Int32} : wps rm K Q c_M_inFrame_72 kc ks loc (.int y :: .int x :: st) h = wps rm K Q c_M_inFrame_73 kc ks loc (.int (x * y) :: st) h := gk_imul
theorem s_M_inFrame_73 {x : Nat} {i : Int32} : wps rm K Q c_M_inFrame_73 kc ks loc (.int i :: .ref (x + 1) :: st) h = eg_la h x i (fun v => wps rm K Q c_M_inFrame_74 kc ks loc (.long v :: st) h) := gk_laload
theorem s_M_inFrame_74 {x : Nat} {l : eg_Lo} : wps rm K Q c_M_inFrame_74 kc ks (some (.ref x) :: l) (st) h = wps rm K Q c_M_inFrame_75 kc ks (some (.ref x) :: l) (.ref x :: st) h := gk_aload rfl
theorem s_M_inFrame_75 {x : Nat} : wps rm K Q c_M_inFrame_75 kc ks loc (.ref (x + 1) :: st) h = eg_gf h x 12 1 (fun v => wps rm K Q c_M_inFrame_78 kc ks loc (v :: st) h) := gk_gf
theorem s_M_inFrame_78 {x : Int32} {l0 l1 l2 l3 : Option Value} {l : eg_Lo} : wps rm K Q c_M_inFrame_78 kc ks (l0 :: l1 :: l2 :: l3 :: some (.int x) :: l) (st) h = wps rm K Q c_M_inFrame_80 kc ks (l0 :: l1 :: l2 :: l3 :: some (.int x) :: l) (.int x :: st) h := gk_iload rfl
theorem s_M_inFrame_80 {x : Nat} {i : Int32} : wps rm K Q c_M_inFrame_80 kc ks loc (.int i :: .ref (x + 1) :: st) h = eg_ia h x i (fun v => wps rm K Q c_M_inFrame_81 kc ks loc (.int v :: st) h) := gk_iaload
theorem s_M_inFrame_81 {x : Nat} {l : eg_Lo} : wps rm K Q c_M_inFrame_81 kc ks (some (.ref x) :: l) (st) h = wps rm K Q c_M_inFrame_82 kc ks (some (.ref x) :: l) (.ref x :: st) h := gk_aload rfl
theorem s_M_inFrame_82 {x : Nat} : wps rm K Q c_M_inFrame_82 kc ks loc (.ref (x + 1) :: st) h = eg_gf h x 12 16 (fun v => wps rm K Q c_M_inFrame_85 kc ks loc (v :: st) h) := gk_gf
theorem s_M_inFrame_85  : wps rm K Q c_M_inFrame_85 kc ks loc (st) h = wps rm K Q c_M_inFrame_86 kc ks loc (.int (0) :: st) h := gk_ic (by decide)
theorem s_M_inFrame_86 {x : Nat} {i : Int32} : wps rm K Q c_M_inFrame_86 kc ks loc (.int i :: .ref (x + 1) :: st) h = eg_ia h x i (fun v => wps rm K Q c_M_inFrame_87 kc ks loc (.int v :: st) h) := gk_iaload
theorem s_M_inFrame_87 {x y : Int32} : wps rm K Q c_M_inFrame_87 kc ks loc (.int y :: .int x :: st) h = wps rm K Q c_M_inFrame_88 kc ks loc (.int (x - y) :: st) h := gk_isub
theorem s_M_inFrame_88 {x : Int32} : wps rm K Q c_M_inFrame_88 kc ks loc (.int x :: st) h = wps rm K Q c_M_inFrame_89 kc ks loc (.long (x.toInt64) :: st) h := gk_i2l
theorem s_M_inFrame_89 {x y : Int64} : wps rm K Q c_M_inFrame_89 kc ks loc (.long y :: .long x :: st) h = wps rm K Q c_M_inFrame_90 kc ks loc (.long (x * y) :: st) h := gk_lmul
theorem s_M_inFrame_90 {x : Nat} {l : eg_Lo} : wps rm K Q c_M_inFrame_90 kc ks (some (.ref x) :: l) (st) h = wps rm K Q c_M_inFrame_91 kc ks (some (.ref x) :: l) (.ref x :: st) h := gk_aload rfl
theorem s_M_inFrame_91 {x : Nat} : wps rm K Q c_M_inFrame_91 kc ks loc (.ref (x + 1) :: st) h = eg_gf h x 12 15 (fun v => wps rm K Q c_M_inFrame_94 kc ks loc (v :: st) h) := gk_gf
theorem s_M_inFrame_94  : wps rm K Q c_M_inFrame_94 kc ks loc (st) h = wps rm K Q c_M_inFrame_95 kc ks loc (.int (3) :: st) h := gk_ic (by decide)
theorem s_M_inFrame_95 {x : Int32} {l0 l1 l2 : Option Value} {l : eg_Lo} : wps rm K Q c_M_inFrame_95 kc ks (l0 :: l1 :: l2 :: some (.int x) :: l) (st) h = wps rm K Q c_M_inFrame_96 kc ks (l0 :: l1 :: l2 :: some (.int x) :: l) (.int x :: st) h := gk_iload rfl
theorem s_M_inFrame_96 {x y : Int32} : wps rm K Q c_M_inFrame_96 kc ks loc (.int y :: .int x :: st) h = wps rm K Q c_M_inFrame_97 kc ks loc (.int (x * y) :: st) h := gk_imul
theorem s_M_inFrame_97  : wps rm K Q c_M_inFrame_97 kc ks loc (st) h = wps rm K Q c_M_inFrame_98 kc ks loc (.int (1) :: st) h := gk_ic (by decide)
theorem s_M_inFrame_98 {x y : Int32} : wps rm K Q c_M_inFrame_98 kc ks loc (.int y :: .int x :: st) h = wps rm K Q c_M_inFrame_99 kc ks loc (.int (x + y) :: st) h := gk_iadd
theorem s_M_inFrame_99 {x : Nat} {i : Int32} : wps rm K Q c_M_inFrame_99 kc ks loc (.int i :: .ref (x + 1) :: st) h = eg_la h x i (fun v => wps rm K Q c_M_inFrame_100 kc ks loc (.long v :: st) h) := gk_laload
theorem s_M_inFrame_100 {x : Nat} {l : eg_Lo} : wps rm K Q c_M_inFrame_100 kc ks (some (.ref x) :: l) (st) h = wps rm K Q c_M_inFrame_101 kc ks (some (.ref x) :: l) (.ref x :: st) h := gk_aload rfl
theorem s_M_inFrame_101 {x : Nat} : wps rm K Q c_M_inFrame_101 kc ks loc (.ref (x + 1) :: st) h = eg_gf h x 12 2 (fun v => wps rm K Q c_M_inFrame_104 kc ks loc (v :: st) h) := gk_gf
theorem s_M_inFrame_104 {x : Int32} {l0 l1 l2 l3 : Option Value} {l : eg_Lo} : wps rm K Q c_M_inFrame_104 kc ks (l0 :: l1 :: l2 :: l3 :: some (.int x) :: l) (st) h = wps rm K Q c_M_inFrame_106 kc ks (l0 :: l1 :: l2 :: l3 :: some (.int x) :: l) (.int x :: st) h := gk_iload rfl
theorem s_M_inFrame_106 {x : Nat} {i : Int32} : wps rm K Q c_M_inFrame_106 kc ks loc (.int i :: .ref (x + 1) :: st) h = eg_ia h x i (fun v => wps rm K Q c_M_inFrame_107 kc ks loc (.int v :: st) h) := gk_iaload
theorem s_M_inFrame_107 {x : Nat} {l : eg_Lo} : wps rm K Q c_M_inFrame_107 kc ks (some (.ref x) :: l) (st) h = wps rm K Q c_M_inFrame_108 kc ks (some (.ref x) :: l) (.ref x :: st) h := gk_aload rfl
theorem s_M_inFrame_108 {x : Nat} : wps rm K Q c_M_inFrame_108 kc ks loc (.ref (x + 1) :: st) h = eg_gf h x 12 16 (fun v => wps rm K Q c_M_inFrame_111 kc ks loc (v :: st) h) := gk_gf
theorem s_M_inFrame_111  : wps rm K Q c_M_inFrame_111 kc ks loc (st) h = wps rm K Q c_M_inFrame_112 kc ks loc (.int (1) :: st) h := gk_ic (by decide)
theorem s_M_inFrame_112 {x : Nat} {i : Int32} : wps rm K Q c_M_inFrame_112 kc ks loc (.int i :: .ref (x + 1) :: st) h = eg_ia h x i (fun v => wps rm K Q c_M_inFrame_113 kc ks loc (.int v :: st) h) := gk_iaload
theorem s_M_inFrame_113 {x y : Int32} : wps rm K Q c_M_inFrame_113 kc ks loc (.int y :: .int x :: st) h = wps rm K Q c_M_inFrame_114 kc ks loc (.int (x - y) :: st) h := gk_isub
theorem s_M_inFrame_114 {x : Int32} : wps rm K Q c_M_inFrame_114 kc ks loc (.int x :: st) h = wps rm K Q c_M_inFrame_115 kc ks loc (.long (x.toInt64) :: st) h := gk_i2l
theorem s_M_inFrame_115 {x y : Int64} : wps rm K Q c_M_inFrame_115 kc ks loc (.long y :: .long x :: st) h = wps rm K Q c_M_inFrame_116 kc ks loc (.long (x * y) :: st) h := gk_lmul
theorem s_M_inFrame_116 {x y : Int64} : wps rm K Q c_M_inFrame_116 kc ks loc (.long y :: .long x :: st) h = wps rm K Q c_M_inFrame_117 kc ks loc (.long (x + y) :: st) h := gk_ladd
theorem s_M_inFrame_117 {x : Nat} {l : eg_Lo} : wps rm K Q c_M_inFrame_117 kc ks (some (.ref x) :: l) (st) h = wps rm K Q c_M_inFrame_118 kc ks (some (.ref x) :: l) (.ref x :: st) h := gk_aload rfl
theorem s_M_inFrame_118 {x : Nat} : wps rm K Q c_M_inFrame_118 kc ks loc (.ref (x + 1) :: st) h = eg_gf h x 12 15 (fun v => wps rm K Q c_M_inFrame_121 kc ks loc (v :: st) h) := gk_gf
theorem s_M_inFrame_121  : wps rm K Q c_M_inFrame_121 kc ks loc (st) h = wps rm K Q c_M_inFrame_122 kc ks loc (.int (3) :: st) h := gk_ic (by decide)
theorem s_M_inFrame_122 {x : Int32} {l0 l1 l2 : Option Value} {l : eg_Lo} : wps rm K Q c_M_inFrame_122 kc ks (l0 :: l1 :: l2 :: some (.int x) :: l) (st) h = wps rm K Q c_M_inFrame_123 kc ks (l0 :: l1 :: l2 :: some (.int x) :: l) (.int x :: st) h := gk_iload rfl
theorem s_M_inFrame_123 {x y : Int32} : wps rm K Q c_M_inFrame_123 kc ks loc (.int y :: .int x :: st) h = wps rm K Q c_M_inFrame_124 kc ks loc (.int (x * y) :: st) h := gk_imul
theorem s_M_inFrame_124  : wps rm K Q c_M_inFrame_124 kc ks loc (st) h = wps rm K Q c_M_inFrame_125 kc ks loc (.int (2) :: st) h := gk_ic (by decide)
theorem s_M_inFrame_125 {x y : Int32} : wps rm K Q c_M_inFrame_125 kc ks loc (.int y :: .int x :: st) h = wps rm K Q c_M_inFrame_126 kc ks loc (.int (x + y) :: st) h := gk_iadd
theorem s_M_inFrame_126 {x : Nat} {i : Int32} : wps rm K Q c_M_inFrame_126 kc ks loc (.int i :: .ref (x + 1) :: st) h = eg_la h x i (fun v => wps rm K Q c_M_inFrame_127 kc ks loc (.long v :: st) h) := gk_laload
theorem s_M_inFrame_127 {x : Nat} {l : eg_Lo} : wps rm K Q c_M_inFrame_127 kc ks (some (.ref x) :: l) (st) h = wps rm K Q c_M_inFrame_128 kc ks (some (.ref x) :: l) (.ref x :: st) h := gk_aload rfl
theorem s_M_inFrame_128 {x : Nat} : wps rm K Q c_M_inFrame_128 kc ks loc (.ref (x + 1) :: st) h = eg_gf h x 12 3 (fun v => wps rm K Q c_M_inFrame_131 kc ks loc (v :: st) h) := gk_gf
theorem s_M_inFrame_131 {x : Int32} {l0 l1 l2 l3 : Option Value} {l : eg_Lo} : wps rm K Q c_M_inFrame_131 kc ks (l0 :: l1 :: l2 :: l3 :: some (.int x) :: l) (st) h = wps rm K Q c_M_inFrame_133 kc ks (l0 :: l1 :: l2 :: l3 :: some (.int x) :: l) (.int x :: st) h := gk_iload rfl
theorem s_M_inFrame_133 {x : Nat} {i : Int32} : wps rm K Q c_M_inFrame_133 kc ks loc (.int i :: .ref (x + 1) :: st) h = eg_ia h x i (fun v => wps rm K Q c_M_inFrame_134 kc ks loc (.int v :: st) h) := gk_iaload
theorem s_M_inFrame_134 {x : Nat} {l : eg_Lo} : wps rm K Q c_M_inFrame_134 kc ks (some (.ref x) :: l) (st) h = wps rm K Q c_M_inFrame_135 kc ks (some (.ref x) :: l) (.ref x :: st) h := gk_aload rfl
theorem s_M_inFrame_135 {x : Nat} : wps rm K Q c_M_inFrame_135 kc ks loc (.ref (x + 1) :: st) h = eg_gf h x 12 16 (fun v => wps rm K Q c_M_inFrame_138 kc ks loc (v :: st) h) := gk_gf
theorem s_M_inFrame_138  : wps rm K Q c_M_inFrame_138 kc ks loc (st) h = wps rm K Q c_M_inFrame_139 kc ks loc (.int (2) :: st) h := gk_ic (by decide)
theorem s_M_inFrame_139 {x : Nat} {i : Int32} : wps rm K Q c_M_inFrame_139 kc ks loc (.int i :: .ref (x + 1) :: st) h = eg_ia h x i (fun v => wps rm K Q c_M_inFrame_140 kc ks loc (.int v :: st) h) := gk_iaload
theorem s_M_inFrame_140 {x y : Int32} : wps rm K Q c_M_inFrame_140 kc ks loc (.int y :: .int x :: st) h = wps rm K Q c_M_inFrame_141 kc ks loc (.int (x - y) :: st) h := gk_isub
theorem s_M_inFrame_141 {x : Int32} : wps rm K Q c_M_inFrame_141 kc ks loc (.int x :: st) h = wps rm K Q c_M_inFrame_142 kc ks loc (.long (x.toInt64) :: st) h := gk_i2l
theorem s_M_inFrame_142 {x y : Int64} : wps rm K Q c_M_inFrame_142 kc ks loc (.long y :: .long x :: st) h = wps rm K Q c_M_inFrame_143 kc ks loc (.long (x * y) :: st) h := gk_lmul
theorem s_M_inFrame_143 {x y : Int64} : wps rm K Q c_M_inFrame_143 kc ks loc (.long y :: .long x :: st) h = wps rm K Q c_M_inFrame_144 kc ks loc (.long (x + y) :: st) h := gk_ladd
theorem s_M_inFrame_144 {x : Int64} : wps rm K Q c_M_inFrame_144 kc ks loc ([.long x]) h = (kc = rm.cells ∧ Q (some (.long x)) h) := gk_lret
def T_M_inFrame : List (Nat × List eg_I) := [(18, c_M_inFrame_18), (26, c_M_inFrame_26), (51, c_M_inFrame_51), (66, c_M_inFrame_66)]
theorem j_M_inFrame_18 {R : Nat → Nat → Nat → eg_Lo → List Value → List eg_E → Prop} {f pc0 : Nat} : eg_run rm R Q T_M_inFrame (f + 1) 18 kc ks loc st h = wps rm (eg_run rm R Q T_M_inFrame f) Q c_M_inFrame_18 kc ks loc st h := rfl
theorem j_M_inFrame_26 {R : Nat → Nat → Nat → eg_Lo → List Value → List eg_E → Prop} {f pc0 : Nat} : eg_run rm R Q T_M_inFrame (f + 1) 26 kc ks loc st h = wps rm (eg_run rm R Q T_M_inFrame f) Q c_M_inFrame_26 kc ks loc st h := rfl
theorem j_M_inFrame_51 {R : Nat → Nat → Nat → eg_Lo → List Value → List eg_E → Prop} {f pc0 : Nat} : eg_run rm R Q T_M_inFrame (f + 1) 51 kc ks loc st h = wps rm (eg_run rm R Q T_M_inFrame f) Q c_M_inFrame_51 kc ks loc st h := rfl
theorem j_M_inFrame_66 {R : Nat → Nat → Nat → eg_Lo → List Value → List eg_E → Prop} {f pc0 : Nat} : eg_run rm R Q T_M_inFrame (f + 1) 66 kc ks loc st h = wps rm (eg_run rm R Q T_M_inFrame f) Q c_M_inFrame_66 kc ks loc st h := rfl
end
theorem y_M_inFrame_0 : eg_seq m_M_inFrame 0 c_M_inFrame_0 = true := by decide +kernel
theorem y_M_inFrame_26 : eg_seq m_M_inFrame 26 c_M_inFrame_26 = true := by decide +kernel
theorem y_M_inFrame_51 : eg_seq m_M_inFrame 51 c_M_inFrame_51 = true := by decide +kernel
theorem y_M_inFrame_66 : eg_seq m_M_inFrame 66 c_M_inFrame_66 = true := by decide +kernel
theorem q_M_inFrame : ∀ q ∈ T_M_inFrame, eg_seq m_M_inFrame q.1 q.2 = true := by
  intro q hq
  simp only [T_M_inFrame, List.mem_cons, List.not_mem_nil, or_false] at hq
  rcases hq with rfl | rfl | rfl | rfl
  · exact (eg_seq_drop y_M_inFrame_0 10 : eg_seq m_M_inFrame 18 c_M_inFrame_18 = true)
  · exact y_M_inFrame_26
  · exact y_M_inFrame_51
  · exact y_M_inFrame_66
theorem md_M_inFrame : eg_md n_M_inFrame = m_M_inFrame := rfl
theorem mn_M_inFrame : n_M_inFrame < 202 := Nat.le_of_ble_eq_true rfl
theorem b_M_inFrame {as : List Value} {h : List eg_E} {Q : Option Value → List eg_E → Prop} (hf : (eg_fl as).length ≤ 5) : wps (eg_rm m_M_inFrame) (eg_run (eg_rm m_M_inFrame) (eg_R m_M_inFrame Q (h.length + 0)) Q T_M_inFrame 6) Q c_M_inFrame_0 0 0 (eg_entry 5 as) [] h → eg_Runs n_M_inFrame as h Q := eg_begin2 md_M_inFrame mn_M_inFrame y_M_inFrame_0 q_M_inFrame hf
/-! ===== M_corner ===== -/
def c_M_corner_119 : List eg_I := .inl (119, 1, .lreturn, 0, 0) :: []
def c_M_corner_118 : List eg_I := .inl (118, 1, .i2l, 0, 0) :: c_M_corner_119
def c_M_corner_115 : List eg_I := .inl (115, 3, .getfield 277, 12, 17) :: c_M_corner_118
def c_M_corner_114 : List eg_I := .inl (114, 1, .aload 0, 0, 0) :: c_M_corner_115
def c_M_corner_111 : List eg_I := .inl (111, 3, .putfield 277, 12, 17) :: c_M_corner_114
def c_M_corner_110 : List eg_I := .inl (110, 1, .iadd, 0, 0) :: c_M_corner_111
def c_M_corner_109 : List eg_I := .inl (109, 1, .iconst (1), 0, 0) :: c_M_corner_110
def c_M_corner_106 : List eg_I := .inl (106, 3, .getfield 277, 12, 17) :: c_M_corner_109
def c_M_corner_105 : List eg_I := .inl (105, 1, .dup, 0, 0) :: c_M_corner_106
def c_M_corner_104 : List eg_I := .inl (104, 1, .aload 0, 0, 0) :: c_M_corner_105
def c_M_corner_103 : List eg_I := .inl (103, 1, .iastore, 0, 0) :: c_M_corner_104
def c_M_corner_102 : List eg_I := .inl (102, 1, .iload 2, 0, 0) :: c_M_corner_103
def c_M_corner_99 : List eg_I := .inl (99, 3, .getfield 277, 12, 17) :: c_M_corner_102
def c_M_corner_98 : List eg_I := .inl (98, 1, .aload 0, 0, 0) :: c_M_corner_99
def c_M_corner_95 : List eg_I := .inl (95, 3, .getfield 63, 12, 19) :: c_M_corner_98
def c_M_corner_94 : List eg_I := .inl (94, 1, .aload 0, 0, 0) :: c_M_corner_95
def c_M_corner_93 : List eg_I := .inl (93, 1, .iastore, 0, 0) :: c_M_corner_94
def c_M_corner_92 : List eg_I := .inl (92, 1, .iload 1, 0, 0) :: c_M_corner_93
def c_M_corner_89 : List eg_I := .inl (89, 3, .getfield 277, 12, 17) :: c_M_corner_92
def c_M_corner_88 : List eg_I := .inl (88, 1, .aload 0, 0, 0) :: c_M_corner_89
def c_M_corner_85 : List eg_I := .inl (85, 3, .getfield 60, 12, 18) :: c_M_corner_88
def c_M_corner_84 : List eg_I := .inl (84, 1, .aload 0, 0, 0) :: c_M_corner_85
def c_M_corner_83 : List eg_I := .inl (83, 1, .lreturn, 0, 0) :: []
def c_M_corner_80 : List eg_I := .inr (80, 1, 112, n_M_finding, 1, 12, 0, 0) :: c_M_corner_83
def c_M_corner_77 : List eg_I := .inl (77, 3, .sipush (-1000000000000000005), 116, 0) :: c_M_corner_80
def c_M_corner_76 : List eg_I := .inl (76, 1, .aload 0, 0, 0) :: c_M_corner_77
def c_M_corner_73 : List eg_I := .inl (73, 3, .if_icmp .ne (11), 84, 0) :: c_M_corner_76
def c_M_corner_71 : List eg_I := .inl (71, 2, .iconst (10), 0, 0) :: c_M_corner_73
def c_M_corner_68 : List eg_I := .inl (68, 3, .getfield 277, 12, 17) :: c_M_corner_71
def c_M_corner_67 : List eg_I := .inl (67, 1, .aload 0, 0, 0) :: c_M_corner_68
def c_M_corner_66 : List eg_I := .inl (66, 1, .lreturn, 0, 0) :: []
def c_M_corner_63 : List eg_I := .inr (63, 1, 112, n_M_finding, 1, 12, 0, 0) :: c_M_corner_66
def c_M_corner_60 : List eg_I := .inl (60, 3, .sipush (-1000000000000000003), 143, 0) :: c_M_corner_63
def c_M_corner_59 : List eg_I := .inl (59, 1, .aload 0, 0, 0) :: c_M_corner_60
def c_M_corner_56 : List eg_I := .inl (56, 3, .if_icmp .ne (11), 67, 0) :: c_M_corner_59
def c_M_corner_55 : List eg_I := .inl (55, 1, .iload 2, 0, 0) :: c_M_corner_56
def c_M_corner_54 : List eg_I := .inl (54, 1, .iaload, 0, 0) :: c_M_corner_55
def c_M_corner_53 : List eg_I := .inl (53, 1, .isub, 0, 0) :: c_M_corner_54
def c_M_corner_52 : List eg_I := .inl (52, 1, .iconst (1), 0, 0) :: c_M_corner_53
def c_M_corner_49 : List eg_I := .inl (49, 3, .getfield 277, 12, 17) :: c_M_corner_52
def c_M_corner_48 : List eg_I := .inl (48, 1, .aload 0, 0, 0) :: c_M_corner_49
def c_M_corner_45 : List eg_I := .inl (45, 3, .getfield 63, 12, 19) :: c_M_corner_48
def c_M_corner_44 : List eg_I := .inl (44, 1, .aload 0, 0, 0) :: c_M_corner_45
def c_M_corner_41 : List eg_I := .inl (41, 3, .if_icmp .ne (26), 67, 0) :: c_M_corner_44
def c_M_corner_40 : List eg_I := .inl (40, 1, .iload 1, 0, 0) :: c_M_corner_41
def c_M_corner_39 : List eg_I := .inl (39, 1, .iaload, 0, 0) :: c_M_corner_40
def c_M_corner_38 : List eg_I := .inl (38, 1, .isub, 0, 0) :: c_M_corner_39
def c_M_corner_37 : List eg_I := .inl (37, 1, .iconst (1), 0, 0) :: c_M_corner_38
def c_M_corner_34 : List eg_I := .inl (34, 3, .getfield 277, 12, 17) :: c_M_corner_37
def c_M_corner_33 : List eg_I := .inl (33, 1, .aload 0, 0, 0) :: c_M_corner_34
def c_M_corner_30 : List eg_I := .inl (30, 3, .getfield 60, 12, 18) :: c_M_corner_33
def c_M_corner_29 : List eg_I := .inl (29, 1, .aload 0, 0, 0) :: c_M_corner_30
def c_M_corner_26 : List eg_I := .inl (26, 3, .ifCond .le (41), 67, 0) :: c_M_corner_29
def c_M_corner_23 : List eg_I := .inl (23, 3, .getfield 277, 12, 17) :: c_M_corner_26
def c_M_corner_22 : List eg_I := .inl (22, 1, .aload 0, 0, 0) :: c_M_corner_23
def c_M_corner_21 : List eg_I := .inl (21, 1, .lreturn, 0, 0) :: []
def c_M_corner_18 : List eg_I := .inr (18, 1, 112, n_M_finding, 1, 12, 0, 0) :: c_M_corner_21
def c_M_corner_15 : List eg_I := .inl (15, 3, .sipush (-1000000000000000001), 110, 0) :: c_M_corner_18
def c_M_corner_14 : List eg_I := .inl (14, 1, .aload 0, 0, 0) :: c_M_corner_15
def c_M_corner_11 : List eg_I := .inl (11, 3, .ifCond .ne (11), 22, 0) :: c_M_corner_14
def c_M_corner_8 : List eg_I := .inr (8, 0, 107, n_M_isNear, 1, 12, 0, 0) :: c_M_corner_11
def c_M_corner_7 : List eg_I := .inl (7, 1, .iload 2, 0, 0) :: c_M_corner_8
def c_M_corner_4 : List eg_I := .inl (4, 3, .ifCond .eq (10), 14, 0) :: c_M_corner_7
def c_M_corner_1 : List eg_I := .inr (1, 0, 107, n_M_isNear, 1, 12, 0, 0) :: c_M_corner_4
def c_M_corner_0 : List eg_I := .inl (0, 1, .iload 1, 0, 0) :: c_M_corner_1
section
variable {rm : Room} {K : Nat → Nat → Nat → eg_Lo → List Value → List eg_E → Prop} {Q : Option Value → List eg_E → Prop} {kc ks : Nat} {loc : eg_Lo} {st : List Value} {h : List eg_E}
theorem s_M_corner_0 {x : Int32} {l0 : Option Value} {l : eg_Lo} : wps rm K Q c_M_corner_0 kc ks (l0 :: some (.int x) :: l) (st) h = wps rm K Q c_M_corner_1 kc ks (l0 :: some (.int x) :: l) (.int x :: st) h := gk_iload rfl
theorem s_M_corner_1  {a1 : Value} : wps rm K Q c_M_corner_1 kc ks loc (a1 :: st) h = (st.length ≤ 4 ∧ eg_Cs n_M_isNear [a1] h (fun v h9 => wps rm K Q c_M_corner_4 kc ks loc (v.toList ++ st) h9)) := eg_c0_1
theorem s_M_corner_4 {x : Int32} : wps rm K Q c_M_corner_4 kc ks loc (.int x :: st) h = ((x = 0 → K 14 kc ks loc st h) ∧ (¬ x = 0 → wps rm K Q c_M_corner_7 kc ks loc (st) h)) := gk_if1_eq
theorem s_M_corner_7 {x : Int32} {l0 l1 : Option Value} {l : eg_Lo} : wps rm K Q c_M_corner_7 kc ks (l0 :: l1 :: some (.int x) :: l) (st) h = wps rm K Q c_M_corner_8 kc ks (l0 :: l1 :: some (.int x) :: l) (.int x :: st) h := gk_iload rfl
theorem s_M_corner_8  {a1 : Value} : wps rm K Q c_M_corner_8 kc ks loc (a1 :: st) h = (st.length ≤ 4 ∧ eg_Cs n_M_isNear [a1] h (fun v h9 => wps rm K Q c_M_corner_11 kc ks loc (v.toList ++ st) h9)) := eg_c0_1
theorem s_M_corner_11 {x : Int32} : wps rm K Q c_M_corner_11 kc ks loc (.int x :: st) h = ((¬ x = 0 → K 22 kc ks loc st h) ∧ (x = 0 → wps rm K Q c_M_corner_14 kc ks loc (st) h)) := gk_if1_ne
theorem s_M_corner_14 {x : Nat} {l : eg_Lo} : wps rm K Q c_M_corner_14 kc ks (some (.ref x) :: l) (st) h = wps rm K Q c_M_corner_15 kc ks (some (.ref x) :: l) (.ref x :: st) h := gk_aload rfl
theorem s_M_corner_15  : wps rm K Q c_M_corner_15 kc ks loc (st) h = wps rm K Q c_M_corner_18 kc ks loc (.long (-1000000000000000001) :: st) h := gk_lc (by decide)
theorem s_M_corner_18  {a1 : Value} {x : Nat} : wps rm K Q c_M_corner_18 kc ks loc (a1 :: .ref (x + 1) :: st) h = (eg_cls h x 12 ∧ st.length ≤ 4 ∧ eg_Cs n_M_finding (.ref (x + 1) :: [a1]) h (fun v h9 => wps rm K Q c_M_corner_21 kc ks loc (v.toList ++ st) h9)) := eg_c1_1
theorem s_M_corner_21 {x : Int64} : wps rm K Q c_M_corner_21 kc ks loc ([.long x]) h = (kc = rm.cells ∧ Q (some (.long x)) h) := gk_lret
theorem s_M_corner_22 {x : Nat} {l : eg_Lo} : wps rm K Q c_M_corner_22 kc ks (some (.ref x) :: l) (st) h = wps rm K Q c_M_corner_23 kc ks (some (.ref x) :: l) (.ref x :: st) h := gk_aload rfl
theorem s_M_corner_23 {x : Nat} : wps rm K Q c_M_corner_23 kc ks loc (.ref (x + 1) :: st) h = eg_gf h x 12 17 (fun v => wps rm K Q c_M_corner_26 kc ks loc (v :: st) h) := gk_gf
theorem s_M_corner_26 {x : Int32} : wps rm K Q c_M_corner_26 kc ks loc (.int x :: st) h = ((x ≤ 0 → K 67 kc ks loc st h) ∧ (¬ x ≤ 0 → wps rm K Q c_M_corner_29 kc ks loc (st) h)) := gk_if1_le
theorem s_M_corner_29 {x : Nat} {l : eg_Lo} : wps rm K Q c_M_corner_29 kc ks (some (.ref x) :: l) (st) h = wps rm K Q c_M_corner_30 kc ks (some (.ref x) :: l) (.ref x :: st) h := gk_aload rfl
theorem s_M_corner_30 {x : Nat} : wps rm K Q c_M_corner_30 kc ks loc (.ref (x + 1) :: st) h = eg_gf h x 12 18 (fun v => wps rm K Q c_M_corner_33 kc ks loc (v :: st) h) := gk_gf
theorem s_M_corner_33 {x : Nat} {l : eg_Lo} : wps rm K Q c_M_corner_33 kc ks (some (.ref x) :: l) (st) h = wps rm K Q c_M_corner_34 kc ks (some (.ref x) :: l) (.ref x :: st) h := gk_aload rfl
theorem s_M_corner_34 {x : Nat} : wps rm K Q c_M_corner_34 kc ks loc (.ref (x + 1) :: st) h = eg_gf h x 12 17 (fun v => wps rm K Q c_M_corner_37 kc ks loc (v :: st) h) := gk_gf
theorem s_M_corner_37  : wps rm K Q c_M_corner_37 kc ks loc (st) h = wps rm K Q c_M_corner_38 kc ks loc (.int (1) :: st) h := gk_ic (by decide)
theorem s_M_corner_38 {x y : Int32} : wps rm K Q c_M_corner_38 kc ks loc (.int y :: .int x :: st) h = wps rm K Q c_M_corner_39 kc ks loc (.int (x - y) :: st) h := gk_isub
theorem s_M_corner_39 {x : Nat} {i : Int32} : wps rm K Q c_M_corner_39 kc ks loc (.int i :: .ref (x + 1) :: st) h = eg_ia h x i (fun v => wps rm K Q c_M_corner_40 kc ks loc (.int v :: st) h) := gk_iaload
theorem s_M_corner_40 {x : Int32} {l0 : Option Value} {l : eg_Lo} : wps rm K Q c_M_corner_40 kc ks (l0 :: some (.int x) :: l) (st) h = wps rm K Q c_M_corner_41 kc ks (l0 :: some (.int x) :: l) (.int x :: st) h := gk_iload rfl
theorem s_M_corner_41 {x y : Int32} : wps rm K Q c_M_corner_41 kc ks loc (.int y :: .int x :: st) h = ((¬ x = y → K 67 kc ks loc st h) ∧ (x = y → wps rm K Q c_M_corner_44 kc ks loc (st) h)) := gk_if2_ne
theorem s_M_corner_44 {x : Nat} {l : eg_Lo} : wps rm K Q c_M_corner_44 kc ks (some (.ref x) :: l) (st) h = wps rm K Q c_M_corner_45 kc ks (some (.ref x) :: l) (.ref x :: st) h := gk_aload rfl
theorem s_M_corner_45 {x : Nat} : wps rm K Q c_M_corner_45 kc ks loc (.ref (x + 1) :: st) h = eg_gf h x 12 19 (fun v => wps rm K Q c_M_corner_48 kc ks loc (v :: st) h) := gk_gf
theorem s_M_corner_48 {x : Nat} {l : eg_Lo} : wps rm K Q c_M_corner_48 kc ks (some (.ref x) :: l) (st) h = wps rm K Q c_M_corner_49 kc ks (some (.ref x) :: l) (.ref x :: st) h := gk_aload rfl
theorem s_M_corner_49 {x : Nat} : wps rm K Q c_M_corner_49 kc ks loc (.ref (x + 1) :: st) h = eg_gf h x 12 17 (fun v => wps rm K Q c_M_corner_52 kc ks loc (v :: st) h) := gk_gf
theorem s_M_corner_52  : wps rm K Q c_M_corner_52 kc ks loc (st) h = wps rm K Q c_M_corner_53 kc ks loc (.int (1) :: st) h := gk_ic (by decide)
theorem s_M_corner_53 {x y : Int32} : wps rm K Q c_M_corner_53 kc ks loc (.int y :: .int x :: st) h = wps rm K Q c_M_corner_54 kc ks loc (.int (x - y) :: st) h := gk_isub
theorem s_M_corner_54 {x : Nat} {i : Int32} : wps rm K Q c_M_corner_54 kc ks loc (.int i :: .ref (x + 1) :: st) h = eg_ia h x i (fun v => wps rm K Q c_M_corner_55 kc ks loc (.int v :: st) h) := gk_iaload
theorem s_M_corner_55 {x : Int32} {l0 l1 : Option Value} {l : eg_Lo} : wps rm K Q c_M_corner_55 kc ks (l0 :: l1 :: some (.int x) :: l) (st) h = wps rm K Q c_M_corner_56 kc ks (l0 :: l1 :: some (.int x) :: l) (.int x :: st) h := gk_iload rfl
theorem s_M_corner_56 {x y : Int32} : wps rm K Q c_M_corner_56 kc ks loc (.int y :: .int x :: st) h = ((¬ x = y → K 67 kc ks loc st h) ∧ (x = y → wps rm K Q c_M_corner_59 kc ks loc (st) h)) := gk_if2_ne
theorem s_M_corner_59 {x : Nat} {l : eg_Lo} : wps rm K Q c_M_corner_59 kc ks (some (.ref x) :: l) (st) h = wps rm K Q c_M_corner_60 kc ks (some (.ref x) :: l) (.ref x :: st) h := gk_aload rfl
theorem s_M_corner_60  : wps rm K Q c_M_corner_60 kc ks loc (st) h = wps rm K Q c_M_corner_63 kc ks loc (.long (-1000000000000000003) :: st) h := gk_lc (by decide)
theorem s_M_corner_63  {a1 : Value} {x : Nat} : wps rm K Q c_M_corner_63 kc ks loc (a1 :: .ref (x + 1) :: st) h = (eg_cls h x 12 ∧ st.length ≤ 4 ∧ eg_Cs n_M_finding (.ref (x + 1) :: [a1]) h (fun v h9 => wps rm K Q c_M_corner_66 kc ks loc (v.toList ++ st) h9)) := eg_c1_1
theorem s_M_corner_66 {x : Int64} : wps rm K Q c_M_corner_66 kc ks loc ([.long x]) h = (kc = rm.cells ∧ Q (some (.long x)) h) := gk_lret
theorem s_M_corner_67 {x : Nat} {l : eg_Lo} : wps rm K Q c_M_corner_67 kc ks (some (.ref x) :: l) (st) h = wps rm K Q c_M_corner_68 kc ks (some (.ref x) :: l) (.ref x :: st) h := gk_aload rfl
theorem s_M_corner_68 {x : Nat} : wps rm K Q c_M_corner_68 kc ks loc (.ref (x + 1) :: st) h = eg_gf h x 12 17 (fun v => wps rm K Q c_M_corner_71 kc ks loc (v :: st) h) := gk_gf
theorem s_M_corner_71  : wps rm K Q c_M_corner_71 kc ks loc (st) h = wps rm K Q c_M_corner_73 kc ks loc (.int (10) :: st) h := gk_ic (by decide)
theorem s_M_corner_73 {x y : Int32} : wps rm K Q c_M_corner_73 kc ks loc (.int y :: .int x :: st) h = ((¬ x = y → K 84 kc ks loc st h) ∧ (x = y → wps rm K Q c_M_corner_76 kc ks loc (st) h)) := gk_if2_ne
theorem s_M_corner_76 {x : Nat} {l : eg_Lo} : wps rm K Q c_M_corner_76 kc ks (some (.ref x) :: l) (st) h = wps rm K Q c_M_corner_77 kc ks (some (.ref x) :: l) (.ref x :: st) h := gk_aload rfl
theorem s_M_corner_77  : wps rm K Q c_M_corner_77 kc ks loc (st) h = wps rm K Q c_M_corner_80 kc ks loc (.long (-1000000000000000005) :: st) h := gk_lc (by decide)
theorem s_M_corner_80  {a1 : Value} {x : Nat} : wps rm K Q c_M_corner_80 kc ks loc (a1 :: .ref (x + 1) :: st) h = (eg_cls h x 12 ∧ st.length ≤ 4 ∧ eg_Cs n_M_finding (.ref (x + 1) :: [a1]) h (fun v h9 => wps rm K Q c_M_corner_83 kc ks loc (v.toList ++ st) h9)) := eg_c1_1
theorem s_M_corner_83 {x : Int64} : wps rm K Q c_M_corner_83 kc ks loc ([.long x]) h = (kc = rm.cells ∧ Q (some (.long x)) h) := gk_lret
theorem s_M_corner_84 {x : Nat} {l : eg_Lo} : wps rm K Q c_M_corner_84 kc ks (some (.ref x) :: l) (st) h = wps rm K Q c_M_corner_85 kc ks (some (.ref x) :: l) (.ref x :: st) h := gk_aload rfl
theorem s_M_corner_85 {x : Nat} : wps rm K Q c_M_corner_85 kc ks loc (.ref (x + 1) :: st) h = eg_gf h x 12 18 (fun v => wps rm K Q c_M_corner_88 kc ks loc (v :: st) h) := gk_gf
theorem s_M_corner_88 {x : Nat} {l : eg_Lo} : wps rm K Q c_M_corner_88 kc ks (some (.ref x) :: l) (st) h = wps rm K Q c_M_corner_89 kc ks (some (.ref x) :: l) (.ref x :: st) h := gk_aload rfl
theorem s_M_corner_89 {x : Nat} : wps rm K Q c_M_corner_89 kc ks loc (.ref (x + 1) :: st) h = eg_gf h x 12 17 (fun v => wps rm K Q c_M_corner_92 kc ks loc (v :: st) h) := gk_gf
theorem s_M_corner_92 {x : Int32} {l0 : Option Value} {l : eg_Lo} : wps rm K Q c_M_corner_92 kc ks (l0 :: some (.int x) :: l) (st) h = wps rm K Q c_M_corner_93 kc ks (l0 :: some (.int x) :: l) (.int x :: st) h := gk_iload rfl
theorem s_M_corner_93 {x : Nat} {i : Int32} {v : Int32} : wps rm K Q c_M_corner_93 kc ks loc (.int v :: .int i :: .ref (x + 1) :: st) h = eg_is h x i v (fun h9 => wps rm K Q c_M_corner_94 kc ks loc (st) h9) := gk_iastore
theorem s_M_corner_94 {x : Nat} {l : eg_Lo} : wps rm K Q c_M_corner_94 kc ks (some (.ref x) :: l) (st) h = wps rm K Q c_M_corner_95 kc ks (some (.ref x) :: l) (.ref x :: st) h := gk_aload rfl
theorem s_M_corner_95 {x : Nat} : wps rm K Q c_M_corner_95 kc ks loc (.ref (x + 1) :: st) h = eg_gf h x 12 19 (fun v => wps rm K Q c_M_corner_98 kc ks loc (v :: st) h) := gk_gf
theorem s_M_corner_98 {x : Nat} {l : eg_Lo} : wps rm K Q c_M_corner_98 kc ks (some (.ref x) :: l) (st) h = wps rm K Q c_M_corner_99 kc ks (some (.ref x) :: l) (.ref x :: st) h := gk_aload rfl
theorem s_M_corner_99 {x : Nat} : wps rm K Q c_M_corner_99 kc ks loc (.ref (x + 1) :: st) h = eg_gf h x 12 17 (fun v => wps rm K Q c_M_corner_102 kc ks loc (v :: st) h) := gk_gf
theorem s_M_corner_102 {x : Int32} {l0 l1 : Option Value} {l : eg_Lo} : wps rm K Q c_M_corner_102 kc ks (l0 :: l1 :: some (.int x) :: l) (st) h = wps rm K Q c_M_corner_103 kc ks (l0 :: l1 :: some (.int x) :: l) (.int x :: st) h := gk_iload rfl
theorem s_M_corner_103 {x : Nat} {i : Int32} {v : Int32} : wps rm K Q c_M_corner_103 kc ks loc (.int v :: .int i :: .ref (x + 1) :: st) h = eg_is h x i v (fun h9 => wps rm K Q c_M_corner_104 kc ks loc (st) h9) := gk_iastore
theorem s_M_corner_104 {x : Nat} {l : eg_Lo} : wps rm K Q c_M_corner_104 kc ks (some (.ref x) :: l) (st) h = wps rm K Q c_M_corner_105 kc ks (some (.ref x) :: l) (.ref x :: st) h := gk_aload rfl
theorem s_M_corner_105 {x : Nat} : wps rm K Q c_M_corner_105 kc ks loc (.ref x :: st) h = wps rm K Q c_M_corner_106 kc ks loc (.ref x :: .ref x :: st) h := gk_dup
theorem s_M_corner_106 {x : Nat} : wps rm K Q c_M_corner_106 kc ks loc (.ref (x + 1) :: st) h = eg_gf h x 12 17 (fun v => wps rm K Q c_M_corner_109 kc ks loc (v :: st) h) := gk_gf
theorem s_M_corner_109  : wps rm K Q c_M_corner_109 kc ks loc (st) h = wps rm K Q c_M_corner_110 kc ks loc (.int (1) :: st) h := gk_ic (by decide)
theorem s_M_corner_110 {x y : Int32} : wps rm K Q c_M_corner_110 kc ks loc (.int y :: .int x :: st) h = wps rm K Q c_M_corner_111 kc ks loc (.int (x + y) :: st) h := gk_iadd
theorem s_M_corner_111 {x : Nat} {v : Value} : wps rm K Q c_M_corner_111 kc ks loc (v :: .ref (x + 1) :: st) h = eg_pf h x 12 17 v (fun h9 => wps rm K Q c_M_corner_114 kc ks loc (st) h9) := gk_pf
theorem s_M_corner_114 {x : Nat} {l : eg_Lo} : wps rm K Q c_M_corner_114 kc ks (some (.ref x) :: l) (st) h = wps rm K Q c_M_corner_115 kc ks (some (.ref x) :: l) (.ref x :: st) h := gk_aload rfl
theorem s_M_corner_115 {x : Nat} : wps rm K Q c_M_corner_115 kc ks loc (.ref (x + 1) :: st) h = eg_gf h x 12 17 (fun v => wps rm K Q c_M_corner_118 kc ks loc (v :: st) h) := gk_gf
theorem s_M_corner_118 {x : Int32} : wps rm K Q c_M_corner_118 kc ks loc (.int x :: st) h = wps rm K Q c_M_corner_119 kc ks loc (.long (x.toInt64) :: st) h := gk_i2l
theorem s_M_corner_119 {x : Int64} : wps rm K Q c_M_corner_119 kc ks loc ([.long x]) h = (kc = rm.cells ∧ Q (some (.long x)) h) := gk_lret
def T_M_corner : List (Nat × List eg_I) := [(14, c_M_corner_14), (22, c_M_corner_22), (67, c_M_corner_67), (84, c_M_corner_84)]
theorem j_M_corner_14 {R : Nat → Nat → Nat → eg_Lo → List Value → List eg_E → Prop} {f pc0 : Nat} : eg_run rm R Q T_M_corner (f + 1) 14 kc ks loc st h = wps rm (eg_run rm R Q T_M_corner f) Q c_M_corner_14 kc ks loc st h := rfl
theorem j_M_corner_22 {R : Nat → Nat → Nat → eg_Lo → List Value → List eg_E → Prop} {f pc0 : Nat} : eg_run rm R Q T_M_corner (f + 1) 22 kc ks loc st h = wps rm (eg_run rm R Q T_M_corner f) Q c_M_corner_22 kc ks loc st h := rfl
theorem j_M_corner_67 {R : Nat → Nat → Nat → eg_Lo → List Value → List eg_E → Prop} {f pc0 : Nat} : eg_run rm R Q T_M_corner (f + 1) 67 kc ks loc st h = wps rm (eg_run rm R Q T_M_corner f) Q c_M_corner_67 kc ks loc st h := rfl
theorem j_M_corner_84 {R : Nat → Nat → Nat → eg_Lo → List Value → List eg_E → Prop} {f pc0 : Nat} : eg_run rm R Q T_M_corner (f + 1) 84 kc ks loc st h = wps rm (eg_run rm R Q T_M_corner f) Q c_M_corner_84 kc ks loc st h := rfl
end
theorem y_M_corner_0 : eg_seq m_M_corner 0 c_M_corner_0 = true := by decide +kernel
theorem y_M_corner_22 : eg_seq m_M_corner 22 c_M_corner_22 = true := by decide +kernel
theorem y_M_corner_67 : eg_seq m_M_corner 67 c_M_corner_67 = true := by decide +kernel
theorem y_M_corner_84 : eg_seq m_M_corner 84 c_M_corner_84 = true := by decide +kernel
theorem q_M_corner : ∀ q ∈ T_M_corner, eg_seq m_M_corner q.1 q.2 = true := by
  intro q hq
  simp only [T_M_corner, List.mem_cons, List.not_mem_nil, or_false] at hq
  rcases hq with rfl | rfl | rfl | rfl
  · exact (eg_seq_drop y_M_corner_0 6 : eg_seq m_M_corner 14 c_M_corner_14 = true)
  · exact y_M_corner_22
  · exact y_M_corner_67
  · exact y_M_corner_84
theorem md_M_corner : eg_md n_M_corner = m_M_corner := rfl
theorem mn_M_corner : n_M_corner < 202 := Nat.le_of_ble_eq_true rfl
theorem b_M_corner {as : List Value} {h : List eg_E} {Q : Option Value → List eg_E → Prop} (hf : (eg_fl as).length ≤ 3) : wps (eg_rm m_M_corner) (eg_run (eg_rm m_M_corner) (eg_R m_M_corner Q (h.length + 0)) Q T_M_corner 6) Q c_M_corner_0 0 0 (eg_entry 3 as) [] h → eg_Runs n_M_corner as h Q := eg_begin2 md_M_corner mn_M_corner y_M_corner_0 q_M_corner hf
/-! ===== M_open ===== -/
def c_M_open_12 : List eg_I := .inl (12, 1, .lreturn, 0, 0) :: []
def c_M_open_11 : List eg_I := .inl (11, 1, .i2l, 0, 0) :: c_M_open_12
def c_M_open_10 : List eg_I := .inl (10, 1, .iload 1, 0, 0) :: c_M_open_11
def c_M_open_7 : List eg_I := .inl (7, 3, .putfield 277, 12, 17) :: c_M_open_10
def c_M_open_6 : List eg_I := .inl (6, 1, .iconst (0), 0, 0) :: c_M_open_7
def c_M_open_5 : List eg_I := .inl (5, 1, .aload 0, 0, 0) :: c_M_open_6
def c_M_open_4 : List eg_I := .inl (4, 1, .istore 1, 0, 0) :: c_M_open_5
def c_M_open_1 : List eg_I := .inl (1, 3, .getfield 277, 12, 17) :: c_M_open_4
def c_M_open_0 : List eg_I := .inl (0, 1, .aload 0, 0, 0) :: c_M_open_1
section
variable {rm : Room} {K : Nat → Nat → Nat → eg_Lo → List Value → List eg_E → Prop} {Q : Option Value → List eg_E → Prop} {kc ks : Nat} {loc : eg_Lo} {st : List Value} {h : List eg_E}
theorem s_M_open_0 {x : Nat} {l : eg_Lo} : wps rm K Q c_M_open_0 kc ks (some (.ref x) :: l) (st) h = wps rm K Q c_M_open_1 kc ks (some (.ref x) :: l) (.ref x :: st) h := gk_aload rfl
theorem s_M_open_1 {x : Nat} : wps rm K Q c_M_open_1 kc ks loc (.ref (x + 1) :: st) h = eg_gf h x 12 17 (fun v => wps rm K Q c_M_open_4 kc ks loc (v :: st) h) := gk_gf
theorem s_M_open_4 {x : Int32} : wps rm K Q c_M_open_4 kc ks loc (.int x :: st) h = wps rm K Q c_M_open_5 kc ks (eg_set1 loc 1 (.int x)) (st) h := gk_istore
theorem s_M_open_5 {x : Nat} {l : eg_Lo} : wps rm K Q c_M_open_5 kc ks (some (.ref x) :: l) (st) h = wps rm K Q c_M_open_6 kc ks (some (.ref x) :: l) (.ref x :: st) h := gk_aload rfl
theorem s_M_open_6  : wps rm K Q c_M_open_6 kc ks loc (st) h = wps rm K Q c_M_open_7 kc ks loc (.int (0) :: st) h := gk_ic (by decide)
theorem s_M_open_7 {x : Nat} {v : Value} : wps rm K Q c_M_open_7 kc ks loc (v :: .ref (x + 1) :: st) h = eg_pf h x 12 17 v (fun h9 => wps rm K Q c_M_open_10 kc ks loc (st) h9) := gk_pf
theorem s_M_open_10 {x : Int32} {l0 : Option Value} {l : eg_Lo} : wps rm K Q c_M_open_10 kc ks (l0 :: some (.int x) :: l) (st) h = wps rm K Q c_M_open_11 kc ks (l0 :: some (.int x) :: l) (.int x :: st) h := gk_iload rfl
theorem s_M_open_11 {x : Int32} : wps rm K Q c_M_open_11 kc ks loc (.int x :: st) h = wps rm K Q c_M_open_12 kc ks loc (.long (x.toInt64) :: st) h := gk_i2l
theorem s_M_open_12 {x : Int64} : wps rm K Q c_M_open_12 kc ks loc ([.long x]) h = (kc = rm.cells ∧ Q (some (.long x)) h) := gk_lret
def T_M_open : List (Nat × List eg_I) := []
end
theorem y_M_open_0 : eg_seq m_M_open 0 c_M_open_0 = true := by decide +kernel
theorem q_M_open : ∀ q ∈ T_M_open, eg_seq m_M_open q.1 q.2 = true := by
  intro q hq
  cases hq
theorem md_M_open : eg_md n_M_open = m_M_open := rfl
theorem mn_M_open : n_M_open < 202 := Nat.le_of_ble_eq_true rfl
theorem b_M_open {as : List Value} {h : List eg_E} {Q : Option Value → List eg_E → Prop} (hf : (eg_fl as).length ≤ 2) : wps (eg_rm m_M_open) (eg_run (eg_rm m_M_open) (eg_R m_M_open Q (h.length + 0)) Q T_M_open 2) Q c_M_open_0 0 0 (eg_entry 2 as) [] h → eg_Runs n_M_open as h Q := eg_begin2 md_M_open mn_M_open y_M_open_0 q_M_open hf
