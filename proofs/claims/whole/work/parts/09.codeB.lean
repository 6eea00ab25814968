/-! ===== Circ_hasNoneOutside ===== -/
def z_Circ_hasNoneOutside_2 : List eg_I := [.inl (2, 0, .nop, 0, 0)]
def c_Circ_hasNoneOutside_32 : List eg_I := .inl (32, 1, .ireturn, 0, 1) :: []
def c_Circ_hasNoneOutside_31 : List eg_I := .inl (31, 1, .iconst (1), 0, 0) :: c_Circ_hasNoneOutside_32
def c_Circ_hasNoneOutside_28 : List eg_I := .inl (28, 3, .goto (-26), 2, 0) :: []
def c_Circ_hasNoneOutside_25 : List eg_I := .inl (25, 3, .iinc 1 (1), 0, 0) :: c_Circ_hasNoneOutside_28
def c_Circ_hasNoneOutside_24 : List eg_I := .inl (24, 1, .ireturn, 0, 1) :: []
def c_Circ_hasNoneOutside_23 : List eg_I := .inl (23, 1, .iconst (0), 0, 0) :: c_Circ_hasNoneOutside_24
def c_Circ_hasNoneOutside_20 : List eg_I := .inl (20, 3, .ifCond .le (5), 25, 0) :: c_Circ_hasNoneOutside_23
def c_Circ_hasNoneOutside_19 : List eg_I := .inl (19, 1, .lcmp, 0, 0) :: c_Circ_hasNoneOutside_20
def c_Circ_hasNoneOutside_18 : List eg_I := .inl (18, 1, .sipush (0), 0, 0) :: c_Circ_hasNoneOutside_19
def c_Circ_hasNoneOutside_15 : List eg_I := .inr (15, 1, 72, n_Circ_outside, 1, 1, 0, 0) :: c_Circ_hasNoneOutside_18
def c_Circ_hasNoneOutside_14 : List eg_I := .inl (14, 1, .iload 1, 0, 0) :: c_Circ_hasNoneOutside_15
def c_Circ_hasNoneOutside_13 : List eg_I := .inl (13, 1, .aload 0, 0, 0) :: c_Circ_hasNoneOutside_14
def c_Circ_hasNoneOutside_10 : List eg_I := .inl (10, 3, .if_icmp .ge (21), 31, 0) :: c_Circ_hasNoneOutside_13
def c_Circ_hasNoneOutside_7 : List eg_I := .inl (7, 3, .getfield 22, 10, 4) :: c_Circ_hasNoneOutside_10
def c_Circ_hasNoneOutside_4 : List eg_I := .inl (4, 3, .getfield 12, 1, 0) :: c_Circ_hasNoneOutside_7
def c_Circ_hasNoneOutside_3 : List eg_I := .inl (3, 1, .aload 0, 0, 0) :: c_Circ_hasNoneOutside_4
def c_Circ_hasNoneOutside_2 : List eg_I := .inl (2, 1, .iload 1, 0, 0) :: c_Circ_hasNoneOutside_3
def c_Circ_hasNoneOutside_1 : List eg_I := .inl (1, 1, .istore 1, 0, 0) :: z_Circ_hasNoneOutside_2
def c_Circ_hasNoneOutside_0 : List eg_I := .inl (0, 1, .iconst (0), 0, 0) :: c_Circ_hasNoneOutside_1
section
variable {rm : Room} {K : Nat → Nat → Nat → eg_Lo → List Value → List eg_E → Prop} {Q : Option Value → List eg_E → Prop} {kc ks : Nat} {loc : eg_Lo} {st : List Value} {h : List eg_E}
theorem s_Circ_hasNoneOutside_0  : wps rm K Q c_Circ_hasNoneOutside_0 kc ks loc (st) h = wps rm K Q c_Circ_hasNoneOutside_1 kc ks loc (.int (0) :: st) h := gk_ic (by decide)
theorem s_Circ_hasNoneOutside_1 {x : Int32} : wps rm K Q c_Circ_hasNoneOutside_1 kc ks loc (.int x :: st) h = wps rm K Q z_Circ_hasNoneOutside_2 kc ks (eg_set1 loc 1 (.int x)) (st) h := gk_istore
theorem s_Circ_hasNoneOutside_2 {x : Int32} {l0 : Option Value} {l : eg_Lo} : wps rm K Q c_Circ_hasNoneOutside_2 kc ks (l0 :: some (.int x) :: l) (st) h = wps rm K Q c_Circ_hasNoneOutside_3 kc ks (l0 :: some (.int x) :: l) (.int x :: st) h := gk_iload rfl
theorem s_Circ_hasNoneOutside_3 {x : Nat} {l : eg_Lo} : wps rm K Q c_Circ_hasNoneOutside_3 kc ks (some (.ref x) :: l) (st) h = wps rm K Q c_Circ_hasNoneOutside_4 kc ks (some (.ref x) :: l) (.ref x :: st) h := gk_aload rfl
theorem s_Circ_hasNoneOutside_4 {x : Nat} : wps rm K Q c_Circ_hasNoneOutside_4 kc ks loc (.ref (x + 1) :: st) h = eg_gf h x 1 0 (fun v => wps rm K Q c_Circ_hasNoneOutside_7 kc ks loc (v :: st) h) := gk_gf
theorem s_Circ_hasNoneOutside_7 {x : Nat} : wps rm K Q c_Circ_hasNoneOutside_7 kc ks loc (.ref (x + 1) :: st) h = eg_gf h x 10 4 (fun v => wps rm K Q c_Circ_hasNoneOutside_10 kc ks loc (v :: st) h) := gk_gf
theorem s_Circ_hasNoneOutside_10 {x y : Int32} : wps rm K Q c_Circ_hasNoneOutside_10 kc ks loc (.int y :: .int x :: st) h = ((y ≤ x → K 31 kc ks loc st h) ∧ (¬ y ≤ x → wps rm K Q c_Circ_hasNoneOutside_13 kc ks loc (st) h)) := gk_if2_ge
theorem s_Circ_hasNoneOutside_13 {x : Nat} {l : eg_Lo} : wps rm K Q c_Circ_hasNoneOutside_13 kc ks (some (.ref x) :: l) (st) h = wps rm K Q c_Circ_hasNoneOutside_14 kc ks (some (.ref x) :: l) (.ref x :: st) h := gk_aload rfl
theorem s_Circ_hasNoneOutside_14 {x : Int32} {l0 : Option Value} {l : eg_Lo} : wps rm K Q c_Circ_hasNoneOutside_14 kc ks (l0 :: some (.int x) :: l) (st) h = wps rm K Q c_Circ_hasNoneOutside_15 kc ks (l0 :: some (.int x) :: l) (.int x :: st) h := gk_iload rfl
theorem s_Circ_hasNoneOutside_15  {a1 : Value} {x : Nat} : wps rm K Q c_Circ_hasNoneOutside_15 kc ks loc (a1 :: .ref (x + 1) :: st) h = (eg_cls h x 1 ∧ st.length ≤ 4 ∧ eg_Cs n_Circ_outside (.ref (x + 1) :: [a1]) h (fun v h9 => wps rm K Q c_Circ_hasNoneOutside_18 kc ks loc (v.toList ++ st) h9)) := eg_c1_1
theorem s_Circ_hasNoneOutside_18  : wps rm K Q c_Circ_hasNoneOutside_18 kc ks loc (st) h = wps rm K Q c_Circ_hasNoneOutside_19 kc ks loc (.long (0) :: st) h := gk_lc (by decide)
theorem s_Circ_hasNoneOutside_19 {x y : Int64} : wps rm K Q c_Circ_hasNoneOutside_19 kc ks loc (.long y :: .long x :: st) h = wps rm K Q c_Circ_hasNoneOutside_20 kc ks loc (.int (lg_cmp x y) :: st) h := gk_lcmp
theorem s_Circ_hasNoneOutside_20 {x : Int32} : wps rm K Q c_Circ_hasNoneOutside_20 kc ks loc (.int x :: st) h = ((x ≤ 0 → K 25 kc ks loc st h) ∧ (¬ x ≤ 0 → wps rm K Q c_Circ_hasNoneOutside_23 kc ks loc (st) h)) := gk_if1_le
theorem s_Circ_hasNoneOutside_23  : wps rm K Q c_Circ_hasNoneOutside_23 kc ks loc (st) h = wps rm K Q c_Circ_hasNoneOutside_24 kc ks loc (.int (0) :: st) h := gk_ic (by decide)
theorem s_Circ_hasNoneOutside_24 {x : Int32} : wps rm K Q c_Circ_hasNoneOutside_24 kc ks loc ([.int x]) h = (kc = rm.cells ∧ ((1 : Nat) = 1 → x = 0 ∨ x = 1) ∧ Q (some (.int x)) h) := gk_iret
theorem s_Circ_hasNoneOutside_25 {x : Int32} {l0 : Option Value} {lz : eg_Lo} : wps rm K Q c_Circ_hasNoneOutside_25 kc ks (l0 :: some (.int x) :: lz) (st) h = wps rm K Q c_Circ_hasNoneOutside_28 kc ks (eg_set1 (l0 :: some (.int x) :: lz) 1 (.int (x + (1)))) (st) h := gk_iinc rfl (by decide)
theorem s_Circ_hasNoneOutside_28  : wps rm K Q c_Circ_hasNoneOutside_28 kc ks loc (st) h = K 2 kc ks loc st h := gk_goto
theorem s_Circ_hasNoneOutside_31  : wps rm K Q c_Circ_hasNoneOutside_31 kc ks loc (st) h = wps rm K Q c_Circ_hasNoneOutside_32 kc ks loc (.int (1) :: st) h := gk_ic (by decide)
theorem s_Circ_hasNoneOutside_32 {x : Int32} : wps rm K Q c_Circ_hasNoneOutside_32 kc ks loc ([.int x]) h = (kc = rm.cells ∧ ((1 : Nat) = 1 → x = 0 ∨ x = 1) ∧ Q (some (.int x)) h) := gk_iret
theorem sz_Circ_hasNoneOutside_2 : wps rm K Q z_Circ_hasNoneOutside_2 kc ks loc st h = K 2 kc ks loc st h := gk_nop
def T_Circ_hasNoneOutside : List (Nat × List eg_I) := [(25, c_Circ_hasNoneOutside_25), (31, c_Circ_hasNoneOutside_31)]
theorem j_Circ_hasNoneOutside_25 {R : Nat → Nat → Nat → eg_Lo → List Value → List eg_E → Prop} {f pc0 : Nat} : eg_run rm R Q T_Circ_hasNoneOutside (f + 1) 25 kc ks loc st h = wps rm (eg_run rm R Q T_Circ_hasNoneOutside f) Q c_Circ_hasNoneOutside_25 kc ks loc st h := rfl
theorem j_Circ_hasNoneOutside_31 {R : Nat → Nat → Nat → eg_Lo → List Value → List eg_E → Prop} {f pc0 : Nat} : eg_run rm R Q T_Circ_hasNoneOutside (f + 1) 31 kc ks loc st h = wps rm (eg_run rm R Q T_Circ_hasNoneOutside f) Q c_Circ_hasNoneOutside_31 kc ks loc st h := rfl
theorem j_Circ_hasNoneOutside_2 {R : Nat → Nat → Nat → eg_Lo → List Value → List eg_E → Prop} {f pc0 : Nat} : eg_run rm R Q T_Circ_hasNoneOutside (f + 1) 2 kc ks loc st h = R 2 kc ks loc st h := rfl
end
theorem y_Circ_hasNoneOutside_0 : eg_seq m_Circ_hasNoneOutside 0 c_Circ_hasNoneOutside_0 = true := by decide +kernel
theorem y_Circ_hasNoneOutside_2 : eg_seq m_Circ_hasNoneOutside 2 c_Circ_hasNoneOutside_2 = true := by decide +kernel
theorem y_Circ_hasNoneOutside_25 : eg_seq m_Circ_hasNoneOutside 25 c_Circ_hasNoneOutside_25 = true := by decide +kernel
theorem y_Circ_hasNoneOutside_31 : eg_seq m_Circ_hasNoneOutside 31 c_Circ_hasNoneOutside_31 = true := by decide +kernel
theorem q_Circ_hasNoneOutside : ∀ q ∈ T_Circ_hasNoneOutside, eg_seq m_Circ_hasNoneOutside q.1 q.2 = true := by
  intro q hq
  simp only [T_Circ_hasNoneOutside, List.mem_cons, List.not_mem_nil, or_false] at hq
  rcases hq with rfl | rfl
  · exact y_Circ_hasNoneOutside_25
  · exact y_Circ_hasNoneOutside_31
theorem b_Circ_hasNoneOutside {as : List Value} {h : List eg_E} {Q : Option Value → List eg_E → Prop} (hf : (eg_fl as).length ≤ 2) (hw : wps (eg_rm m_Circ_hasNoneOutside) (eg_run (eg_rm m_Circ_hasNoneOutside) (eg_R m_Circ_hasNoneOutside Q (h.length + 0)) Q T_Circ_hasNoneOutside 4) Q c_Circ_hasNoneOutside_0 0 0 (eg_entry 2 as) [] h) : eg_Runs n_Circ_hasNoneOutside as h Q := eg_begin2 (d := m_Circ_hasNoneOutside) rfl (by decide) y_Circ_hasNoneOutside_0 q_Circ_hasNoneOutside hf hw
theorem p_Circ_hasNoneOutside_2 {Q : Option Value → List eg_E → Prop} {n0 kc ks : Nat} {loc : eg_Lo} {st : List Value} {h : List eg_E} (hw : wps (eg_rm m_Circ_hasNoneOutside) (eg_run (eg_rm m_Circ_hasNoneOutside) (eg_R m_Circ_hasNoneOutside Q n0) Q T_Circ_hasNoneOutside 4) Q c_Circ_hasNoneOutside_2 kc ks loc st h) : eg_R m_Circ_hasNoneOutside Q n0 2 kc ks loc st h := eg_go2 y_Circ_hasNoneOutside_2 q_Circ_hasNoneOutside hw
/-! ===== Circ_finish ===== -/
def c_Circ_finish_113 : List eg_I := .inl (113, 1, .return_, 0, 0) :: []
def c_Circ_finish_110 : List eg_I := .inr (110, 1, 113, n_Frac_become, 2, 4, 0, 0) :: c_Circ_finish_113
def c_Circ_finish_107 : List eg_I := .inl (107, 3, .getfield 98, 1, 4) :: c_Circ_finish_110
def c_Circ_finish_106 : List eg_I := .inl (106, 1, .aload 0, 0, 0) :: c_Circ_finish_107
def c_Circ_finish_105 : List eg_I := .inl (105, 1, .ladd, 0, 0) :: c_Circ_finish_106
def c_Circ_finish_102 : List eg_I := .inl (102, 3, .getfield 95, 1, 3) :: c_Circ_finish_105
def c_Circ_finish_101 : List eg_I := .inl (101, 1, .aload 0, 0, 0) :: c_Circ_finish_102
def c_Circ_finish_100 : List eg_I := .inl (100, 1, .lmul, 0, 0) :: c_Circ_finish_101
def c_Circ_finish_97 : List eg_I := .inl (97, 3, .getfield 98, 1, 4) :: c_Circ_finish_100
def c_Circ_finish_96 : List eg_I := .inl (96, 1, .aload 0, 0, 0) :: c_Circ_finish_97
def c_Circ_finish_95 : List eg_I := .inl (95, 1, .i2l, 0, 0) :: c_Circ_finish_96
def c_Circ_finish_94 : List eg_I := .inl (94, 1, .iaload, 0, 0) :: c_Circ_finish_95
def c_Circ_finish_91 : List eg_I := .inl (91, 3, .getfield 88, 1, 1) :: c_Circ_finish_94
def c_Circ_finish_90 : List eg_I := .inl (90, 1, .aload 0, 0, 0) :: c_Circ_finish_91
def c_Circ_finish_87 : List eg_I := .inl (87, 3, .getfield 60, 10, 1) :: c_Circ_finish_90
def c_Circ_finish_84 : List eg_I := .inl (84, 3, .getfield 12, 1, 0) :: c_Circ_finish_87
def c_Circ_finish_83 : List eg_I := .inl (83, 1, .aload 0, 0, 0) :: c_Circ_finish_84
def c_Circ_finish_80 : List eg_I := .inl (80, 3, .getfield 121, 2, 4) :: c_Circ_finish_83
def c_Circ_finish_79 : List eg_I := .inl (79, 1, .aload 1, 0, 0) :: c_Circ_finish_80
def c_Circ_finish_76 : List eg_I := .inr (76, 1, 113, n_Frac_become, 2, 4, 0, 0) :: c_Circ_finish_79
def c_Circ_finish_73 : List eg_I := .inl (73, 3, .getfield 98, 1, 4) :: c_Circ_finish_76
def c_Circ_finish_72 : List eg_I := .inl (72, 1, .aload 0, 0, 0) :: c_Circ_finish_73
def c_Circ_finish_71 : List eg_I := .inl (71, 1, .ladd, 0, 0) :: c_Circ_finish_72
def c_Circ_finish_68 : List eg_I := .inl (68, 3, .getfield 91, 1, 2) :: c_Circ_finish_71
def c_Circ_finish_67 : List eg_I := .inl (67, 1, .aload 0, 0, 0) :: c_Circ_finish_68
def c_Circ_finish_66 : List eg_I := .inl (66, 1, .lmul, 0, 0) :: c_Circ_finish_67
def c_Circ_finish_63 : List eg_I := .inl (63, 3, .getfield 98, 1, 4) :: c_Circ_finish_66
def c_Circ_finish_62 : List eg_I := .inl (62, 1, .aload 0, 0, 0) :: c_Circ_finish_63
def c_Circ_finish_61 : List eg_I := .inl (61, 1, .i2l, 0, 0) :: c_Circ_finish_62
def c_Circ_finish_60 : List eg_I := .inl (60, 1, .iaload, 0, 0) :: c_Circ_finish_61
def c_Circ_finish_57 : List eg_I := .inl (57, 3, .getfield 88, 1, 1) :: c_Circ_finish_60
def c_Circ_finish_56 : List eg_I := .inl (56, 1, .aload 0, 0, 0) :: c_Circ_finish_57
def c_Circ_finish_53 : List eg_I := .inl (53, 3, .getfield 57, 10, 0) :: c_Circ_finish_56
def c_Circ_finish_50 : List eg_I := .inl (50, 3, .getfield 12, 1, 0) :: c_Circ_finish_53
def c_Circ_finish_49 : List eg_I := .inl (49, 1, .aload 0, 0, 0) :: c_Circ_finish_50
def c_Circ_finish_46 : List eg_I := .inl (46, 3, .getfield 119, 2, 3) :: c_Circ_finish_49
def c_Circ_finish_45 : List eg_I := .inl (45, 1, .aload 1, 0, 0) :: c_Circ_finish_46
def c_Circ_finish_42 : List eg_I := .inr (42, 1, 113, n_Frac_become, 2, 4, 0, 0) :: c_Circ_finish_45
def c_Circ_finish_41 : List eg_I := .inl (41, 1, .lmul, 0, 0) :: c_Circ_finish_42
def c_Circ_finish_38 : List eg_I := .inl (38, 3, .getfield 98, 1, 4) :: c_Circ_finish_41
def c_Circ_finish_37 : List eg_I := .inl (37, 1, .aload 0, 0, 0) :: c_Circ_finish_38
def c_Circ_finish_34 : List eg_I := .inl (34, 3, .getfield 98, 1, 4) :: c_Circ_finish_37
def c_Circ_finish_33 : List eg_I := .inl (33, 1, .aload 0, 0, 0) :: c_Circ_finish_34
def c_Circ_finish_32 : List eg_I := .inl (32, 1, .ladd, 0, 0) :: c_Circ_finish_33
def c_Circ_finish_31 : List eg_I := .inl (31, 1, .lmul, 0, 0) :: c_Circ_finish_32
def c_Circ_finish_28 : List eg_I := .inl (28, 3, .getfield 95, 1, 3) :: c_Circ_finish_31
def c_Circ_finish_27 : List eg_I := .inl (27, 1, .aload 0, 0, 0) :: c_Circ_finish_28
def c_Circ_finish_24 : List eg_I := .inl (24, 3, .getfield 95, 1, 3) :: c_Circ_finish_27
def c_Circ_finish_23 : List eg_I := .inl (23, 1, .aload 0, 0, 0) :: c_Circ_finish_24
def c_Circ_finish_22 : List eg_I := .inl (22, 1, .lmul, 0, 0) :: c_Circ_finish_23
def c_Circ_finish_19 : List eg_I := .inl (19, 3, .getfield 91, 1, 2) :: c_Circ_finish_22
def c_Circ_finish_18 : List eg_I := .inl (18, 1, .aload 0, 0, 0) :: c_Circ_finish_19
def c_Circ_finish_15 : List eg_I := .inl (15, 3, .getfield 91, 1, 2) :: c_Circ_finish_18
def c_Circ_finish_14 : List eg_I := .inl (14, 1, .aload 0, 0, 0) :: c_Circ_finish_15
def c_Circ_finish_11 : List eg_I := .inl (11, 3, .getfield 109, 2, 2) :: c_Circ_finish_14
def c_Circ_finish_10 : List eg_I := .inl (10, 1, .aload 1, 0, 0) :: c_Circ_finish_11
def c_Circ_finish_7 : List eg_I := .inl (7, 3, .putfield 106, 2, 6) :: c_Circ_finish_10
def c_Circ_finish_6 : List eg_I := .inl (6, 1, .iload 2, 0, 0) :: c_Circ_finish_7
def c_Circ_finish_5 : List eg_I := .inl (5, 1, .aload 1, 0, 0) :: c_Circ_finish_6
def c_Circ_finish_2 : List eg_I := .inl (2, 3, .putfield 103, 2, 5) :: c_Circ_finish_5
def c_Circ_finish_1 : List eg_I := .inl (1, 1, .iconst (5), 0, 0) :: c_Circ_finish_2
def c_Circ_finish_0 : List eg_I := .inl (0, 1, .aload 1, 0, 0) :: c_Circ_finish_1
section
variable {rm : Room} {K : Nat → Nat → Nat → eg_Lo → List Value → List eg_E → Prop} {Q : Option Value → List eg_E → Prop} {kc ks : Nat} {loc : eg_Lo} {st : List Value} {h : List eg_E}
theorem s_Circ_finish_0 {x : Nat} {l0 : Option Value} {l : eg_Lo} : wps rm K Q c_Circ_finish_0 kc ks (l0 :: some (.ref x) :: l) (st) h = wps rm K Q c_Circ_finish_1 kc ks (l0 :: some (.ref x) :: l) (.ref x :: st) h := gk_aload rfl
theorem s_Circ_finish_1  : wps rm K Q c_Circ_finish_1 kc ks loc (st) h = wps rm K Q c_Circ_finish_2 kc ks loc (.int (5) :: st) h := gk_ic (by decide)
theorem s_Circ_finish_2 {x : Nat} {v : Value} : wps rm K Q c_Circ_finish_2 kc ks loc (v :: .ref (x + 1) :: st) h = eg_pf h x 2 5 v (fun h9 => wps rm K Q c_Circ_finish_5 kc ks loc (st) h9) := gk_pf
theorem s_Circ_finish_5 {x : Nat} {l0 : Option Value} {l : eg_Lo} : wps rm K Q c_Circ_finish_5 kc ks (l0 :: some (.ref x) :: l) (st) h = wps rm K Q c_Circ_finish_6 kc ks (l0 :: some (.ref x) :: l) (.ref x :: st) h := gk_aload rfl
theorem s_Circ_finish_6 {x : Int32} {l0 l1 : Option Value} {l : eg_Lo} : wps rm K Q c_Circ_finish_6 kc ks (l0 :: l1 :: some (.int x) :: l) (st) h = wps rm K Q c_Circ_finish_7 kc ks (l0 :: l1 :: some (.int x) :: l) (.int x :: st) h := gk_iload rfl
theorem s_Circ_finish_7 {x : Nat} {v : Value} : wps rm K Q c_Circ_finish_7 kc ks loc (v :: .ref (x + 1) :: st) h = eg_pf h x 2 6 v (fun h9 => wps rm K Q c_Circ_finish_10 kc ks loc (st) h9) := gk_pf
theorem s_Circ_finish_10 {x : Nat} {l0 : Option Value} {l : eg_Lo} : wps rm K Q c_Circ_finish_10 kc ks (l0 :: some (.ref x) :: l) (st) h = wps rm K Q c_Circ_finish_11 kc ks (l0 :: some (.ref x) :: l) (.ref x :: st) h := gk_aload rfl
theorem s_Circ_finish_11 {x : Nat} : wps rm K Q c_Circ_finish_11 kc ks loc (.ref (x + 1) :: st) h = eg_gf h x 2 2 (fun v => wps rm K Q c_Circ_finish_14 kc ks loc (v :: st) h) := gk_gf
theorem s_Circ_finish_14 {x : Nat} {l : eg_Lo} : wps rm K Q c_Circ_finish_14 kc ks (some (.ref x) :: l) (st) h = wps rm K Q c_Circ_finish_15 kc ks (some (.ref x) :: l) (.ref x :: st) h := gk_aload rfl
theorem s_Circ_finish_15 {x : Nat} : wps rm K Q c_Circ_finish_15 kc ks loc (.ref (x + 1) :: st) h = eg_gf h x 1 2 (fun v => wps rm K Q c_Circ_finish_18 kc ks loc (v :: st) h) := gk_gf
theorem s_Circ_finish_18 {x : Nat} {l : eg_Lo} : wps rm K Q c_Circ_finish_18 kc ks (some (.ref x) :: l) (st) h = wps rm K Q c_Circ_finish_19 kc ks (some (.ref x) :: l) (.ref x :: st) h := gk_aload rfl
theorem s_Circ_finish_19 {x : Nat} : wps rm K Q c_Circ_finish_19 kc ks loc (.ref (x + 1) :: st) h = eg_gf h x 1 2 (fun v => wps rm K Q c_Circ_finish_22 kc ks loc (v :: st) h) := gk_gf
theorem s_Circ_finish_22 {x y : Int64} : wps rm K Q c_Circ_finish_22 kc ks loc (.long y :: .long x :: st) h = wps rm K Q c_Circ_finish_23 kc ks loc (.long (x * y) :: st) h := gk_lmul
theorem s_Circ_finish_23 {x : Nat} {l : eg_Lo} : wps rm K Q c_Circ_finish_23 kc ks (some (.ref x) :: l) (st) h = wps rm K Q c_Circ_finish_24 kc ks (some (.ref x) :: l) (.ref x :: st) h := gk_aload rfl
theorem s_Circ_finish_24 {x : Nat} : wps rm K Q c_Circ_finish_24 kc ks loc (.ref (x + 1) :: st) h = eg_gf h x 1 3 (fun v => wps rm K Q c_Circ_finish_27 kc ks loc (v :: st) h) := gk_gf
theorem s_Circ_finish_27 {x : Nat} {l : eg_Lo} : wps rm K Q c_Circ_finish_27 kc ks (some (.ref x) :: l) (st) h = wps rm K Q c_Circ_finish_28 kc ks (some (.ref x) :: l) (.ref x :: st) h := gk_aload rfl
theorem s_Circ_finish_28 {x : Nat} : wps rm K Q c_Circ_finish_28 kc ks loc (.ref (x + 1) :: st) h = eg_gf h x 1 3 (fun v => wps rm K Q c_Circ_finish_31 kc ks loc (v :: st) h) := gk_gf
theorem s_Circ_finish_31 {x y : Int64} : wps rm K Q c_Circ_finish_31 kc ks loc (.long y :: .long x :: st) h = wps rm K Q c_Circ_finish_32 kc ks loc (.long (x * y) :: st) h := gk_lmul
theorem s_Circ_finish_32 {x y : Int64} : wps rm K Q c_Circ_finish_32 kc ks loc (.long y :: .long x :: st) h = wps rm K Q c_Circ_finish_33 kc ks loc (.long (x + y) :: st) h := gk_ladd
theorem s_Circ_finish_33 {x : Nat} {l : eg_Lo} : wps rm K Q c_Circ_finish_33 kc ks (some (.ref x) :: l) (st) h = wps rm K Q c_Circ_finish_34 kc ks (some (.ref x) :: l) (.ref x :: st) h := gk_aload rfl
theorem s_Circ_finish_34 {x : Nat} : wps rm K Q c_Circ_finish_34 kc ks loc (.ref (x + 1) :: st) h = eg_gf h x 1 4 (fun v => wps rm K Q c_Circ_finish_37 kc ks loc (v :: st) h) := gk_gf
theorem s_Circ_finish_37 {x : Nat} {l : eg_Lo} : wps rm K Q c_Circ_finish_37 kc ks (some (.ref x) :: l) (st) h = wps rm K Q c_Circ_finish_38 kc ks (some (.ref x) :: l) (.ref x :: st) h := gk_aload rfl
theorem s_Circ_finish_38 {x : Nat} : wps rm K Q c_Circ_finish_38 kc ks loc (.ref (x + 1) :: st) h = eg_gf h x 1 4 (fun v => wps rm K Q c_Circ_finish_41 kc ks loc (v :: st) h) := gk_gf
theorem s_Circ_finish_41 {x y : Int64} : wps rm K Q c_Circ_finish_41 kc ks loc (.long y :: .long x :: st) h = wps rm K Q c_Circ_finish_42 kc ks loc (.long (x * y) :: st) h := gk_lmul
theorem s_Circ_finish_42  {a1 : Value} {a2 : Value} {x : Nat} : wps rm K Q c_Circ_finish_42 kc ks loc (a2 :: a1 :: .ref (x + 1) :: st) h = (eg_cls h x 4 ∧ st.length ≤ 4 ∧ eg_Cs n_Frac_become (.ref (x + 1) :: [a1, a2]) h (fun v h9 => wps rm K Q c_Circ_finish_45 kc ks loc (v.toList ++ st) h9)) := eg_c1_2
theorem s_Circ_finish_45 {x : Nat} {l0 : Option Value} {l : eg_Lo} : wps rm K Q c_Circ_finish_45 kc ks (l0 :: some (.ref x) :: l) (st) h = wps rm K Q c_Circ_finish_46 kc ks (l0 :: some (.ref x) :: l) (.ref x :: st) h := gk_aload rfl
theorem s_Circ_finish_46 {x : Nat} : wps rm K Q c_Circ_finish_46 kc ks loc (.ref (x + 1) :: st) h = eg_gf h x 2 3 (fun v => wps rm K Q c_Circ_finish_49 kc ks loc (v :: st) h) := gk_gf
theorem s_Circ_finish_49 {x : Nat} {l : eg_Lo} : wps rm K Q c_Circ_finish_49 kc ks (some (.ref x) :: l) (st) h = wps rm K Q c_Circ_finish_50 kc ks (some (.ref x) :: l) (.ref x :: st) h := gk_aload rfl
theorem s_Circ_finish_50 {x : Nat} : wps rm K Q c_Circ_finish_50 kc ks loc (.ref (x + 1) :: st) h = eg_gf h x 1 0 (fun v => wps rm K Q c_Circ_finish_53 kc ks loc (v :: st) h) := gk_gf
theorem s_Circ_finish_53 {x : Nat} : wps rm K Q c_Circ_finish_53 kc ks loc (.ref (x + 1) :: st) h = eg_gf h x 10 0 (fun v => wps rm K Q c_Circ_finish_56 kc ks loc (v :: st) h) := gk_gf
theorem s_Circ_finish_56 {x : Nat} {l : eg_Lo} : wps rm K Q c_Circ_finish_56 kc ks (some (.ref x) :: l) (st) h = wps rm K Q c_Circ_finish_57 kc ks (some (.ref x) :: l) (.ref x :: st) h := gk_aload rfl
theorem s_Circ_finish_57 {x : Nat} : wps rm K Q c_Circ_finish_57 kc ks loc (.ref (x + 1) :: st) h = eg_gf h x 1 1 (fun v => wps rm K Q c_Circ_finish_60 kc ks loc (v :: st) h) := gk_gf
theorem s_Circ_finish_60 {x : Nat} {i : Int32} : wps rm K Q c_Circ_finish_60 kc ks loc (.int i :: .ref (x + 1) :: st) h = eg_ia h x i (fun v => wps rm K Q c_Circ_finish_61 kc ks loc (.int v :: st) h) := gk_iaload
theorem s_Circ_finish_61 {x : Int32} : wps rm K Q c_Circ_finish_61 kc ks loc (.int x :: st) h = wps rm K Q c_Circ_finish_62 kc ks loc (.long (x.toInt64) :: st) h := gk_i2l
theorem s_Circ_finish_62 {x : Nat} {l : eg_Lo} : wps rm K Q c_Circ_finish_62 kc ks (some (.ref x) :: l) (st) h = wps rm K Q c_Circ_finish_63 kc ks (some (.ref x) :: l) (.ref x :: st) h := gk_aload rfl
theorem s_Circ_finish_63 {x : Nat} : wps rm K Q c_Circ_finish_63 kc ks loc (.ref (x + 1) :: st) h = eg_gf h x 1 4 (fun v => wps rm K Q c_Circ_finish_66 kc ks loc (v :: st) h) := gk_gf
theorem s_Circ_finish_66 {x y : Int64} : wps rm K Q c_Circ_finish_66 kc ks loc (.long y :: .long x :: st) h = wps rm K Q c_Circ_finish_67 kc ks loc (.long (x * y) :: st) h := gk_lmul
theorem s_Circ_finish_67 {x : Nat} {l : eg_Lo} : wps rm K Q c_Circ_finish_67 kc ks (some (.ref x) :: l) (st) h = wps rm K Q c_Circ_finish_68 kc ks (some (.ref x) :: l) (.ref x :: st) h := gk_aload rfl
theorem s_Circ_finish_68 {x : Nat} : wps rm K Q c_Circ_finish_68 kc ks loc (.ref (x + 1) :: st) h = eg_gf h x 1 2 (fun v => wps rm K Q c_Circ_finish_71 kc ks loc (v :: st) h) := gk_gf
theorem s_Circ_finish_71 {x y : Int64} : wps rm K Q c_Circ_finish_71 kc ks loc (.long y :: .long x :: st) h = wps rm K Q c_Circ_finish_72 kc ks loc (.long (x + y) :: st) h := gk_ladd
theorem s_Circ_finish_72 {x : Nat} {l : eg_Lo} : wps rm K Q c_Circ_finish_72 kc ks (some (.ref x) :: l) (st) h = wps rm K Q c_Circ_finish_73 kc ks (some (.ref x) :: l) (.ref x :: st) h := gk_aload rfl
theorem s_Circ_finish_73 {x : Nat} : wps rm K Q c_Circ_finish_73 kc ks loc (.ref (x + 1) :: st) h = eg_gf h x 1 4 (fun v => wps rm K Q c_Circ_finish_76 kc ks loc (v :: st) h) := gk_gf
theorem s_Circ_finish_76  {a1 : Value} {a2 : Value} {x : Nat} : wps rm K Q c_Circ_finish_76 kc ks loc (a2 :: a1 :: .ref (x + 1) :: st) h = (eg_cls h x 4 ∧ st.length ≤ 4 ∧ eg_Cs n_Frac_become (.ref (x + 1) :: [a1, a2]) h (fun v h9 => wps rm K Q c_Circ_finish_79 kc ks loc (v.toList ++ st) h9)) := eg_c1_2
theorem s_Circ_finish_79 {x : Nat} {l0 : Option Value} {l : eg_Lo} : wps rm K Q c_Circ_finish_79 kc ks (l0 :: some (.ref x) :: l) (st) h = wps rm K Q c_Circ_finish_80 kc ks (l0 :: some (.ref x) :: l) (.ref x :: st) h := gk_aload rfl
theorem s_Circ_finish_80 {x : Nat} : wps rm K Q c_Circ_finish_80 kc ks loc (.ref (x + 1) :: st) h = eg_gf h x 2 4 (fun v => wps rm K Q c_Circ_finish_83 kc ks loc (v :: st) h) := gk_gf
theorem s_Circ_finish_83 {x : Nat} {l : eg_Lo} : wps rm K Q c_Circ_finish_83 kc ks (some (.ref x) :: l) (st) h = wps rm K Q c_Circ_finish_84 kc ks (some (.ref x) :: l) (.ref x :: st) h := gk_aload rfl
theorem s_Circ_finish_84 {x : Nat} : wps rm K Q c_Circ_finish_84 kc ks loc (.ref (x + 1) :: st) h = eg_gf h x 1 0 (fun v => wps rm K Q c_Circ_finish_87 kc ks loc (v :: st) h) := gk_gf
theorem s_Circ_finish_87 {x : Nat} : wps rm K Q c_Circ_finish_87 kc ks loc (.ref (x + 1) :: st) h = eg_gf h x 10 1 (fun v => wps rm K Q c_Circ_finish_90 kc ks loc (v :: st) h) := gk_gf
theorem s_Circ_finish_90 {x : Nat} {l : eg_Lo} : wps rm K Q c_Circ_finish_90 kc ks (some (.ref x) :: l) (st) h = wps rm K Q c_Circ_finish_91 kc ks (some (.ref x) :: l) (.ref x :: st) h := gk_aload rfl
theorem s_Circ_finish_91 {x : Nat} : wps rm K Q c_Circ_finish_91 kc ks loc (.ref (x + 1) :: st) h = eg_gf h x 1 1 (fun v => wps rm K Q c_Circ_finish_94 kc ks loc (v :: st) h) := gk_gf
theorem s_Circ_finish_94 {x : Nat} {i : Int32} : wps rm K Q c_Circ_finish_94 kc ks loc (.int i :: .ref (x + 1) :: st) h = eg_ia h x i (fun v => wps rm K Q c_Circ_finish_95 kc ks loc (.int v :: st) h) := gk_iaload
theorem s_Circ_finish_95 {x : Int32} : wps rm K Q c_Circ_finish_95 kc ks loc (.int x :: st) h = wps rm K Q c_Circ_finish_96 kc ks loc (.long (x.toInt64) :: st) h := gk_i2l
theorem s_Circ_finish_96 {x : Nat} {l : eg_Lo} : wps rm K Q c_Circ_finish_96 kc ks (some (.ref x) :: l) (st) h = wps rm K Q c_Circ_finish_97 kc ks (some (.ref x) :: l) (.ref x :: st) h := gk_aload rfl
theorem s_Circ_finish_97 {x : Nat} : wps rm K Q c_Circ_finish_97 kc ks loc (.ref (x + 1) :: st) h = eg_gf h x 1 4 (fun v => wps rm K Q c_Circ_finish_100 kc ks loc (v :: st) h) := gk_gf
theorem s_Circ_finish_100 {x y : Int64} : wps rm K Q c_Circ_finish_100 kc ks loc (.long y :: .long x :: st) h = wps rm K Q c_Circ_finish_101 kc ks loc (.long (x * y) :: st) h := gk_lmul
theorem s_Circ_finish_101 {x : Nat} {l : eg_Lo} : wps rm K Q c_Circ_finish_101 kc ks (some (.ref x) :: l) (st) h = wps rm K Q c_Circ_finish_102 kc ks (some (.ref x) :: l) (.ref x :: st) h := gk_aload rfl
theorem s_Circ_finish_102 {x : Nat} : wps rm K Q c_Circ_finish_102 kc ks loc (.ref (x + 1) :: st) h = eg_gf h x 1 3 (fun v => wps rm K Q c_Circ_finish_105 kc ks loc (v :: st) h) := gk_gf
theorem s_Circ_finish_105 {x y : Int64} : wps rm K Q c_Circ_finish_105 kc ks loc (.long y :: .long x :: st) h = wps rm K Q c_Circ_finish_106 kc ks loc (.long (x + y) :: st) h := gk_ladd
theorem s_Circ_finish_106 {x : Nat} {l : eg_Lo} : wps rm K Q c_Circ_finish_106 kc ks (some (.ref x) :: l) (st) h = wps rm K Q c_Circ_finish_107 kc ks (some (.ref x) :: l) (.ref x :: st) h := gk_aload rfl
theorem s_Circ_finish_107 {x : Nat} : wps rm K Q c_Circ_finish_107 kc ks loc (.ref (x + 1) :: st) h = eg_gf h x 1 4 (fun v => wps rm K Q c_Circ_finish_110 kc ks loc (v :: st) h) := gk_gf
theorem s_Circ_finish_110  {a1 : Value} {a2 : Value} {x : Nat} : wps rm K Q c_Circ_finish_110 kc ks loc (a2 :: a1 :: .ref (x + 1) :: st) h = (eg_cls h x 4 ∧ st.length ≤ 4 ∧ eg_Cs n_Frac_become (.ref (x + 1) :: [a1, a2]) h (fun v h9 => wps rm K Q c_Circ_finish_113 kc ks loc (v.toList ++ st) h9)) := eg_c1_2
theorem s_Circ_finish_113  : wps rm K Q c_Circ_finish_113 kc ks loc ([]) h = (kc = rm.cells ∧ Q none h) := gk_vret
def T_Circ_finish : List (Nat × List eg_I) := []
end
theorem y_Circ_finish_0 : eg_seq m_Circ_finish 0 c_Circ_finish_0 = true := by decide +kernel
theorem q_Circ_finish : ∀ q ∈ T_Circ_finish, eg_seq m_Circ_finish q.1 q.2 = true := by
  intro q hq
  cases hq
theorem b_Circ_finish {as : List Value} {h : List eg_E} {Q : Option Value → List eg_E → Prop} (hf : (eg_fl as).length ≤ 3) (hw : wps (eg_rm m_Circ_finish) (eg_run (eg_rm m_Circ_finish) (eg_R m_Circ_finish Q (h.length + 0)) Q T_Circ_finish 2) Q c_Circ_finish_0 0 0 (eg_entry 3 as) [] h) : eg_Runs n_Circ_finish as h Q := eg_begin2 (d := m_Circ_finish) rfl (by decide) y_Circ_finish_0 q_Circ_finish hf hw
/-! ===== Fig_init ===== -/
def c_Fig_init_57 : List eg_I := .inl (57, 1, .return_, 0, 0) :: []
def c_Fig_init_54 : List eg_I := .inl (54, 3, .putfield 32, 2, 5) :: c_Fig_init_57
def c_Fig_init_53 : List eg_I := .inl (53, 1, .iconst (-1), 0, 0) :: c_Fig_init_54
def c_Fig_init_52 : List eg_I := .inl (52, 1, .aload 0, 0, 0) :: c_Fig_init_53
def c_Fig_init_49 : List eg_I := .inl (49, 3, .putfield 29, 2, 4) :: c_Fig_init_52
def c_Fig_init_46 : List eg_I := .inr (46, 3, 21, n_Frac_init, 0, 4, 0, 0) :: c_Fig_init_49
def c_Fig_init_45 : List eg_I := .inl (45, 1, .dup, 0, 0) :: c_Fig_init_46
def c_Fig_init_42 : List eg_I := .inl (42, 3, .new 19, 4, 2) :: c_Fig_init_45
def c_Fig_init_41 : List eg_I := .inl (41, 1, .aload 0, 0, 0) :: c_Fig_init_42
def c_Fig_init_38 : List eg_I := .inl (38, 3, .putfield 26, 2, 3) :: c_Fig_init_41
def c_Fig_init_35 : List eg_I := .inr (35, 3, 21, n_Frac_init, 0, 4, 0, 0) :: c_Fig_init_38
def c_Fig_init_34 : List eg_I := .inl (34, 1, .dup, 0, 0) :: c_Fig_init_35
def c_Fig_init_31 : List eg_I := .inl (31, 3, .new 19, 4, 2) :: c_Fig_init_34
def c_Fig_init_30 : List eg_I := .inl (30, 1, .aload 0, 0, 0) :: c_Fig_init_31
def c_Fig_init_27 : List eg_I := .inl (27, 3, .putfield 22, 2, 2) :: c_Fig_init_30
def c_Fig_init_24 : List eg_I := .inr (24, 3, 21, n_Frac_init, 0, 4, 0, 0) :: c_Fig_init_27
def c_Fig_init_23 : List eg_I := .inl (23, 1, .dup, 0, 0) :: c_Fig_init_24
def c_Fig_init_20 : List eg_I := .inl (20, 3, .new 19, 4, 2) :: c_Fig_init_23
def c_Fig_init_19 : List eg_I := .inl (19, 1, .aload 0, 0, 0) :: c_Fig_init_20
def c_Fig_init_16 : List eg_I := .inl (16, 3, .putfield 15, 2, 1) :: c_Fig_init_19
def c_Fig_init_14 : List eg_I := .inl (14, 2, .newarray .long, 1, 0) :: c_Fig_init_16
def c_Fig_init_13 : List eg_I := .inl (13, 1, .iconst (3), 0, 0) :: c_Fig_init_14
def c_Fig_init_12 : List eg_I := .inl (12, 1, .aload 0, 0, 0) :: c_Fig_init_13
def c_Fig_init_9 : List eg_I := .inl (9, 3, .putfield 9, 2, 0) :: c_Fig_init_12
def c_Fig_init_7 : List eg_I := .inl (7, 2, .newarray .int, 0, 0) :: c_Fig_init_9
def c_Fig_init_5 : List eg_I := .inl (5, 2, .iconst (6), 0, 0) :: c_Fig_init_7
def c_Fig_init_4 : List eg_I := .inl (4, 1, .aload 0, 0, 0) :: c_Fig_init_5
def c_Fig_init_1 : List eg_I := .inl (1, 3, .athrow, 3, 0) :: c_Fig_init_4
def c_Fig_init_0 : List eg_I := .inl (0, 1, .aload 0, 0, 0) :: c_Fig_init_1
section
variable {rm : Room} {K : Nat → Nat → Nat → eg_Lo → List Value → List eg_E → Prop} {Q : Option Value → List eg_E → Prop} {kc ks : Nat} {loc : eg_Lo} {st : List Value} {h : List eg_E}
theorem s_Fig_init_0 {x : Nat} {l : eg_Lo} : wps rm K Q c_Fig_init_0 kc ks (some (.ref x) :: l) (st) h = wps rm K Q c_Fig_init_1 kc ks (some (.ref x) :: l) (.ref x :: st) h := gk_aload rfl
theorem s_Fig_init_1 {x : Nat} : wps rm K Q c_Fig_init_1 kc ks loc (.ref (x + 1) :: st) h = (st.length ≤ 4 ∧ wps rm K Q c_Fig_init_4 kc ks loc (st) h) := gk_oi
theorem s_Fig_init_4 {x : Nat} {l : eg_Lo} : wps rm K Q c_Fig_init_4 kc ks (some (.ref x) :: l) (st) h = wps rm K Q c_Fig_init_5 kc ks (some (.ref x) :: l) (.ref x :: st) h := gk_aload rfl
theorem s_Fig_init_5  : wps rm K Q c_Fig_init_5 kc ks loc (st) h = wps rm K Q c_Fig_init_7 kc ks loc (.int (6) :: st) h := gk_ic (by decide)
theorem s_Fig_init_7 {x : Int32} : wps rm K Q c_Fig_init_7 kc ks loc (.int x :: st) h = (¬ x < 0 ∧ x.toNatClampNeg ≤ 1000 ∧ kc + 1 ≤ rm.cells ∧ ks + x.toNatClampNeg ≤ rm.slots ∧ wps rm K Q c_Fig_init_9 (kc + 1) (ks + x.toNatClampNeg) loc (.ref (h.length + 1) :: st) (h ++ [.inl (0, eg_zero 0 x.toNatClampNeg)])) := gk_na
theorem s_Fig_init_9 {x : Nat} {v : Value} : wps rm K Q c_Fig_init_9 kc ks loc (v :: .ref (x + 1) :: st) h = eg_pf h x 2 0 v (fun h9 => wps rm K Q c_Fig_init_12 kc ks loc (st) h9) := gk_pf
theorem s_Fig_init_12 {x : Nat} {l : eg_Lo} : wps rm K Q c_Fig_init_12 kc ks (some (.ref x) :: l) (st) h = wps rm K Q c_Fig_init_13 kc ks (some (.ref x) :: l) (.ref x :: st) h := gk_aload rfl
theorem s_Fig_init_13  : wps rm K Q c_Fig_init_13 kc ks loc (st) h = wps rm K Q c_Fig_init_14 kc ks loc (.int (3) :: st) h := gk_ic (by decide)
theorem s_Fig_init_14 {x : Int32} : wps rm K Q c_Fig_init_14 kc ks loc (.int x :: st) h = (¬ x < 0 ∧ x.toNatClampNeg ≤ 1000 ∧ kc + 1 ≤ rm.cells ∧ ks + x.toNatClampNeg ≤ rm.slots ∧ wps rm K Q c_Fig_init_16 (kc + 1) (ks + x.toNatClampNeg) loc (.ref (h.length + 1) :: st) (h ++ [.inl (1, eg_zero 1 x.toNatClampNeg)])) := gk_na
theorem s_Fig_init_16 {x : Nat} {v : Value} : wps rm K Q c_Fig_init_16 kc ks loc (v :: .ref (x + 1) :: st) h = eg_pf h x 2 1 v (fun h9 => wps rm K Q c_Fig_init_19 kc ks loc (st) h9) := gk_pf
theorem s_Fig_init_19 {x : Nat} {l : eg_Lo} : wps rm K Q c_Fig_init_19 kc ks (some (.ref x) :: l) (st) h = wps rm K Q c_Fig_init_20 kc ks (some (.ref x) :: l) (.ref x :: st) h := gk_aload rfl
theorem s_Fig_init_20  : wps rm K Q c_Fig_init_20 kc ks loc (st) h = (kc + 1 ≤ rm.cells ∧ ks + 2 ≤ rm.slots ∧ wps rm K Q c_Fig_init_23 (kc + 1) (ks + 2) loc (.ref (h.length + 1) :: st) (h ++ [.inr (4, eg_df 4)])) := gk_new
theorem s_Fig_init_23 {x : Nat} : wps rm K Q c_Fig_init_23 kc ks loc (.ref x :: st) h = wps rm K Q c_Fig_init_24 kc ks loc (.ref x :: .ref x :: st) h := gk_dup
theorem s_Fig_init_24  {x : Nat} : wps rm K Q c_Fig_init_24 kc ks loc (.ref (x + 1) :: st) h = (st.length ≤ 4 ∧ kc + 0 ≤ rm.cells ∧ ks + 0 ≤ rm.slots ∧ eg_Cs n_Frac_init [.ref (x + 1)] h (fun v h9 => wps rm K Q c_Fig_init_27 (kc + 0) (ks + 0) loc (v.toList ++ st) h9)) := eg_c3_0
theorem s_Fig_init_27 {x : Nat} {v : Value} : wps rm K Q c_Fig_init_27 kc ks loc (v :: .ref (x + 1) :: st) h = eg_pf h x 2 2 v (fun h9 => wps rm K Q c_Fig_init_30 kc ks loc (st) h9) := gk_pf
theorem s_Fig_init_30 {x : Nat} {l : eg_Lo} : wps rm K Q c_Fig_init_30 kc ks (some (.ref x) :: l) (st) h = wps rm K Q c_Fig_init_31 kc ks (some (.ref x) :: l) (.ref x :: st) h := gk_aload rfl
theorem s_Fig_init_31  : wps rm K Q c_Fig_init_31 kc ks loc (st) h = (kc + 1 ≤ rm.cells ∧ ks + 2 ≤ rm.slots ∧ wps rm K Q c_Fig_init_34 (kc + 1) (ks + 2) loc (.ref (h.length + 1) :: st) (h ++ [.inr (4, eg_df 4)])) := gk_new
theorem s_Fig_init_34 {x : Nat} : wps rm K Q c_Fig_init_34 kc ks loc (.ref x :: st) h = wps rm K Q c_Fig_init_35 kc ks loc (.ref x :: .ref x :: st) h := gk_dup
theorem s_Fig_init_35  {x : Nat} : wps rm K Q c_Fig_init_35 kc ks loc (.ref (x + 1) :: st) h = (st.length ≤ 4 ∧ kc + 0 ≤ rm.cells ∧ ks + 0 ≤ rm.slots ∧ eg_Cs n_Frac_init [.ref (x + 1)] h (fun v h9 => wps rm K Q c_Fig_init_38 (kc + 0) (ks + 0) loc (v.toList ++ st) h9)) := eg_c3_0
theorem s_Fig_init_38 {x : Nat} {v : Value} : wps rm K Q c_Fig_init_38 kc ks loc (v :: .ref (x + 1) :: st) h = eg_pf h x 2 3 v (fun h9 => wps rm K Q c_Fig_init_41 kc ks loc (st) h9) := gk_pf
theorem s_Fig_init_41 {x : Nat} {l : eg_Lo} : wps rm K Q c_Fig_init_41 kc ks (some (.ref x) :: l) (st) h = wps rm K Q c_Fig_init_42 kc ks (some (.ref x) :: l) (.ref x :: st) h := gk_aload rfl
theorem s_Fig_init_42  : wps rm K Q c_Fig_init_42 kc ks loc (st) h = (kc + 1 ≤ rm.cells ∧ ks + 2 ≤ rm.slots ∧ wps rm K Q c_Fig_init_45 (kc + 1) (ks + 2) loc (.ref (h.length + 1) :: st) (h ++ [.inr (4, eg_df 4)])) := gk_new
theorem s_Fig_init_45 {x : Nat} : wps rm K Q c_Fig_init_45 kc ks loc (.ref x :: st) h = wps rm K Q c_Fig_init_46 kc ks loc (.ref x :: .ref x :: st) h := gk_dup
theorem s_Fig_init_46  {x : Nat} : wps rm K Q c_Fig_init_46 kc ks loc (.ref (x + 1) :: st) h = (st.length ≤ 4 ∧ kc + 0 ≤ rm.cells ∧ ks + 0 ≤ rm.slots ∧ eg_Cs n_Frac_init [.ref (x + 1)] h (fun v h9 => wps rm K Q c_Fig_init_49 (kc + 0) (ks + 0) loc (v.toList ++ st) h9)) := eg_c3_0
theorem s_Fig_init_49 {x : Nat} {v : Value} : wps rm K Q c_Fig_init_49 kc ks loc (v :: .ref (x + 1) :: st) h = eg_pf h x 2 4 v (fun h9 => wps rm K Q c_Fig_init_52 kc ks loc (st) h9) := gk_pf
theorem s_Fig_init_52 {x : Nat} {l : eg_Lo} : wps rm K Q c_Fig_init_52 kc ks (some (.ref x) :: l) (st) h = wps rm K Q c_Fig_init_53 kc ks (some (.ref x) :: l) (.ref x :: st) h := gk_aload rfl
theorem s_Fig_init_53  : wps rm K Q c_Fig_init_53 kc ks loc (st) h = wps rm K Q c_Fig_init_54 kc ks loc (.int (-1) :: st) h := gk_ic (by decide)
theorem s_Fig_init_54 {x : Nat} {v : Value} : wps rm K Q c_Fig_init_54 kc ks loc (v :: .ref (x + 1) :: st) h = eg_pf h x 2 5 v (fun h9 => wps rm K Q c_Fig_init_57 kc ks loc (st) h9) := gk_pf
theorem s_Fig_init_57  : wps rm K Q c_Fig_init_57 kc ks loc ([]) h = (kc = rm.cells ∧ Q none h) := gk_vret
def T_Fig_init : List (Nat × List eg_I) := []
end
theorem y_Fig_init_0 : eg_seq m_Fig_init 0 c_Fig_init_0 = true := by decide +kernel
theorem q_Fig_init : ∀ q ∈ T_Fig_init, eg_seq m_Fig_init q.1 q.2 = true := by
  intro q hq
  cases hq
theorem b_Fig_init {as : List Value} {h : List eg_E} {Q : Option Value → List eg_E → Prop} (hf : (eg_fl as).length ≤ 1) (hw : wps (eg_rm m_Fig_init) (eg_run (eg_rm m_Fig_init) (eg_R m_Fig_init Q (h.length + 5)) Q T_Fig_init 2) Q c_Fig_init_0 0 0 (eg_entry 1 as) [] h) : eg_Runs n_Fig_init as h Q := eg_begin2 (d := m_Fig_init) rfl (by decide) y_Fig_init_0 q_Fig_init hf hw
/-! ===== Fig_isOne ===== -/
def c_Fig_isOne_13 : List eg_I := .inl (13, 1, .ireturn, 0, 1) :: []
def c_Fig_isOne_12 : List eg_I := .inl (12, 1, .iconst (0), 0, 0) :: c_Fig_isOne_13
def c_Fig_isOne_9 : List eg_I := .inl (9, 3, .goto (4), 13, 0) :: []
def c_Fig_isOne_8 : List eg_I := .inl (8, 1, .iconst (1), 0, 0) :: c_Fig_isOne_9
def c_Fig_isOne_5 : List eg_I := .inl (5, 3, .if_icmp .eq (7), 12, 0) :: c_Fig_isOne_8
def c_Fig_isOne_4 : List eg_I := .inl (4, 1, .iconst (-1), 0, 0) :: c_Fig_isOne_5
def c_Fig_isOne_1 : List eg_I := .inl (1, 3, .getfield 32, 2, 5) :: c_Fig_isOne_4
def c_Fig_isOne_0 : List eg_I := .inl (0, 1, .aload 0, 0, 0) :: c_Fig_isOne_1
section
variable {rm : Room} {K : Nat → Nat → Nat → eg_Lo → List Value → List eg_E → Prop} {Q : Option Value → List eg_E → Prop} {kc ks : Nat} {loc : eg_Lo} {st : List Value} {h : List eg_E}
theorem s_Fig_isOne_0 {x : Nat} {l : eg_Lo} : wps rm K Q c_Fig_isOne_0 kc ks (some (.ref x) :: l) (st) h = wps rm K Q c_Fig_isOne_1 kc ks (some (.ref x) :: l) (.ref x :: st) h := gk_aload rfl
theorem s_Fig_isOne_1 {x : Nat} : wps rm K Q c_Fig_isOne_1 kc ks loc (.ref (x + 1) :: st) h = eg_gf h x 2 5 (fun v => wps rm K Q c_Fig_isOne_4 kc ks loc (v :: st) h) := gk_gf
theorem s_Fig_isOne_4  : wps rm K Q c_Fig_isOne_4 kc ks loc (st) h = wps rm K Q c_Fig_isOne_5 kc ks loc (.int (-1) :: st) h := gk_ic (by decide)
theorem s_Fig_isOne_5 {x y : Int32} : wps rm K Q c_Fig_isOne_5 kc ks loc (.int y :: .int x :: st) h = ((x = y → K 12 kc ks loc st h) ∧ (¬ x = y → wps rm K Q c_Fig_isOne_8 kc ks loc (st) h)) := gk_if2_eq
theorem s_Fig_isOne_8  : wps rm K Q c_Fig_isOne_8 kc ks loc (st) h = wps rm K Q c_Fig_isOne_9 kc ks loc (.int (1) :: st) h := gk_ic (by decide)
theorem s_Fig_isOne_9  : wps rm K Q c_Fig_isOne_9 kc ks loc (st) h = K 13 kc ks loc st h := gk_goto
theorem s_Fig_isOne_12  : wps rm K Q c_Fig_isOne_12 kc ks loc (st) h = wps rm K Q c_Fig_isOne_13 kc ks loc (.int (0) :: st) h := gk_ic (by decide)
theorem s_Fig_isOne_13 {x : Int32} : wps rm K Q c_Fig_isOne_13 kc ks loc ([.int x]) h = (kc = rm.cells ∧ ((1 : Nat) = 1 → x = 0 ∨ x = 1) ∧ Q (some (.int x)) h) := gk_iret
def T_Fig_isOne : List (Nat × List eg_I) := [(12, c_Fig_isOne_12), (13, c_Fig_isOne_13)]
theorem j_Fig_isOne_12 {R : Nat → Nat → Nat → eg_Lo → List Value → List eg_E → Prop} {f pc0 : Nat} : eg_run rm R Q T_Fig_isOne (f + 1) 12 kc ks loc st h = wps rm (eg_run rm R Q T_Fig_isOne f) Q c_Fig_isOne_12 kc ks loc st h := rfl
theorem j_Fig_isOne_13 {R : Nat → Nat → Nat → eg_Lo → List Value → List eg_E → Prop} {f pc0 : Nat} : eg_run rm R Q T_Fig_isOne (f + 1) 13 kc ks loc st h = wps rm (eg_run rm R Q T_Fig_isOne f) Q c_Fig_isOne_13 kc ks loc st h := rfl
end
theorem y_Fig_isOne_0 : eg_seq m_Fig_isOne 0 c_Fig_isOne_0 = true := by decide +kernel
theorem y_Fig_isOne_12 : eg_seq m_Fig_isOne 12 c_Fig_isOne_12 = true := by decide +kernel
theorem q_Fig_isOne : ∀ q ∈ T_Fig_isOne, eg_seq m_Fig_isOne q.1 q.2 = true := by
  intro q hq
  simp only [T_Fig_isOne, List.mem_cons, List.not_mem_nil, or_false] at hq
  rcases hq with rfl | rfl
  · exact y_Fig_isOne_12
  · exact (eg_seq_drop y_Fig_isOne_12 1 : eg_seq m_Fig_isOne 13 c_Fig_isOne_13 = true)
theorem b_Fig_isOne {as : List Value} {h : List eg_E} {Q : Option Value → List eg_E → Prop} (hf : (eg_fl as).length ≤ 1) (hw : wps (eg_rm m_Fig_isOne) (eg_run (eg_rm m_Fig_isOne) (eg_R m_Fig_isOne Q (h.length + 0)) Q T_Fig_isOne 4) Q c_Fig_isOne_0 0 0 (eg_entry 1 as) [] h) : eg_Runs n_Fig_isOne as h Q := eg_begin2 (d := m_Fig_isOne) rfl (by decide) y_Fig_isOne_0 q_Fig_isOne hf hw
/-! ===== Fig_isOfKind ===== -/
def z_Fig_isOfKind_7 : List eg_I := [.inl (7, 0, .nop, 0, 0)]
def c_Fig_isOfKind_47 : List eg_I := .inl (47, 1, .ireturn, 0, 1) :: []
def c_Fig_isOfKind_46 : List eg_I := .inl (46, 1, .iconst (0), 0, 0) :: c_Fig_isOfKind_47
def c_Fig_isOfKind_43 : List eg_I := .inl (43, 3, .goto (-36), 7, 0) :: []
def c_Fig_isOfKind_40 : List eg_I := .inl (40, 3, .iinc 3 (1), 0, 0) :: c_Fig_isOfKind_43
def c_Fig_isOfKind_39 : List eg_I := .inl (39, 1, .istore 2, 0, 0) :: c_Fig_isOfKind_40
def c_Fig_isOfKind_38 : List eg_I := .inl (38, 1, .iaload, 0, 0) :: c_Fig_isOfKind_39
def c_Fig_isOfKind_37 : List eg_I := .inl (37, 1, .iload 2, 0, 0) :: c_Fig_isOfKind_38
def c_Fig_isOfKind_34 : List eg_I := .inl (34, 3, .getstatic 36, 0, 0) :: c_Fig_isOfKind_37
def c_Fig_isOfKind_33 : List eg_I := .inl (33, 1, .ireturn, 0, 1) :: []
def c_Fig_isOfKind_32 : List eg_I := .inl (32, 1, .iconst (1), 0, 0) :: c_Fig_isOfKind_33
def c_Fig_isOfKind_29 : List eg_I := .inl (29, 3, .if_icmp .ne (5), 34, 0) :: c_Fig_isOfKind_32
def c_Fig_isOfKind_28 : List eg_I := .inl (28, 1, .iload 1, 0, 0) :: c_Fig_isOfKind_29
def c_Fig_isOfKind_27 : List eg_I := .inl (27, 1, .iload 2, 0, 0) :: c_Fig_isOfKind_28
def c_Fig_isOfKind_24 : List eg_I := .inl (24, 3, .if_icmp .ge (22), 46, 0) :: c_Fig_isOfKind_27
def c_Fig_isOfKind_23 : List eg_I := .inl (23, 1, .arraylength, 0, 0) :: c_Fig_isOfKind_24
def c_Fig_isOfKind_20 : List eg_I := .inl (20, 3, .getstatic 36, 0, 0) :: c_Fig_isOfKind_23
def c_Fig_isOfKind_19 : List eg_I := .inl (19, 1, .iload 2, 0, 0) :: c_Fig_isOfKind_20
def c_Fig_isOfKind_16 : List eg_I := .inl (16, 3, .ifCond .lt (30), 46, 0) :: c_Fig_isOfKind_19
def c_Fig_isOfKind_15 : List eg_I := .inl (15, 1, .iload 2, 0, 0) :: c_Fig_isOfKind_16
def c_Fig_isOfKind_12 : List eg_I := .inl (12, 3, .if_icmp .ge (34), 46, 0) :: c_Fig_isOfKind_15
def c_Fig_isOfKind_11 : List eg_I := .inl (11, 1, .arraylength, 0, 0) :: c_Fig_isOfKind_12
def c_Fig_isOfKind_8 : List eg_I := .inl (8, 3, .getstatic 36, 0, 0) :: c_Fig_isOfKind_11
def c_Fig_isOfKind_7 : List eg_I := .inl (7, 1, .iload 3, 0, 0) :: c_Fig_isOfKind_8
def c_Fig_isOfKind_6 : List eg_I := .inl (6, 1, .istore 3, 0, 0) :: z_Fig_isOfKind_7
def c_Fig_isOfKind_5 : List eg_I := .inl (5, 1, .iconst (0), 0, 0) :: c_Fig_isOfKind_6
def c_Fig_isOfKind_4 : List eg_I := .inl (4, 1, .istore 2, 0, 0) :: c_Fig_isOfKind_5
def c_Fig_isOfKind_1 : List eg_I := .inl (1, 3, .getfield 32, 2, 5) :: c_Fig_isOfKind_4
def c_Fig_isOfKind_0 : List eg_I := .inl (0, 1, .aload 0, 0, 0) :: c_Fig_isOfKind_1
section
variable {rm : Room} {K : Nat → Nat → Nat → eg_Lo → List Value → List eg_E → Prop} {Q : Option Value → List eg_E → Prop} {kc ks : Nat} {loc : eg_Lo} {st : List Value} {h : List eg_E}
theorem s_Fig_isOfKind_0 {x : Nat} {l : eg_Lo} : wps rm K Q c_Fig_isOfKind_0 kc ks (some (.ref x) :: l) (st) h = wps rm K Q c_Fig_isOfKind_1 kc ks (some (.ref x) :: l) (.ref x :: st) h := gk_aload rfl
theorem s_Fig_isOfKind_1 {x : Nat} : wps rm K Q c_Fig_isOfKind_1 kc ks loc (.ref (x + 1) :: st) h = eg_gf h x 2 5 (fun v => wps rm K Q c_Fig_isOfKind_4 kc ks loc (v :: st) h) := gk_gf
theorem s_Fig_isOfKind_4 {x : Int32} : wps rm K Q c_Fig_isOfKind_4 kc ks loc (.int x :: st) h = wps rm K Q c_Fig_isOfKind_5 kc ks (eg_set1 loc 2 (.int x)) (st) h := gk_istore
theorem s_Fig_isOfKind_5  : wps rm K Q c_Fig_isOfKind_5 kc ks loc (st) h = wps rm K Q c_Fig_isOfKind_6 kc ks loc (.int (0) :: st) h := gk_ic (by decide)
theorem s_Fig_isOfKind_6 {x : Int32} : wps rm K Q c_Fig_isOfKind_6 kc ks loc (.int x :: st) h = wps rm K Q z_Fig_isOfKind_7 kc ks (eg_set1 loc 3 (.int x)) (st) h := gk_istore
theorem s_Fig_isOfKind_7 {x : Int32} {l0 l1 l2 : Option Value} {l : eg_Lo} : wps rm K Q c_Fig_isOfKind_7 kc ks (l0 :: l1 :: l2 :: some (.int x) :: l) (st) h = wps rm K Q c_Fig_isOfKind_8 kc ks (l0 :: l1 :: l2 :: some (.int x) :: l) (.int x :: st) h := gk_iload rfl
theorem s_Fig_isOfKind_8  : wps rm K Q c_Fig_isOfKind_8 kc ks loc (st) h = wps rm K Q c_Fig_isOfKind_11 kc ks loc (.ref 0 :: st) h := gk_gs
theorem s_Fig_isOfKind_11  : wps rm K Q c_Fig_isOfKind_11 kc ks loc (.ref 0 :: st) h = wps rm K Q c_Fig_isOfKind_12 kc ks loc (.int 6 :: st) h := gk_al0
theorem s_Fig_isOfKind_12 {x y : Int32} : wps rm K Q c_Fig_isOfKind_12 kc ks loc (.int y :: .int x :: st) h = ((y ≤ x → K 46 kc ks loc st h) ∧ (¬ y ≤ x → wps rm K Q c_Fig_isOfKind_15 kc ks loc (st) h)) := gk_if2_ge
theorem s_Fig_isOfKind_15 {x : Int32} {l0 l1 : Option Value} {l : eg_Lo} : wps rm K Q c_Fig_isOfKind_15 kc ks (l0 :: l1 :: some (.int x) :: l) (st) h = wps rm K Q c_Fig_isOfKind_16 kc ks (l0 :: l1 :: some (.int x) :: l) (.int x :: st) h := gk_iload rfl
theorem s_Fig_isOfKind_16 {x : Int32} : wps rm K Q c_Fig_isOfKind_16 kc ks loc (.int x :: st) h = ((x < 0 → K 46 kc ks loc st h) ∧ (¬ x < 0 → wps rm K Q c_Fig_isOfKind_19 kc ks loc (st) h)) := gk_if1_lt
theorem s_Fig_isOfKind_19 {x : Int32} {l0 l1 : Option Value} {l : eg_Lo} : wps rm K Q c_Fig_isOfKind_19 kc ks (l0 :: l1 :: some (.int x) :: l) (st) h = wps rm K Q c_Fig_isOfKind_20 kc ks (l0 :: l1 :: some (.int x) :: l) (.int x :: st) h := gk_iload rfl
theorem s_Fig_isOfKind_20  : wps rm K Q c_Fig_isOfKind_20 kc ks loc (st) h = wps rm K Q c_Fig_isOfKind_23 kc ks loc (.ref 0 :: st) h := gk_gs
theorem s_Fig_isOfKind_23  : wps rm K Q c_Fig_isOfKind_23 kc ks loc (.ref 0 :: st) h = wps rm K Q c_Fig_isOfKind_24 kc ks loc (.int 6 :: st) h := gk_al0
theorem s_Fig_isOfKind_24 {x y : Int32} : wps rm K Q c_Fig_isOfKind_24 kc ks loc (.int y :: .int x :: st) h = ((y ≤ x → K 46 kc ks loc st h) ∧ (¬ y ≤ x → wps rm K Q c_Fig_isOfKind_27 kc ks loc (st) h)) := gk_if2_ge
theorem s_Fig_isOfKind_27 {x : Int32} {l0 l1 : Option Value} {l : eg_Lo} : wps rm K Q c_Fig_isOfKind_27 kc ks (l0 :: l1 :: some (.int x) :: l) (st) h = wps rm K Q c_Fig_isOfKind_28 kc ks (l0 :: l1 :: some (.int x) :: l) (.int x :: st) h := gk_iload rfl
theorem s_Fig_isOfKind_28 {x : Int32} {l0 : Option Value} {l : eg_Lo} : wps rm K Q c_Fig_isOfKind_28 kc ks (l0 :: some (.int x) :: l) (st) h = wps rm K Q c_Fig_isOfKind_29 kc ks (l0 :: some (.int x) :: l) (.int x :: st) h := gk_iload rfl
theorem s_Fig_isOfKind_29 {x y : Int32} : wps rm K Q c_Fig_isOfKind_29 kc ks loc (.int y :: .int x :: st) h = ((¬ x = y → K 34 kc ks loc st h) ∧ (x = y → wps rm K Q c_Fig_isOfKind_32 kc ks loc (st) h)) := gk_if2_ne
theorem s_Fig_isOfKind_32  : wps rm K Q c_Fig_isOfKind_32 kc ks loc (st) h = wps rm K Q c_Fig_isOfKind_33 kc ks loc (.int (1) :: st) h := gk_ic (by decide)
theorem s_Fig_isOfKind_33 {x : Int32} : wps rm K Q c_Fig_isOfKind_33 kc ks loc ([.int x]) h = (kc = rm.cells ∧ ((1 : Nat) = 1 → x = 0 ∨ x = 1) ∧ Q (some (.int x)) h) := gk_iret
theorem s_Fig_isOfKind_34  : wps rm K Q c_Fig_isOfKind_34 kc ks loc (st) h = wps rm K Q c_Fig_isOfKind_37 kc ks loc (.ref 0 :: st) h := gk_gs
theorem s_Fig_isOfKind_37 {x : Int32} {l0 l1 : Option Value} {l : eg_Lo} : wps rm K Q c_Fig_isOfKind_37 kc ks (l0 :: l1 :: some (.int x) :: l) (st) h = wps rm K Q c_Fig_isOfKind_38 kc ks (l0 :: l1 :: some (.int x) :: l) (.int x :: st) h := gk_iload rfl
theorem s_Fig_isOfKind_38 {i : Int32} : wps rm K Q c_Fig_isOfKind_38 kc ks loc (.int i :: .ref 0 :: st) h = (vp_in i 6 ∧ wps rm K Q c_Fig_isOfKind_39 kc ks loc (.int (eg_under i.toNatClampNeg) :: st) h) := gk_ia0
theorem s_Fig_isOfKind_39 {x : Int32} : wps rm K Q c_Fig_isOfKind_39 kc ks loc (.int x :: st) h = wps rm K Q c_Fig_isOfKind_40 kc ks (eg_set1 loc 2 (.int x)) (st) h := gk_istore
theorem s_Fig_isOfKind_40 {x : Int32} {l0 l1 l2 : Option Value} {lz : eg_Lo} : wps rm K Q c_Fig_isOfKind_40 kc ks (l0 :: l1 :: l2 :: some (.int x) :: lz) (st) h = wps rm K Q c_Fig_isOfKind_43 kc ks (eg_set1 (l0 :: l1 :: l2 :: some (.int x) :: lz) 3 (.int (x + (1)))) (st) h := gk_iinc rfl (by decide)
theorem s_Fig_isOfKind_43  : wps rm K Q c_Fig_isOfKind_43 kc ks loc (st) h = K 7 kc ks loc st h := gk_goto
theorem s_Fig_isOfKind_46  : wps rm K Q c_Fig_isOfKind_46 kc ks loc (st) h = wps rm K Q c_Fig_isOfKind_47 kc ks loc (.int (0) :: st) h := gk_ic (by decide)
theorem s_Fig_isOfKind_47 {x : Int32} : wps rm K Q c_Fig_isOfKind_47 kc ks loc ([.int x]) h = (kc = rm.cells ∧ ((1 : Nat) = 1 → x = 0 ∨ x = 1) ∧ Q (some (.int x)) h) := gk_iret
theorem sz_Fig_isOfKind_7 : wps rm K Q z_Fig_isOfKind_7 kc ks loc st h = K 7 kc ks loc st h := gk_nop
def T_Fig_isOfKind : List (Nat × List eg_I) := [(34, c_Fig_isOfKind_34), (46, c_Fig_isOfKind_46)]
theorem j_Fig_isOfKind_34 {R : Nat → Nat → Nat → eg_Lo → List Value → List eg_E → Prop} {f pc0 : Nat} : eg_run rm R Q T_Fig_isOfKind (f + 1) 34 kc ks loc st h = wps rm (eg_run rm R Q T_Fig_isOfKind f) Q c_Fig_isOfKind_34 kc ks loc st h := rfl
theorem j_Fig_isOfKind_46 {R : Nat → Nat → Nat → eg_Lo → List Value → List eg_E → Prop} {f pc0 : Nat} : eg_run rm R Q T_Fig_isOfKind (f + 1) 46 kc ks loc st h = wps rm (eg_run rm R Q T_Fig_isOfKind f) Q c_Fig_isOfKind_46 kc ks loc st h := rfl
theorem j_Fig_isOfKind_7 {R : Nat → Nat → Nat → eg_Lo → List Value → List eg_E → Prop} {f pc0 : Nat} : eg_run rm R Q T_Fig_isOfKind (f + 1) 7 kc ks loc st h = R 7 kc ks loc st h := rfl
end
theorem y_Fig_isOfKind_0 : eg_seq m_Fig_isOfKind 0 c_Fig_isOfKind_0 = true := by decide +kernel
theorem y_Fig_isOfKind_7 : eg_seq m_Fig_isOfKind 7 c_Fig_isOfKind_7 = true := by decide +kernel
theorem y_Fig_isOfKind_34 : eg_seq m_Fig_isOfKind 34 c_Fig_isOfKind_34 = true := by decide +kernel
theorem y_Fig_isOfKind_46 : eg_seq m_Fig_isOfKind 46 c_Fig_isOfKind_46 = true := by decide +kernel
theorem q_Fig_isOfKind : ∀ q ∈ T_Fig_isOfKind, eg_seq m_Fig_isOfKind q.1 q.2 = true := by
  intro q hq
  simp only [T_Fig_isOfKind, List.mem_cons, List.not_mem_nil, or_false] at hq
  rcases hq with rfl | rfl
  · exact y_Fig_isOfKind_34
  · exact y_Fig_isOfKind_46
theorem b_Fig_isOfKind {as : List Value} {h : List eg_E} {Q : Option Value → List eg_E → Prop} (hf : (eg_fl as).length ≤ 4) (hw : wps (eg_rm m_Fig_isOfKind) (eg_run (eg_rm m_Fig_isOfKind) (eg_R m_Fig_isOfKind Q (h.length + 0)) Q T_Fig_isOfKind 4) Q c_Fig_isOfKind_0 0 0 (eg_entry 4 as) [] h) : eg_Runs n_Fig_isOfKind as h Q := eg_begin2 (d := m_Fig_isOfKind) rfl (by decide) y_Fig_isOfKind_0 q_Fig_isOfKind hf hw
theorem p_Fig_isOfKind_7 {Q : Option Value → List eg_E → Prop} {n0 kc ks : Nat} {loc : eg_Lo} {st : List Value} {h : List eg_E} (hw : wps (eg_rm m_Fig_isOfKind) (eg_run (eg_rm m_Fig_isOfKind) (eg_R m_Fig_isOfKind Q n0) Q T_Fig_isOfKind 4) Q c_Fig_isOfKind_7 kc ks loc st h) : eg_R m_Fig_isOfKind Q n0 7 kc ks loc st h := eg_go2 y_Fig_isOfKind_7 q_Fig_isOfKind hw
/-! ===== Fig_keeps ===== -/
def c_Fig_keeps_49 : List eg_I := .inl (49, 1, .ireturn, 0, 1) :: []
def c_Fig_keeps_48 : List eg_I := .inl (48, 1, .iconst (0), 0, 0) :: c_Fig_keeps_49
def c_Fig_keeps_45 : List eg_I := .inl (45, 3, .goto (4), 49, 0) :: []
def c_Fig_keeps_44 : List eg_I := .inl (44, 1, .iconst (1), 0, 0) :: c_Fig_keeps_45
def c_Fig_keeps_41 : List eg_I := .inl (41, 3, .ifCond .gt (7), 48, 0) :: c_Fig_keeps_44
def c_Fig_keeps_40 : List eg_I := .inl (40, 1, .lcmp, 0, 0) :: c_Fig_keeps_41
def c_Fig_keeps_39 : List eg_I := .inl (39, 1, .lmul, 0, 0) :: c_Fig_keeps_40
def c_Fig_keeps_36 : List eg_I := .inr (36, 1, 41, n_Frac_side, 1, 4, 0, 0) :: c_Fig_keeps_39
def c_Fig_keeps_35 : List eg_I := .inl (35, 1, .iconst (1), 0, 0) :: c_Fig_keeps_36
def c_Fig_keeps_32 : List eg_I := .inl (32, 3, .getfield 22, 2, 2) :: c_Fig_keeps_35
def c_Fig_keeps_31 : List eg_I := .inl (31, 1, .aload 0, 0, 0) :: c_Fig_keeps_32
def c_Fig_keeps_30 : List eg_I := .inl (30, 1, .lmul, 0, 0) :: c_Fig_keeps_31
def c_Fig_keeps_29 : List eg_I := .inl (29, 1, .i2l, 0, 0) :: c_Fig_keeps_30
def c_Fig_keeps_28 : List eg_I := .inl (28, 1, .iload 1, 0, 0) :: c_Fig_keeps_29
def c_Fig_keeps_27 : List eg_I := .inl (27, 1, .i2l, 0, 0) :: c_Fig_keeps_28
def c_Fig_keeps_26 : List eg_I := .inl (26, 1, .iload 1, 0, 0) :: c_Fig_keeps_27
def c_Fig_keeps_25 : List eg_I := .inl (25, 1, .lmul, 0, 0) :: c_Fig_keeps_26
def c_Fig_keeps_22 : List eg_I := .inr (22, 1, 41, n_Frac_side, 1, 4, 0, 0) :: c_Fig_keeps_25
def c_Fig_keeps_21 : List eg_I := .inl (21, 1, .iconst (0), 0, 0) :: c_Fig_keeps_22
def c_Fig_keeps_18 : List eg_I := .inl (18, 3, .getfield 22, 2, 2) :: c_Fig_keeps_21
def c_Fig_keeps_17 : List eg_I := .inl (17, 1, .aload 0, 0, 0) :: c_Fig_keeps_18
def c_Fig_keeps_16 : List eg_I := .inl (16, 1, .lload 2, 0, 0) :: c_Fig_keeps_17
def c_Fig_keeps_15 : List eg_I := .inl (15, 1, .lstore 2, 0, 0) :: c_Fig_keeps_16
def c_Fig_keeps_14 : List eg_I := .inl (14, 1, .sipush (1), 0, 0) :: c_Fig_keeps_15
def c_Fig_keeps_11 : List eg_I := .inl (11, 3, .goto (4), 15, 0) :: []
def c_Fig_keeps_8 : List eg_I := .inl (8, 3, .sipush (4), 39, 0) :: c_Fig_keeps_11
def c_Fig_keeps_5 : List eg_I := .inl (5, 3, .if_icmp .ne (9), 14, 0) :: c_Fig_keeps_8
def c_Fig_keeps_4 : List eg_I := .inl (4, 1, .iconst (5), 0, 0) :: c_Fig_keeps_5
def c_Fig_keeps_1 : List eg_I := .inl (1, 3, .getfield 32, 2, 5) :: c_Fig_keeps_4
def c_Fig_keeps_0 : List eg_I := .inl (0, 1, .aload 0, 0, 0) :: c_Fig_keeps_1
section
variable {rm : Room} {K : Nat → Nat → Nat → eg_Lo → List Value → List eg_E → Prop} {Q : Option Value → List eg_E → Prop} {kc ks : Nat} {loc : eg_Lo} {st : List Value} {h : List eg_E}
theorem s_Fig_keeps_0 {x : Nat} {l : eg_Lo} : wps rm K Q c_Fig_keeps_0 kc ks (some (.ref x) :: l) (st) h = wps rm K Q c_Fig_keeps_1 kc ks (some (.ref x) :: l) (.ref x :: st) h := gk_aload rfl
theorem s_Fig_keeps_1 {x : Nat} : wps rm K Q c_Fig_keeps_1 kc ks loc (.ref (x + 1) :: st) h = eg_gf h x 2 5 (fun v => wps rm K Q c_Fig_keeps_4 kc ks loc (v :: st) h) := gk_gf
theorem s_Fig_keeps_4  : wps rm K Q c_Fig_keeps_4 kc ks loc (st) h = wps rm K Q c_Fig_keeps_5 kc ks loc (.int (5) :: st) h := gk_ic (by decide)
theorem s_Fig_keeps_5 {x y : Int32} : wps rm K Q c_Fig_keeps_5 kc ks loc (.int y :: .int x :: st) h = ((¬ x = y → K 14 kc ks loc st h) ∧ (x = y → wps rm K Q c_Fig_keeps_8 kc ks loc (st) h)) := gk_if2_ne
theorem s_Fig_keeps_8  : wps rm K Q c_Fig_keeps_8 kc ks loc (st) h = wps rm K Q c_Fig_keeps_11 kc ks loc (.long (4) :: st) h := gk_lc (by decide)
theorem s_Fig_keeps_11  : wps rm K Q c_Fig_keeps_11 kc ks loc (st) h = K 15 kc ks loc st h := gk_goto
theorem s_Fig_keeps_14  : wps rm K Q c_Fig_keeps_14 kc ks loc (st) h = wps rm K Q c_Fig_keeps_15 kc ks loc (.long (1) :: st) h := gk_lc (by decide)
theorem s_Fig_keeps_15 {x : Int64} : wps rm K Q c_Fig_keeps_15 kc ks loc (.long x :: st) h = wps rm K Q c_Fig_keeps_16 kc ks (eg_set2 loc 2 (.long x)) (st) h := gk_lstore
theorem s_Fig_keeps_16 {x : Int64} {l0 l1 : Option Value} {l : eg_Lo} : wps rm K Q c_Fig_keeps_16 kc ks (l0 :: l1 :: some (.long x) :: l) (st) h = wps rm K Q c_Fig_keeps_17 kc ks (l0 :: l1 :: some (.long x) :: l) (.long x :: st) h := gk_lload rfl
theorem s_Fig_keeps_17 {x : Nat} {l : eg_Lo} : wps rm K Q c_Fig_keeps_17 kc ks (some (.ref x) :: l) (st) h = wps rm K Q c_Fig_keeps_18 kc ks (some (.ref x) :: l) (.ref x :: st) h := gk_aload rfl
theorem s_Fig_keeps_18 {x : Nat} : wps rm K Q c_Fig_keeps_18 kc ks loc (.ref (x + 1) :: st) h = eg_gf h x 2 2 (fun v => wps rm K Q c_Fig_keeps_21 kc ks loc (v :: st) h) := gk_gf
theorem s_Fig_keeps_21  : wps rm K Q c_Fig_keeps_21 kc ks loc (st) h = wps rm K Q c_Fig_keeps_22 kc ks loc (.int (0) :: st) h := gk_ic (by decide)
theorem s_Fig_keeps_22  {a1 : Value} {x : Nat} : wps rm K Q c_Fig_keeps_22 kc ks loc (a1 :: .ref (x + 1) :: st) h = (eg_cls h x 4 ∧ st.length ≤ 4 ∧ eg_Cs n_Frac_side (.ref (x + 1) :: [a1]) h (fun v h9 => wps rm K Q c_Fig_keeps_25 kc ks loc (v.toList ++ st) h9)) := eg_c1_1
theorem s_Fig_keeps_25 {x y : Int64} : wps rm K Q c_Fig_keeps_25 kc ks loc (.long y :: .long x :: st) h = wps rm K Q c_Fig_keeps_26 kc ks loc (.long (x * y) :: st) h := gk_lmul
theorem s_Fig_keeps_26 {x : Int32} {l0 : Option Value} {l : eg_Lo} : wps rm K Q c_Fig_keeps_26 kc ks (l0 :: some (.int x) :: l) (st) h = wps rm K Q c_Fig_keeps_27 kc ks (l0 :: some (.int x) :: l) (.int x :: st) h := gk_iload rfl
theorem s_Fig_keeps_27 {x : Int32} : wps rm K Q c_Fig_keeps_27 kc ks loc (.int x :: st) h = wps rm K Q c_Fig_keeps_28 kc ks loc (.long (x.toInt64) :: st) h := gk_i2l
theorem s_Fig_keeps_28 {x : Int32} {l0 : Option Value} {l : eg_Lo} : wps rm K Q c_Fig_keeps_28 kc ks (l0 :: some (.int x) :: l) (st) h = wps rm K Q c_Fig_keeps_29 kc ks (l0 :: some (.int x) :: l) (.int x :: st) h := gk_iload rfl
theorem s_Fig_keeps_29 {x : Int32} : wps rm K Q c_Fig_keeps_29 kc ks loc (.int x :: st) h = wps rm K Q c_Fig_keeps_30 kc ks loc (.long (x.toInt64) :: st) h := gk_i2l
theorem s_Fig_keeps_30 {x y : Int64} : wps rm K Q c_Fig_keeps_30 kc ks loc (.long y :: .long x :: st) h = wps rm K Q c_Fig_keeps_31 kc ks loc (.long (x * y) :: st) h := gk_lmul
theorem s_Fig_keeps_31 {x : Nat} {l : eg_Lo} : wps rm K Q c_Fig_keeps_31 kc ks (some (.ref x) :: l) (st) h = wps rm K Q c_Fig_keeps_32 kc ks (some (.ref x) :: l) (.ref x :: st) h := gk_aload rfl
theorem s_Fig_keeps_32 {x : Nat} : wps rm K Q c_Fig_keeps_32 kc ks loc (.ref (x + 1) :: st) h = eg_gf h x 2 2 (fun v => wps rm K Q c_Fig_keeps_35 kc ks loc (v :: st) h) := gk_gf
theorem s_Fig_keeps_35  : wps rm K Q c_Fig_keeps_35 kc ks loc (st) h = wps rm K Q c_Fig_keeps_36 kc ks loc (.int (1) :: st) h := gk_ic (by decide)
theorem s_Fig_keeps_36  {a1 : Value} {x : Nat} : wps rm K Q c_Fig_keeps_36 kc ks loc (a1 :: .ref (x + 1) :: st) h = (eg_cls h x 4 ∧ st.length ≤ 4 ∧ eg_Cs n_Frac_side (.ref (x + 1) :: [a1]) h (fun v h9 => wps rm K Q c_Fig_keeps_39 kc ks loc (v.toList ++ st) h9)) := eg_c1_1
theorem s_Fig_keeps_39 {x y : Int64} : wps rm K Q c_Fig_keeps_39 kc ks loc (.long y :: .long x :: st) h = wps rm K Q c_Fig_keeps_40 kc ks loc (.long (x * y) :: st) h := gk_lmul
theorem s_Fig_keeps_40 {x y : Int64} : wps rm K Q c_Fig_keeps_40 kc ks loc (.long y :: .long x :: st) h = wps rm K Q c_Fig_keeps_41 kc ks loc (.int (lg_cmp x y) :: st) h := gk_lcmp
theorem s_Fig_keeps_41 {x : Int32} : wps rm K Q c_Fig_keeps_41 kc ks loc (.int x :: st) h = ((0 < x → K 48 kc ks loc st h) ∧ (¬ 0 < x → wps rm K Q c_Fig_keeps_44 kc ks loc (st) h)) := gk_if1_gt
theorem s_Fig_keeps_44  : wps rm K Q c_Fig_keeps_44 kc ks loc (st) h = wps rm K Q c_Fig_keeps_45 kc ks loc (.int (1) :: st) h := gk_ic (by decide)
theorem s_Fig_keeps_45  : wps rm K Q c_Fig_keeps_45 kc ks loc (st) h = K 49 kc ks loc st h := gk_goto
theorem s_Fig_keeps_48  : wps rm K Q c_Fig_keeps_48 kc ks loc (st) h = wps rm K Q c_Fig_keeps_49 kc ks loc (.int (0) :: st) h := gk_ic (by decide)
theorem s_Fig_keeps_49 {x : Int32} : wps rm K Q c_Fig_keeps_49 kc ks loc ([.int x]) h = (kc = rm.cells ∧ ((1 : Nat) = 1 → x = 0 ∨ x = 1) ∧ Q (some (.int x)) h) := gk_iret
def T_Fig_keeps : List (Nat × List eg_I) := [(14, c_Fig_keeps_14), (15, c_Fig_keeps_15), (48, c_Fig_keeps_48), (49, c_Fig_keeps_49)]
theorem j_Fig_keeps_14 {R : Nat → Nat → Nat → eg_Lo → List Value → List eg_E → Prop} {f pc0 : Nat} : eg_run rm R Q T_Fig_keeps (f + 1) 14 kc ks loc st h = wps rm (eg_run rm R Q T_Fig_keeps f) Q c_Fig_keeps_14 kc ks loc st h := rfl
theorem j_Fig_keeps_15 {R : Nat → Nat → Nat → eg_Lo → List Value → List eg_E → Prop} {f pc0 : Nat} : eg_run rm R Q T_Fig_keeps (f + 1) 15 kc ks loc st h = wps rm (eg_run rm R Q T_Fig_keeps f) Q c_Fig_keeps_15 kc ks loc st h := rfl
theorem j_Fig_keeps_48 {R : Nat → Nat → Nat → eg_Lo → List Value → List eg_E → Prop} {f pc0 : Nat} : eg_run rm R Q T_Fig_keeps (f + 1) 48 kc ks loc st h = wps rm (eg_run rm R Q T_Fig_keeps f) Q c_Fig_keeps_48 kc ks loc st h := rfl
theorem j_Fig_keeps_49 {R : Nat → Nat → Nat → eg_Lo → List Value → List eg_E → Prop} {f pc0 : Nat} : eg_run rm R Q T_Fig_keeps (f + 1) 49 kc ks loc st h = wps rm (eg_run rm R Q T_Fig_keeps f) Q c_Fig_keeps_49 kc ks loc st h := rfl
end
theorem y_Fig_keeps_0 : eg_seq m_Fig_keeps 0 c_Fig_keeps_0 = true := by decide +kernel
theorem y_Fig_keeps_14 : eg_seq m_Fig_keeps 14 c_Fig_keeps_14 = true := by decide +kernel
theorem y_Fig_keeps_48 : eg_seq m_Fig_keeps 48 c_Fig_keeps_48 = true := by decide +kernel
theorem q_Fig_keeps : ∀ q ∈ T_Fig_keeps, eg_seq m_Fig_keeps q.1 q.2 = true := by
  intro q hq
  simp only [T_Fig_keeps, List.mem_cons, List.not_mem_nil, or_false] at hq
  rcases hq with rfl | rfl | rfl | rfl
  · exact y_Fig_keeps_14
  · exact (eg_seq_drop y_Fig_keeps_14 1 : eg_seq m_Fig_keeps 15 c_Fig_keeps_15 = true)
  · exact y_Fig_keeps_48
  · exact (eg_seq_drop y_Fig_keeps_48 1 : eg_seq m_Fig_keeps 49 c_Fig_keeps_49 = true)
theorem b_Fig_keeps {as : List Value} {h : List eg_E} {Q : Option Value → List eg_E → Prop} (hf : (eg_fl as).length ≤ 4) (hw : wps (eg_rm m_Fig_keeps) (eg_run (eg_rm m_Fig_keeps) (eg_R m_Fig_keeps Q (h.length + 0)) Q T_Fig_keeps 6) Q c_Fig_keeps_0 0 0 (eg_entry 4 as) [] h) : eg_Runs n_Fig_keeps as h Q := eg_begin2 (d := m_Fig_keeps) rfl (by decide) y_Fig_keeps_0 q_Fig_keeps hf hw
/-! ===== Fig_leastKept ===== -/
def z_Fig_leastKept_2 : List eg_I := [.inl (2, 0, .nop, 0, 0)]
def c_Fig_leastKept_28 : List eg_I := .inl (28, 1, .ireturn, 0, 0) :: []
def c_Fig_leastKept_25 : List eg_I := .inl (25, 3, .iconst (2000), 0, 0) :: c_Fig_leastKept_28
def c_Fig_leastKept_22 : List eg_I := .inl (22, 3, .goto (-20), 2, 0) :: []
def c_Fig_leastKept_19 : List eg_I := .inl (19, 3, .iinc 1 (1), 0, 0) :: c_Fig_leastKept_22
def c_Fig_leastKept_18 : List eg_I := .inl (18, 1, .ireturn, 0, 0) :: []
def c_Fig_leastKept_17 : List eg_I := .inl (17, 1, .iload 1, 0, 0) :: c_Fig_leastKept_18
def c_Fig_leastKept_14 : List eg_I := .inl (14, 3, .ifCond .eq (5), 19, 0) :: c_Fig_leastKept_17
def c_Fig_leastKept_11 : List eg_I := .inr (11, 1, 45, n_Fig_keeps, 1, 2, 0, 0) :: c_Fig_leastKept_14
def c_Fig_leastKept_10 : List eg_I := .inl (10, 1, .iload 1, 0, 0) :: c_Fig_leastKept_11
def c_Fig_leastKept_9 : List eg_I := .inl (9, 1, .aload 0, 0, 0) :: c_Fig_leastKept_10
def c_Fig_leastKept_6 : List eg_I := .inl (6, 3, .if_icmp .ge (19), 25, 0) :: c_Fig_leastKept_9
def c_Fig_leastKept_3 : List eg_I := .inl (3, 3, .iconst (2000), 0, 0) :: c_Fig_leastKept_6
def c_Fig_leastKept_2 : List eg_I := .inl (2, 1, .iload 1, 0, 0) :: c_Fig_leastKept_3
def c_Fig_leastKept_1 : List eg_I := .inl (1, 1, .istore 1, 0, 0) :: z_Fig_leastKept_2
def c_Fig_leastKept_0 : List eg_I := .inl (0, 1, .iconst (0), 0, 0) :: c_Fig_leastKept_1
section
variable {rm : Room} {K : Nat → Nat → Nat → eg_Lo → List Value → List eg_E → Prop} {Q : Option Value → List eg_E → Prop} {kc ks : Nat} {loc : eg_Lo} {st : List Value} {h : List eg_E}
theorem s_Fig_leastKept_0  : wps rm K Q c_Fig_leastKept_0 kc ks loc (st) h = wps rm K Q c_Fig_leastKept_1 kc ks loc (.int (0) :: st) h := gk_ic (by decide)
theorem s_Fig_leastKept_1 {x : Int32} : wps rm K Q c_Fig_leastKept_1 kc ks loc (.int x :: st) h = wps rm K Q z_Fig_leastKept_2 kc ks (eg_set1 loc 1 (.int x)) (st) h := gk_istore
theorem s_Fig_leastKept_2 {x : Int32} {l0 : Option Value} {l : eg_Lo} : wps rm K Q c_Fig_leastKept_2 kc ks (l0 :: some (.int x) :: l) (st) h = wps rm K Q c_Fig_leastKept_3 kc ks (l0 :: some (.int x) :: l) (.int x :: st) h := gk_iload rfl
theorem s_Fig_leastKept_3  : wps rm K Q c_Fig_leastKept_3 kc ks loc (st) h = wps rm K Q c_Fig_leastKept_6 kc ks loc (.int (2000) :: st) h := gk_ic (by decide)
theorem s_Fig_leastKept_6 {x y : Int32} : wps rm K Q c_Fig_leastKept_6 kc ks loc (.int y :: .int x :: st) h = ((y ≤ x → K 25 kc ks loc st h) ∧ (¬ y ≤ x → wps rm K Q c_Fig_leastKept_9 kc ks loc (st) h)) := gk_if2_ge
theorem s_Fig_leastKept_9 {x : Nat} {l : eg_Lo} : wps rm K Q c_Fig_leastKept_9 kc ks (some (.ref x) :: l) (st) h = wps rm K Q c_Fig_leastKept_10 kc ks (some (.ref x) :: l) (.ref x :: st) h := gk_aload rfl
theorem s_Fig_leastKept_10 {x : Int32} {l0 : Option Value} {l : eg_Lo} : wps rm K Q c_Fig_leastKept_10 kc ks (l0 :: some (.int x) :: l) (st) h = wps rm K Q c_Fig_leastKept_11 kc ks (l0 :: some (.int x) :: l) (.int x :: st) h := gk_iload rfl
theorem s_Fig_leastKept_11  {a1 : Value} {x : Nat} : wps rm K Q c_Fig_leastKept_11 kc ks loc (a1 :: .ref (x + 1) :: st) h = (eg_cls h x 2 ∧ st.length ≤ 4 ∧ eg_Cs n_Fig_keeps (.ref (x + 1) :: [a1]) h (fun v h9 => wps rm K Q c_Fig_leastKept_14 kc ks loc (v.toList ++ st) h9)) := eg_c1_1
theorem s_Fig_leastKept_14 {x : Int32} : wps rm K Q c_Fig_leastKept_14 kc ks loc (.int x :: st) h = ((x = 0 → K 19 kc ks loc st h) ∧ (¬ x = 0 → wps rm K Q c_Fig_leastKept_17 kc ks loc (st) h)) := gk_if1_eq
theorem s_Fig_leastKept_17 {x : Int32} {l0 : Option Value} {l : eg_Lo} : wps rm K Q c_Fig_leastKept_17 kc ks (l0 :: some (.int x) :: l) (st) h = wps rm K Q c_Fig_leastKept_18 kc ks (l0 :: some (.int x) :: l) (.int x :: st) h := gk_iload rfl
theorem s_Fig_leastKept_18 {x : Int32} : wps rm K Q c_Fig_leastKept_18 kc ks loc ([.int x]) h = (kc = rm.cells ∧ (0 = 1 → x = 0 ∨ x = 1) ∧ Q (some (.int x)) h) := gk_iret
theorem s_Fig_leastKept_19 {x : Int32} {l0 : Option Value} {lz : eg_Lo} : wps rm K Q c_Fig_leastKept_19 kc ks (l0 :: some (.int x) :: lz) (st) h = wps rm K Q c_Fig_leastKept_22 kc ks (eg_set1 (l0 :: some (.int x) :: lz) 1 (.int (x + (1)))) (st) h := gk_iinc rfl (by decide)
theorem s_Fig_leastKept_22  : wps rm K Q c_Fig_leastKept_22 kc ks loc (st) h = K 2 kc ks loc st h := gk_goto
theorem s_Fig_leastKept_25  : wps rm K Q c_Fig_leastKept_25 kc ks loc (st) h = wps rm K Q c_Fig_leastKept_28 kc ks loc (.int (2000) :: st) h := gk_ic (by decide)
theorem s_Fig_leastKept_28 {x : Int32} : wps rm K Q c_Fig_leastKept_28 kc ks loc ([.int x]) h = (kc = rm.cells ∧ (0 = 1 → x = 0 ∨ x = 1) ∧ Q (some (.int x)) h) := gk_iret
theorem sz_Fig_leastKept_2 : wps rm K Q z_Fig_leastKept_2 kc ks loc st h = K 2 kc ks loc st h := gk_nop
def T_Fig_leastKept : List (Nat × List eg_I) := [(19, c_Fig_leastKept_19), (25, c_Fig_leastKept_25)]
theorem j_Fig_leastKept_19 {R : Nat → Nat → Nat → eg_Lo → List Value → List eg_E → Prop} {f pc0 : Nat} : eg_run rm R Q T_Fig_leastKept (f + 1) 19 kc ks loc st h = wps rm (eg_run rm R Q T_Fig_leastKept f) Q c_Fig_leastKept_19 kc ks loc st h := rfl
theorem j_Fig_leastKept_25 {R : Nat → Nat → Nat → eg_Lo → List Value → List eg_E → Prop} {f pc0 : Nat} : eg_run rm R Q T_Fig_leastKept (f + 1) 25 kc ks loc st h = wps rm (eg_run rm R Q T_Fig_leastKept f) Q c_Fig_leastKept_25 kc ks loc st h := rfl
theorem j_Fig_leastKept_2 {R : Nat → Nat → Nat → eg_Lo → List Value → List eg_E → Prop} {f pc0 : Nat} : eg_run rm R Q T_Fig_leastKept (f + 1) 2 kc ks loc st h = R 2 kc ks loc st h := rfl
end
theorem y_Fig_leastKept_0 : eg_seq m_Fig_leastKept 0 c_Fig_leastKept_0 = true := by decide +kernel
theorem y_Fig_leastKept_2 : eg_seq m_Fig_leastKept 2 c_Fig_leastKept_2 = true := by decide +kernel
theorem y_Fig_leastKept_19 : eg_seq m_Fig_leastKept 19 c_Fig_leastKept_19 = true := by decide +kernel
theorem y_Fig_leastKept_25 : eg_seq m_Fig_leastKept 25 c_Fig_leastKept_25 = true := by decide +kernel
theorem q_Fig_leastKept : ∀ q ∈ T_Fig_leastKept, eg_seq m_Fig_leastKept q.1 q.2 = true := by
  intro q hq
  simp only [T_Fig_leastKept, List.mem_cons, List.not_mem_nil, or_false] at hq
  rcases hq with rfl | rfl
  · exact y_Fig_leastKept_19
  · exact y_Fig_leastKept_25
theorem b_Fig_leastKept {as : List Value} {h : List eg_E} {Q : Option Value → List eg_E → Prop} (hf : (eg_fl as).length ≤ 2) (hw : wps (eg_rm m_Fig_leastKept) (eg_run (eg_rm m_Fig_leastKept) (eg_R m_Fig_leastKept Q (h.length + 0)) Q T_Fig_leastKept 4) Q c_Fig_leastKept_0 0 0 (eg_entry 2 as) [] h) : eg_Runs n_Fig_leastKept as h Q := eg_begin2 (d := m_Fig_leastKept) rfl (by decide) y_Fig_leastKept_0 q_Fig_leastKept hf hw
theorem p_Fig_leastKept_2 {Q : Option Value → List eg_E → Prop} {n0 kc ks : Nat} {loc : eg_Lo} {st : List Value} {h : List eg_E} (hw : wps (eg_rm m_Fig_leastKept) (eg_run (eg_rm m_Fig_leastKept) (eg_R m_Fig_leastKept Q n0) Q T_Fig_leastKept 4) Q c_Fig_leastKept_2 kc ks loc st h) : eg_R m_Fig_leastKept Q n0 2 kc ks loc st h := eg_go2 y_Fig_leastKept_2 q_Fig_leastKept hw
/-! ===== Fig_setDirection ===== -/
def c_Fig_setDirection_79 : List eg_I := .inl (79, 1, .return_, 0, 0) :: []
def c_Fig_setDirection_76 : List eg_I := .inr (76, 0, 51, n_Frac_lower, 2, 4, 0, 0) :: c_Fig_setDirection_79
def c_Fig_setDirection_75 : List eg_I := .inl (75, 1, .iconst (0), 0, 0) :: c_Fig_setDirection_76
def c_Fig_setDirection_72 : List eg_I := .inl (72, 3, .getfield 15, 2, 1) :: c_Fig_setDirection_75
def c_Fig_setDirection_71 : List eg_I := .inl (71, 1, .aload 0, 0, 0) :: c_Fig_setDirection_72
def c_Fig_setDirection_70 : List eg_I := .inl (70, 1, .lastore, 0, 0) :: c_Fig_setDirection_71
def c_Fig_setDirection_69 : List eg_I := .inl (69, 1, .lmul, 0, 0) :: c_Fig_setDirection_70
def c_Fig_setDirection_67 : List eg_I := .inl (67, 2, .lload 5, 0, 0) :: c_Fig_setDirection_69
def c_Fig_setDirection_65 : List eg_I := .inl (65, 2, .lload 7, 0, 0) :: c_Fig_setDirection_67
def c_Fig_setDirection_64 : List eg_I := .inl (64, 1, .iconst (2), 0, 0) :: c_Fig_setDirection_65
def c_Fig_setDirection_61 : List eg_I := .inl (61, 3, .getfield 15, 2, 1) :: c_Fig_setDirection_64
def c_Fig_setDirection_60 : List eg_I := .inl (60, 1, .aload 0, 0, 0) :: c_Fig_setDirection_61
def c_Fig_setDirection_59 : List eg_I := .inl (59, 1, .lastore, 0, 0) :: c_Fig_setDirection_60
def c_Fig_setDirection_58 : List eg_I := .inl (58, 1, .lmul, 0, 0) :: c_Fig_setDirection_59
def c_Fig_setDirection_57 : List eg_I := .inl (57, 1, .lload 3, 0, 0) :: c_Fig_setDirection_58
def c_Fig_setDirection_55 : List eg_I := .inl (55, 2, .lload 7, 0, 0) :: c_Fig_setDirection_57
def c_Fig_setDirection_54 : List eg_I := .inl (54, 1, .iconst (1), 0, 0) :: c_Fig_setDirection_55
def c_Fig_setDirection_51 : List eg_I := .inl (51, 3, .getfield 15, 2, 1) :: c_Fig_setDirection_54
def c_Fig_setDirection_50 : List eg_I := .inl (50, 1, .aload 0, 0, 0) :: c_Fig_setDirection_51
def c_Fig_setDirection_49 : List eg_I := .inl (49, 1, .lastore, 0, 0) :: c_Fig_setDirection_50
def c_Fig_setDirection_48 : List eg_I := .inl (48, 1, .lmul, 0, 0) :: c_Fig_setDirection_49
def c_Fig_setDirection_47 : List eg_I := .inl (47, 1, .lload 1, 0, 0) :: c_Fig_setDirection_48
def c_Fig_setDirection_45 : List eg_I := .inl (45, 2, .lload 7, 0, 0) :: c_Fig_setDirection_47
def c_Fig_setDirection_44 : List eg_I := .inl (44, 1, .iconst (0), 0, 0) :: c_Fig_setDirection_45
def c_Fig_setDirection_41 : List eg_I := .inl (41, 3, .getfield 15, 2, 1) :: c_Fig_setDirection_44
def c_Fig_setDirection_40 : List eg_I := .inl (40, 1, .aload 0, 0, 0) :: c_Fig_setDirection_41
def c_Fig_setDirection_38 : List eg_I := .inl (38, 2, .lstore 7, 0, 0) :: c_Fig_setDirection_40
def c_Fig_setDirection_37 : List eg_I := .inl (37, 1, .sipush (1), 0, 0) :: c_Fig_setDirection_38
def c_Fig_setDirection_34 : List eg_I := .inl (34, 3, .goto (4), 38, 0) :: []
def c_Fig_setDirection_31 : List eg_I := .inl (31, 3, .sipush (-1), 49, 0) :: c_Fig_setDirection_34
def c_Fig_setDirection_28 : List eg_I := .inl (28, 3, .ifCond .ge (9), 37, 0) :: c_Fig_setDirection_31
def c_Fig_setDirection_27 : List eg_I := .inl (27, 1, .lcmp, 0, 0) :: c_Fig_setDirection_28
def c_Fig_setDirection_26 : List eg_I := .inl (26, 1, .sipush (0), 0, 0) :: c_Fig_setDirection_27
def c_Fig_setDirection_24 : List eg_I := .inl (24, 2, .lload 5, 0, 0) :: c_Fig_setDirection_26
def c_Fig_setDirection_21 : List eg_I := .inl (21, 3, .ifCond .ne (16), 37, 0) :: c_Fig_setDirection_24
def c_Fig_setDirection_20 : List eg_I := .inl (20, 1, .lcmp, 0, 0) :: c_Fig_setDirection_21
def c_Fig_setDirection_19 : List eg_I := .inl (19, 1, .sipush (0), 0, 0) :: c_Fig_setDirection_20
def c_Fig_setDirection_18 : List eg_I := .inl (18, 1, .lload 3, 0, 0) :: c_Fig_setDirection_19
def c_Fig_setDirection_15 : List eg_I := .inl (15, 3, .ifCond .lt (16), 31, 0) :: c_Fig_setDirection_18
def c_Fig_setDirection_14 : List eg_I := .inl (14, 1, .lcmp, 0, 0) :: c_Fig_setDirection_15
def c_Fig_setDirection_13 : List eg_I := .inl (13, 1, .sipush (0), 0, 0) :: c_Fig_setDirection_14
def c_Fig_setDirection_12 : List eg_I := .inl (12, 1, .lload 3, 0, 0) :: c_Fig_setDirection_13
def c_Fig_setDirection_9 : List eg_I := .inl (9, 3, .ifCond .ne (28), 37, 0) :: c_Fig_setDirection_12
def c_Fig_setDirection_8 : List eg_I := .inl (8, 1, .lcmp, 0, 0) :: c_Fig_setDirection_9
def c_Fig_setDirection_7 : List eg_I := .inl (7, 1, .sipush (0), 0, 0) :: c_Fig_setDirection_8
def c_Fig_setDirection_6 : List eg_I := .inl (6, 1, .lload 1, 0, 0) :: c_Fig_setDirection_7
def c_Fig_setDirection_3 : List eg_I := .inl (3, 3, .ifCond .lt (28), 31, 0) :: c_Fig_setDirection_6
def c_Fig_setDirection_2 : List eg_I := .inl (2, 1, .lcmp, 0, 0) :: c_Fig_setDirection_3
def c_Fig_setDirection_1 : List eg_I := .inl (1, 1, .sipush (0), 0, 0) :: c_Fig_setDirection_2
def c_Fig_setDirection_0 : List eg_I := .inl (0, 1, .lload 1, 0, 0) :: c_Fig_setDirection_1
section
variable {rm : Room} {K : Nat → Nat → Nat → eg_Lo → List Value → List eg_E → Prop} {Q : Option Value → List eg_E → Prop} {kc ks : Nat} {loc : eg_Lo} {st : List Value} {h : List eg_E}
theorem s_Fig_setDirection_0 {x : Int64} {l0 : Option Value} {l : eg_Lo} : wps rm K Q c_Fig_setDirection_0 kc ks (l0 :: some (.long x) :: l) (st) h = wps rm K Q c_Fig_setDirection_1 kc ks (l0 :: some (.long x) :: l) (.long x :: st) h := gk_lload rfl
theorem s_Fig_setDirection_1  : wps rm K Q c_Fig_setDirection_1 kc ks loc (st) h = wps rm K Q c_Fig_setDirection_2 kc ks loc (.long (0) :: st) h := gk_lc (by decide)
theorem s_Fig_setDirection_2 {x y : Int64} : wps rm K Q c_Fig_setDirection_2 kc ks loc (.long y :: .long x :: st) h = wps rm K Q c_Fig_setDirection_3 kc ks loc (.int (lg_cmp x y) :: st) h := gk_lcmp
theorem s_Fig_setDirection_3 {x : Int32} : wps rm K Q c_Fig_setDirection_3 kc ks loc (.int x :: st) h = ((x < 0 → K 31 kc ks loc st h) ∧ (¬ x < 0 → wps rm K Q c_Fig_setDirection_6 kc ks loc (st) h)) := gk_if1_lt
theorem s_Fig_setDirection_6 {x : Int64} {l0 : Option Value} {l : eg_Lo} : wps rm K Q c_Fig_setDirection_6 kc ks (l0 :: some (.long x) :: l) (st) h = wps rm K Q c_Fig_setDirection_7 kc ks (l0 :: some (.long x) :: l) (.long x :: st) h := gk_lload rfl
theorem s_Fig_setDirection_7  : wps rm K Q c_Fig_setDirection_7 kc ks loc (st) h = wps rm K Q c_Fig_setDirection_8 kc ks loc (.long (0) :: st) h := gk_lc (by decide)
theorem s_Fig_setDirection_8 {x y : Int64} : wps rm K Q c_Fig_setDirection_8 kc ks loc (.long y :: .long x :: st) h = wps rm K Q c_Fig_setDirection_9 kc ks loc (.int (lg_cmp x y) :: st) h := gk_lcmp
theorem s_Fig_setDirection_9 {x : Int32} : wps rm K Q c_Fig_setDirection_9 kc ks loc (.int x :: st) h = ((¬ x = 0 → K 37 kc ks loc st h) ∧ (x = 0 → wps rm K Q c_Fig_setDirection_12 kc ks loc (st) h)) := gk_if1_ne
theorem s_Fig_setDirection_12 {x : Int64} {l0 l1 l2 : Option Value} {l : eg_Lo} : wps rm K Q c_Fig_setDirection_12 kc ks (l0 :: l1 :: l2 :: some (.long x) :: l) (st) h = wps rm K Q c_Fig_setDirection_13 kc ks (l0 :: l1 :: l2 :: some (.long x) :: l) (.long x :: st) h := gk_lload rfl
theorem s_Fig_setDirection_13  : wps rm K Q c_Fig_setDirection_13 kc ks loc (st) h = wps rm K Q c_Fig_setDirection_14 kc ks loc (.long (0) :: st) h := gk_lc (by decide)
theorem s_Fig_setDirection_14 {x y : Int64} : wps rm K Q c_Fig_setDirection_14 kc ks loc (.long y :: .long x :: st) h = wps rm K Q c_Fig_setDirection_15 kc ks loc (.int (lg_cmp x y) :: st) h := gk_lcmp
theorem s_Fig_setDirection_15 {x : Int32} : wps rm K Q c_Fig_setDirection_15 kc ks loc (.int x :: st) h = ((x < 0 → K 31 kc ks loc st h) ∧ (¬ x < 0 → wps rm K Q c_Fig_setDirection_18 kc ks loc (st) h)) := gk_if1_lt
theorem s_Fig_setDirection_18 {x : Int64} {l0 l1 l2 : Option Value} {l : eg_Lo} : wps rm K Q c_Fig_setDirection_18 kc ks (l0 :: l1 :: l2 :: some (.long x) :: l) (st) h = wps rm K Q c_Fig_setDirection_19 kc ks (l0 :: l1 :: l2 :: some (.long x) :: l) (.long x :: st) h := gk_lload rfl
theorem s_Fig_setDirection_19  : wps rm K Q c_Fig_setDirection_19 kc ks loc (st) h = wps rm K Q c_Fig_setDirection_20 kc ks loc (.long (0) :: st) h := gk_lc (by decide)
theorem s_Fig_setDirection_20 {x y : Int64} : wps rm K Q c_Fig_setDirection_20 kc ks loc (.long y :: .long x :: st) h = wps rm K Q c_Fig_setDirection_21 kc ks loc (.int (lg_cmp x y) :: st) h := gk_lcmp
theorem s_Fig_setDirection_21 {x : Int32} : wps rm K Q c_Fig_setDirection_21 kc ks loc (.int x :: st) h = ((¬ x = 0 → K 37 kc ks loc st h) ∧ (x = 0 → wps rm K Q c_Fig_setDirection_24 kc ks loc (st) h)) := gk_if1_ne
theorem s_Fig_setDirection_24 {x : Int64} {l0 l1 l2 l3 l4 : Option Value} {l : eg_Lo} : wps rm K Q c_Fig_setDirection_24 kc ks (l0 :: l1 :: l2 :: l3 :: l4 :: some (.long x) :: l) (st) h = wps rm K Q c_Fig_setDirection_26 kc ks (l0 :: l1 :: l2 :: l3 :: l4 :: some (.long x) :: l) (.long x :: st) h := gk_lload rfl
theorem s_Fig_setDirection_26  : wps rm K Q c_Fig_setDirection_26 kc ks loc (st) h = wps rm K Q c_Fig_setDirection_27 kc ks loc (.long (0) :: st) h := gk_lc (by decide)
theorem s_Fig_setDirection_27 {x y : Int64} : wps rm K Q c_Fig_setDirection_27 kc ks loc (.long y :: .long x :: st) h = wps rm K Q c_Fig_setDirection_28 kc ks loc (.int (lg_cmp x y) :: st) h := gk_lcmp
theorem s_Fig_setDirection_28 {x : Int32} : wps rm K Q c_Fig_setDirection_28 kc ks loc (.int x :: st) h = ((0 ≤ x → K 37 kc ks loc st h) ∧ (¬ 0 ≤ x → wps rm K Q c_Fig_setDirection_31 kc ks loc (st) h)) := gk_if1_ge
theorem s_Fig_setDirection_31  : wps rm K Q c_Fig_setDirection_31 kc ks loc (st) h = wps rm K Q c_Fig_setDirection_34 kc ks loc (.long (-1) :: st) h := gk_lc (by decide)
theorem s_Fig_setDirection_34  : wps rm K Q c_Fig_setDirection_34 kc ks loc (st) h = K 38 kc ks loc st h := gk_goto
theorem s_Fig_setDirection_37  : wps rm K Q c_Fig_setDirection_37 kc ks loc (st) h = wps rm K Q c_Fig_setDirection_38 kc ks loc (.long (1) :: st) h := gk_lc (by decide)
theorem s_Fig_setDirection_38 {x : Int64} : wps rm K Q c_Fig_setDirection_38 kc ks loc (.long x :: st) h = wps rm K Q c_Fig_setDirection_40 kc ks (eg_set2 loc 7 (.long x)) (st) h := gk_lstore
theorem s_Fig_setDirection_40 {x : Nat} {l : eg_Lo} : wps rm K Q c_Fig_setDirection_40 kc ks (some (.ref x) :: l) (st) h = wps rm K Q c_Fig_setDirection_41 kc ks (some (.ref x) :: l) (.ref x :: st) h := gk_aload rfl
theorem s_Fig_setDirection_41 {x : Nat} : wps rm K Q c_Fig_setDirection_41 kc ks loc (.ref (x + 1) :: st) h = eg_gf h x 2 1 (fun v => wps rm K Q c_Fig_setDirection_44 kc ks loc (v :: st) h) := gk_gf
theorem s_Fig_setDirection_44  : wps rm K Q c_Fig_setDirection_44 kc ks loc (st) h = wps rm K Q c_Fig_setDirection_45 kc ks loc (.int (0) :: st) h := gk_ic (by decide)
theorem s_Fig_setDirection_45 {x : Int64} {l0 l1 l2 l3 l4 l5 l6 : Option Value} {l : eg_Lo} : wps rm K Q c_Fig_setDirection_45 kc ks (l0 :: l1 :: l2 :: l3 :: l4 :: l5 :: l6 :: some (.long x) :: l) (st) h = wps rm K Q c_Fig_setDirection_47 kc ks (l0 :: l1 :: l2 :: l3 :: l4 :: l5 :: l6 :: some (.long x) :: l) (.long x :: st) h := gk_lload rfl
theorem s_Fig_setDirection_47 {x : Int64} {l0 : Option Value} {l : eg_Lo} : wps rm K Q c_Fig_setDirection_47 kc ks (l0 :: some (.long x) :: l) (st) h = wps rm K Q c_Fig_setDirection_48 kc ks (l0 :: some (.long x) :: l) (.long x :: st) h := gk_lload rfl
theorem s_Fig_setDirection_48 {x y : Int64} : wps rm K Q c_Fig_setDirection_48 kc ks loc (.long y :: .long x :: st) h = wps rm K Q c_Fig_setDirection_49 kc ks loc (.long (x * y) :: st) h := gk_lmul
theorem s_Fig_setDirection_49 {x : Nat} {i : Int32} {v : Int64} : wps rm K Q c_Fig_setDirection_49 kc ks loc (.long v :: .int i :: .ref (x + 1) :: st) h = eg_lst h x i v (fun h9 => wps rm K Q c_Fig_setDirection_50 kc ks loc (st) h9) := gk_lastore
theorem s_Fig_setDirection_50 {x : Nat} {l : eg_Lo} : wps rm K Q c_Fig_setDirection_50 kc ks (some (.ref x) :: l) (st) h = wps rm K Q c_Fig_setDirection_51 kc ks (some (.ref x) :: l) (.ref x :: st) h := gk_aload rfl
theorem s_Fig_setDirection_51 {x : Nat} : wps rm K Q c_Fig_setDirection_51 kc ks loc (.ref (x + 1) :: st) h = eg_gf h x 2 1 (fun v => wps rm K Q c_Fig_setDirection_54 kc ks loc (v :: st) h) := gk_gf
theorem s_Fig_setDirection_54  : wps rm K Q c_Fig_setDirection_54 kc ks loc (st) h = wps rm K Q c_Fig_setDirection_55 kc ks loc (.int (1) :: st) h := gk_ic (by decide)
theorem s_Fig_setDirection_55 {x : Int64} {l0 l1 l2 l3 l4 l5 l6 : Option Value} {l : eg_Lo} : wps rm K Q c_Fig_setDirection_55 kc ks (l0 :: l1 :: l2 :: l3 :: l4 :: l5 :: l6 :: some (.long x) :: l) (st) h = wps rm K Q c_Fig_setDirection_57 kc ks (l0 :: l1 :: l2 :: l3 :: l4 :: l5 :: l6 :: some (.long x) :: l) (.long x :: st) h := gk_lload rfl
theorem s_Fig_setDirection_57 {x : Int64} {l0 l1 l2 : Option Value} {l : eg_Lo} : wps rm K Q c_Fig_setDirection_57 kc ks (l0 :: l1 :: l2 :: some (.long x) :: l) (st) h = wps rm K Q c_Fig_setDirection_58 kc ks (l0 :: l1 :: l2 :: some (.long x) :: l) (.long x :: st) h := gk_lload rfl
theorem s_Fig_setDirection_58 {x y : Int64} : wps rm K Q c_Fig_setDirection_58 kc ks loc (.long y :: .long x :: st) h = wps rm K Q c_Fig_setDirection_59 kc ks loc (.long (x * y) :: st) h := gk_lmul
theorem s_Fig_setDirection_59 {x : Nat} {i : Int32} {v : Int64} : wps rm K Q c_Fig_setDirection_59 kc ks loc (.long v :: .int i :: .ref (x + 1) :: st) h = eg_lst h x i v (fun h9 => wps rm K Q c_Fig_setDirection_60 kc ks loc (st) h9) := gk_lastore
theorem s_Fig_setDirection_60 {x : Nat} {l : eg_Lo} : wps rm K Q c_Fig_setDirection_60 kc ks (some (.ref x) :: l) (st) h = wps rm K Q c_Fig_setDirection_61 kc ks (some (.ref x) :: l) (.ref x :: st) h := gk_aload rfl
theorem s_Fig_setDirection_61 {x : Nat} : wps rm K Q c_Fig_setDirection_61 kc ks loc (.ref (x + 1) :: st) h = eg_gf h x 2 1 (fun v => wps rm K Q c_Fig_setDirection_64 kc ks loc (v :: st) h) := gk_gf
theorem s_Fig_setDirection_64  : wps rm K Q c_Fig_setDirection_64 kc ks loc (st) h = wps rm K Q c_Fig_setDirection_65 kc ks loc (.int (2) :: st) h := gk_ic (by decide)
theorem s_Fig_setDirection_65 {x : Int64} {l0 l1 l2 l3 l4 l5 l6 : Option Value} {l : eg_Lo} : wps rm K Q c_Fig_setDirection_65 kc ks (l0 :: l1 :: l2 :: l3 :: l4 :: l5 :: l6 :: some (.long x) :: l) (st) h = wps rm K Q c_Fig_setDirection_67 kc ks (l0 :: l1 :: l2 :: l3 :: l4 :: l5 :: l6 :: some (.long x) :: l) (.long x :: st) h := gk_lload rfl
theorem s_Fig_setDirection_67 {x : Int64} {l0 l1 l2 l3 l4 : Option Value} {l : eg_Lo} : wps rm K Q c_Fig_setDirection_67 kc ks (l0 :: l1 :: l2 :: l3 :: l4 :: some (.long x) :: l) (st) h = wps rm K Q c_Fig_setDirection_69 kc ks (l0 :: l1 :: l2 :: l3 :: l4 :: some (.long x) :: l) (.long x :: st) h := gk_lload rfl
theorem s_Fig_setDirection_69 {x y : Int64} : wps rm K Q c_Fig_setDirection_69 kc ks loc (.long y :: .long x :: st) h = wps rm K Q c_Fig_setDirection_70 kc ks loc (.long (x * y) :: st) h := gk_lmul
theorem s_Fig_setDirection_70 {x : Nat} {i : Int32} {v : Int64} : wps rm K Q c_Fig_setDirection_70 kc ks loc (.long v :: .int i :: .ref (x + 1) :: st) h = eg_lst h x i v (fun h9 => wps rm K Q c_Fig_setDirection_71 kc ks loc (st) h9) := gk_lastore
theorem s_Fig_setDirection_71 {x : Nat} {l : eg_Lo} : wps rm K Q c_Fig_setDirection_71 kc ks (some (.ref x) :: l) (st) h = wps rm K Q c_Fig_setDirection_72 kc ks (some (.ref x) :: l) (.ref x :: st) h := gk_aload rfl
theorem s_Fig_setDirection_72 {x : Nat} : wps rm K Q c_Fig_setDirection_72 kc ks loc (.ref (x + 1) :: st) h = eg_gf h x 2 1 (fun v => wps rm K Q c_Fig_setDirection_75 kc ks loc (v :: st) h) := gk_gf
theorem s_Fig_setDirection_75  : wps rm K Q c_Fig_setDirection_75 kc ks loc (st) h = wps rm K Q c_Fig_setDirection_76 kc ks loc (.int (0) :: st) h := gk_ic (by decide)
theorem s_Fig_setDirection_76  {a1 : Value} {a2 : Value} : wps rm K Q c_Fig_setDirection_76 kc ks loc (a2 :: a1 :: st) h = (st.length ≤ 4 ∧ eg_Cs n_Frac_lower [a1, a2] h (fun v h9 => wps rm K Q c_Fig_setDirection_79 kc ks loc (v.toList ++ st) h9)) := eg_c0_2
theorem s_Fig_setDirection_79  : wps rm K Q c_Fig_setDirection_79 kc ks loc ([]) h = (kc = rm.cells ∧ Q none h) := gk_vret
def T_Fig_setDirection : List (Nat × List eg_I) := [(31, c_Fig_setDirection_31), (37, c_Fig_setDirection_37), (38, c_Fig_setDirection_38)]
theorem j_Fig_setDirection_31 {R : Nat → Nat → Nat → eg_Lo → List Value → List eg_E → Prop} {f pc0 : Nat} : eg_run rm R Q T_Fig_setDirection (f + 1) 31 kc ks loc st h = wps rm (eg_run rm R Q T_Fig_setDirection f) Q c_Fig_setDirection_31 kc ks loc st h := rfl
theorem j_Fig_setDirection_37 {R : Nat → Nat → Nat → eg_Lo → List Value → List eg_E → Prop} {f pc0 : Nat} : eg_run rm R Q T_Fig_setDirection (f + 1) 37 kc ks loc st h = wps rm (eg_run rm R Q T_Fig_setDirection f) Q c_Fig_setDirection_37 kc ks loc st h := rfl
theorem j_Fig_setDirection_38 {R : Nat → Nat → Nat → eg_Lo → List Value → List eg_E → Prop} {f pc0 : Nat} : eg_run rm R Q T_Fig_setDirection (f + 1) 38 kc ks loc st h = wps rm (eg_run rm R Q T_Fig_setDirection f) Q c_Fig_setDirection_38 kc ks loc st h := rfl
end
theorem y_Fig_setDirection_0 : eg_seq m_Fig_setDirection 0 c_Fig_setDirection_0 = true := by decide +kernel
theorem y_Fig_setDirection_37 : eg_seq m_Fig_setDirection 37 c_Fig_setDirection_37 = true := by decide +kernel
theorem q_Fig_setDirection : ∀ q ∈ T_Fig_setDirection, eg_seq m_Fig_setDirection q.1 q.2 = true := by
  intro q hq
  simp only [T_Fig_setDirection, List.mem_cons, List.not_mem_nil, or_false] at hq
  rcases hq with rfl | rfl | rfl
  · exact (eg_seq_drop y_Fig_setDirection_0 20 : eg_seq m_Fig_setDirection 31 c_Fig_setDirection_31 = true)
  · exact y_Fig_setDirection_37
  · exact (eg_seq_drop y_Fig_setDirection_37 1 : eg_seq m_Fig_setDirection 38 c_Fig_setDirection_38 = true)
theorem b_Fig_setDirection {as : List Value} {h : List eg_E} {Q : Option Value → List eg_E → Prop} (hf : (eg_fl as).length ≤ 9) (hw : wps (eg_rm m_Fig_setDirection) (eg_run (eg_rm m_Fig_setDirection) (eg_R m_Fig_setDirection Q (h.length + 0)) Q T_Fig_setDirection 5) Q c_Fig_setDirection_0 0 0 (eg_entry 9 as) [] h) : eg_Runs n_Fig_setDirection as h Q := eg_begin2 (d := m_Fig_setDirection) rfl (by decide) y_Fig_setDirection_0 q_Fig_setDirection hf hw
/-! ===== Flat_init ===== -/
def c_Flat_init_37 : List eg_I := .inl (37, 1, .return_, 0, 0) :: []
def c_Flat_init_34 : List eg_I := .inl (34, 3, .putfield 25, 3, 3) :: c_Flat_init_37
def c_Flat_init_32 : List eg_I := .inl (32, 2, .newarray .int, 0, 0) :: c_Flat_init_34
def c_Flat_init_30 : List eg_I := .inl (30, 2, .iconst (6), 0, 0) :: c_Flat_init_32
def c_Flat_init_29 : List eg_I := .inl (29, 1, .aload 0, 0, 0) :: c_Flat_init_30
def c_Flat_init_26 : List eg_I := .inl (26, 3, .putfield 22, 3, 2) :: c_Flat_init_29
def c_Flat_init_24 : List eg_I := .inl (24, 2, .newarray .long, 1, 0) :: c_Flat_init_26
def c_Flat_init_23 : List eg_I := .inl (23, 1, .iconst (3), 0, 0) :: c_Flat_init_24
def c_Flat_init_22 : List eg_I := .inl (22, 1, .aload 0, 0, 0) :: c_Flat_init_23
def c_Flat_init_19 : List eg_I := .inl (19, 3, .putfield 18, 3, 1) :: c_Flat_init_22
def c_Flat_init_17 : List eg_I := .inl (17, 2, .newarray .long, 1, 0) :: c_Flat_init_19
def c_Flat_init_16 : List eg_I := .inl (16, 1, .iconst (3), 0, 0) :: c_Flat_init_17
def c_Flat_init_15 : List eg_I := .inl (15, 1, .aload 0, 0, 0) :: c_Flat_init_16
def c_Flat_init_12 : List eg_I := .inl (12, 3, .putfield 12, 3, 0) :: c_Flat_init_15
def c_Flat_init_9 : List eg_I := .inr (9, 3, 11, n_Tou_init, 0, 10, 4, 64) :: c_Flat_init_12
def c_Flat_init_8 : List eg_I := .inl (8, 1, .dup, 0, 0) :: c_Flat_init_9
def c_Flat_init_5 : List eg_I := .inl (5, 3, .new 9, 10, 5) :: c_Flat_init_8
def c_Flat_init_4 : List eg_I := .inl (4, 1, .aload 0, 0, 0) :: c_Flat_init_5
def c_Flat_init_1 : List eg_I := .inl (1, 3, .athrow, 3, 0) :: c_Flat_init_4
def c_Flat_init_0 : List eg_I := .inl (0, 1, .aload 0, 0, 0) :: c_Flat_init_1
section
variable {rm : Room} {K : Nat → Nat → Nat → eg_Lo → List Value → List eg_E → Prop} {Q : Option Value → List eg_E → Prop} {kc ks : Nat} {loc : eg_Lo} {st : List Value} {h : List eg_E}
theorem s_Flat_init_0 {x : Nat} {l : eg_Lo} : wps rm K Q c_Flat_init_0 kc ks (some (.ref x) :: l) (st) h = wps rm K Q c_Flat_init_1 kc ks (some (.ref x) :: l) (.ref x :: st) h := gk_aload rfl
theorem s_Flat_init_1 {x : Nat} : wps rm K Q c_Flat_init_1 kc ks loc (.ref (x + 1) :: st) h = (st.length ≤ 4 ∧ wps rm K Q c_Flat_init_4 kc ks loc (st) h) := gk_oi
theorem s_Flat_init_4 {x : Nat} {l : eg_Lo} : wps rm K Q c_Flat_init_4 kc ks (some (.ref x) :: l) (st) h = wps rm K Q c_Flat_init_5 kc ks (some (.ref x) :: l) (.ref x :: st) h := gk_aload rfl
theorem s_Flat_init_5  : wps rm K Q c_Flat_init_5 kc ks loc (st) h = (kc + 1 ≤ rm.cells ∧ ks + 5 ≤ rm.slots ∧ wps rm K Q c_Flat_init_8 (kc + 1) (ks + 5) loc (.ref (h.length + 1) :: st) (h ++ [.inr (10, eg_df 10)])) := gk_new
theorem s_Flat_init_8 {x : Nat} : wps rm K Q c_Flat_init_8 kc ks loc (.ref x :: st) h = wps rm K Q c_Flat_init_9 kc ks loc (.ref x :: .ref x :: st) h := gk_dup
theorem s_Flat_init_9  {x : Nat} : wps rm K Q c_Flat_init_9 kc ks loc (.ref (x + 1) :: st) h = (st.length ≤ 4 ∧ kc + 4 ≤ rm.cells ∧ ks + 64 ≤ rm.slots ∧ eg_Cs n_Tou_init [.ref (x + 1)] h (fun v h9 => wps rm K Q c_Flat_init_12 (kc + 4) (ks + 64) loc (v.toList ++ st) h9)) := eg_c3_0
theorem s_Flat_init_12 {x : Nat} {v : Value} : wps rm K Q c_Flat_init_12 kc ks loc (v :: .ref (x + 1) :: st) h = eg_pf h x 3 0 v (fun h9 => wps rm K Q c_Flat_init_15 kc ks loc (st) h9) := gk_pf
theorem s_Flat_init_15 {x : Nat} {l : eg_Lo} : wps rm K Q c_Flat_init_15 kc ks (some (.ref x) :: l) (st) h = wps rm K Q c_Flat_init_16 kc ks (some (.ref x) :: l) (.ref x :: st) h := gk_aload rfl
theorem s_Flat_init_16  : wps rm K Q c_Flat_init_16 kc ks loc (st) h = wps rm K Q c_Flat_init_17 kc ks loc (.int (3) :: st) h := gk_ic (by decide)
theorem s_Flat_init_17 {x : Int32} : wps rm K Q c_Flat_init_17 kc ks loc (.int x :: st) h = (¬ x < 0 ∧ x.toNatClampNeg ≤ 1000 ∧ kc + 1 ≤ rm.cells ∧ ks + x.toNatClampNeg ≤ rm.slots ∧ wps rm K Q c_Flat_init_19 (kc + 1) (ks + x.toNatClampNeg) loc (.ref (h.length + 1) :: st) (h ++ [.inl (1, eg_zero 1 x.toNatClampNeg)])) := gk_na
theorem s_Flat_init_19 {x : Nat} {v : Value} : wps rm K Q c_Flat_init_19 kc ks loc (v :: .ref (x + 1) :: st) h = eg_pf h x 3 1 v (fun h9 => wps rm K Q c_Flat_init_22 kc ks loc (st) h9) := gk_pf
theorem s_Flat_init_22 {x : Nat} {l : eg_Lo} : wps rm K Q c_Flat_init_22 kc ks (some (.ref x) :: l) (st) h = wps rm K Q c_Flat_init_23 kc ks (some (.ref x) :: l) (.ref x :: st) h := gk_aload rfl
theorem s_Flat_init_23  : wps rm K Q c_Flat_init_23 kc ks loc (st) h = wps rm K Q c_Flat_init_24 kc ks loc (.int (3) :: st) h := gk_ic (by decide)
theorem s_Flat_init_24 {x : Int32} : wps rm K Q c_Flat_init_24 kc ks loc (.int x :: st) h = (¬ x < 0 ∧ x.toNatClampNeg ≤ 1000 ∧ kc + 1 ≤ rm.cells ∧ ks + x.toNatClampNeg ≤ rm.slots ∧ wps rm K Q c_Flat_init_26 (kc + 1) (ks + x.toNatClampNeg) loc (.ref (h.length + 1) :: st) (h ++ [.inl (1, eg_zero 1 x.toNatClampNeg)])) := gk_na
theorem s_Flat_init_26 {x : Nat} {v : Value} : wps rm K Q c_Flat_init_26 kc ks loc (v :: .ref (x + 1) :: st) h = eg_pf h x 3 2 v (fun h9 => wps rm K Q c_Flat_init_29 kc ks loc (st) h9) := gk_pf
theorem s_Flat_init_29 {x : Nat} {l : eg_Lo} : wps rm K Q c_Flat_init_29 kc ks (some (.ref x) :: l) (st) h = wps rm K Q c_Flat_init_30 kc ks (some (.ref x) :: l) (.ref x :: st) h := gk_aload rfl
theorem s_Flat_init_30  : wps rm K Q c_Flat_init_30 kc ks loc (st) h = wps rm K Q c_Flat_init_32 kc ks loc (.int (6) :: st) h := gk_ic (by decide)
theorem s_Flat_init_32 {x : Int32} : wps rm K Q c_Flat_init_32 kc ks loc (.int x :: st) h = (¬ x < 0 ∧ x.toNatClampNeg ≤ 1000 ∧ kc + 1 ≤ rm.cells ∧ ks + x.toNatClampNeg ≤ rm.slots ∧ wps rm K Q c_Flat_init_34 (kc + 1) (ks + x.toNatClampNeg) loc (.ref (h.length + 1) :: st) (h ++ [.inl (0, eg_zero 0 x.toNatClampNeg)])) := gk_na
theorem s_Flat_init_34 {x : Nat} {v : Value} : wps rm K Q c_Flat_init_34 kc ks loc (v :: .ref (x + 1) :: st) h = eg_pf h x 3 3 v (fun h9 => wps rm K Q c_Flat_init_37 kc ks loc (st) h9) := gk_pf
theorem s_Flat_init_37  : wps rm K Q c_Flat_init_37 kc ks loc ([]) h = (kc = rm.cells ∧ Q none h) := gk_vret
def T_Flat_init : List (Nat × List eg_I) := []
end
theorem y_Flat_init_0 : eg_seq m_Flat_init 0 c_Flat_init_0 = true := by decide +kernel
theorem q_Flat_init : ∀ q ∈ T_Flat_init, eg_seq m_Flat_init q.1 q.2 = true := by
  intro q hq
  cases hq
theorem b_Flat_init {as : List Value} {h : List eg_E} {Q : Option Value → List eg_E → Prop} (hf : (eg_fl as).length ≤ 1) (hw : wps (eg_rm m_Flat_init) (eg_run (eg_rm m_Flat_init) (eg_R m_Flat_init Q (h.length + 8)) Q T_Flat_init 2) Q c_Flat_init_0 0 0 (eg_entry 1 as) [] h) : eg_Runs n_Flat_init as h Q := eg_begin2 (d := m_Flat_init) rfl (by decide) y_Flat_init_0 q_Flat_init hf hw
/-! ===== Flat_fitLine ===== -/
def z_Flat_fitLine_7 : List eg_I := [.inl (7, 0, .nop, 0, 0)]
def z_Flat_fitLine_23 : List eg_I := [.inl (23, 0, .nop, 0, 0)]
def c_Flat_fitLine_160 : List eg_I := .inl (160, 1, .ireturn, 0, 1) :: []
def c_Flat_fitLine_157 : List eg_I := .inl (157, 3, .getfield 51, 3, 4) :: c_Flat_fitLine_160
def c_Flat_fitLine_156 : List eg_I := .inl (156, 1, .aload 0, 0, 0) :: c_Flat_fitLine_157
def c_Flat_fitLine_153 : List eg_I := .inr (153, 1, 61, n_Flat_finish, 3, 3, 0, 0) :: c_Flat_fitLine_156
def c_Flat_fitLine_152 : List eg_I := .inl (152, 1, .iconst (2), 0, 0) :: c_Flat_fitLine_153
def c_Flat_fitLine_151 : List eg_I := .inl (151, 1, .iconst (2), 0, 0) :: c_Flat_fitLine_152
def c_Flat_fitLine_150 : List eg_I := .inl (150, 1, .aload 2, 0, 0) :: c_Flat_fitLine_151
def c_Flat_fitLine_149 : List eg_I := .inl (149, 1, .aload 0, 0, 0) :: c_Flat_fitLine_150
def c_Flat_fitLine_146 : List eg_I := .inr (146, 1, 55, n_Fig_setDirection, 3, 2, 0, 0) :: c_Flat_fitLine_149
def c_Flat_fitLine_145 : List eg_I := .inl (145, 1, .sipush (0), 0, 0) :: c_Flat_fitLine_146
def c_Flat_fitLine_144 : List eg_I := .inl (144, 1, .lneg, 0, 0) :: c_Flat_fitLine_145
def c_Flat_fitLine_143 : List eg_I := .inl (143, 1, .laload, 0, 0) :: c_Flat_fitLine_144
def c_Flat_fitLine_142 : List eg_I := .inl (142, 1, .iconst (0), 0, 0) :: c_Flat_fitLine_143
def c_Flat_fitLine_139 : List eg_I := .inl (139, 3, .getfield 22, 3, 2) :: c_Flat_fitLine_142
def c_Flat_fitLine_138 : List eg_I := .inl (138, 1, .aload 0, 0, 0) :: c_Flat_fitLine_139
def c_Flat_fitLine_137 : List eg_I := .inl (137, 1, .laload, 0, 0) :: c_Flat_fitLine_138
def c_Flat_fitLine_136 : List eg_I := .inl (136, 1, .iconst (1), 0, 0) :: c_Flat_fitLine_137
def c_Flat_fitLine_133 : List eg_I := .inl (133, 3, .getfield 22, 3, 2) :: c_Flat_fitLine_136
def c_Flat_fitLine_132 : List eg_I := .inl (132, 1, .aload 0, 0, 0) :: c_Flat_fitLine_133
def c_Flat_fitLine_131 : List eg_I := .inl (131, 1, .aload 2, 0, 0) :: c_Flat_fitLine_132
def c_Flat_fitLine_128 : List eg_I := .inl (128, 3, .ifCond .eq (28), 156, 0) :: c_Flat_fitLine_131
def c_Flat_fitLine_125 : List eg_I := .inl (125, 3, .getfield 51, 3, 4) :: c_Flat_fitLine_128
def c_Flat_fitLine_124 : List eg_I := .inl (124, 1, .aload 0, 0, 0) :: c_Flat_fitLine_125
def c_Flat_fitLine_121 : List eg_I := .inl (121, 3, .goto (-114), 7, 0) :: []
def c_Flat_fitLine_118 : List eg_I := .inl (118, 3, .iinc 3 (1), 0, 0) :: c_Flat_fitLine_121
def c_Flat_fitLine_115 : List eg_I := .inl (115, 3, .goto (-92), 23, 0) :: []
def c_Flat_fitLine_112 : List eg_I := .inl (112, 3, .iinc 4 (1), 0, 0) :: c_Flat_fitLine_115
def c_Flat_fitLine_109 : List eg_I := .inr (109, 1, 47, n_Flat_hold, 3, 3, 0, 0) :: c_Flat_fitLine_112
def c_Flat_fitLine_107 : List eg_I := .inl (107, 2, .iload 4, 0, 0) :: c_Flat_fitLine_109
def c_Flat_fitLine_106 : List eg_I := .inl (106, 1, .iload 3, 0, 0) :: c_Flat_fitLine_107
def c_Flat_fitLine_105 : List eg_I := .inl (105, 1, .iconst (0), 0, 0) :: c_Flat_fitLine_106
def c_Flat_fitLine_104 : List eg_I := .inl (104, 1, .aload 0, 0, 0) :: c_Flat_fitLine_105
def c_Flat_fitLine_101 : List eg_I := .inl (101, 3, .ifCond .eq (11), 112, 0) :: c_Flat_fitLine_104
def c_Flat_fitLine_98 : List eg_I := .inr (98, 1, 43, n_Flat_isBetter, 1, 3, 0, 0) :: c_Flat_fitLine_101
def c_Flat_fitLine_97 : List eg_I := .inl (97, 1, .iload 3, 0, 0) :: c_Flat_fitLine_98
def c_Flat_fitLine_96 : List eg_I := .inl (96, 1, .aload 0, 0, 0) :: c_Flat_fitLine_97
def c_Flat_fitLine_95 : List eg_I := .inl (95, 1, .lastore, 0, 0) :: c_Flat_fitLine_96
def c_Flat_fitLine_94 : List eg_I := .inl (94, 1, .sipush (0), 0, 0) :: c_Flat_fitLine_95
def c_Flat_fitLine_93 : List eg_I := .inl (93, 1, .iconst (2), 0, 0) :: c_Flat_fitLine_94
def c_Flat_fitLine_90 : List eg_I := .inl (90, 3, .getfield 18, 3, 1) :: c_Flat_fitLine_93
def c_Flat_fitLine_89 : List eg_I := .inl (89, 1, .aload 0, 0, 0) :: c_Flat_fitLine_90
def c_Flat_fitLine_88 : List eg_I := .inl (88, 1, .lastore, 0, 0) :: c_Flat_fitLine_89
def c_Flat_fitLine_87 : List eg_I := .inl (87, 1, .i2l, 0, 0) :: c_Flat_fitLine_88
def c_Flat_fitLine_86 : List eg_I := .inl (86, 1, .isub, 0, 0) :: c_Flat_fitLine_87
def c_Flat_fitLine_85 : List eg_I := .inl (85, 1, .iaload, 0, 0) :: c_Flat_fitLine_86
def c_Flat_fitLine_84 : List eg_I := .inl (84, 1, .iload 3, 0, 0) :: c_Flat_fitLine_85
def c_Flat_fitLine_81 : List eg_I := .inl (81, 3, .getfield 40, 10, 0) :: c_Flat_fitLine_84
def c_Flat_fitLine_78 : List eg_I := .inl (78, 3, .getfield 12, 3, 0) :: c_Flat_fitLine_81
def c_Flat_fitLine_77 : List eg_I := .inl (77, 1, .aload 0, 0, 0) :: c_Flat_fitLine_78
def c_Flat_fitLine_76 : List eg_I := .inl (76, 1, .iaload, 0, 0) :: c_Flat_fitLine_77
def c_Flat_fitLine_74 : List eg_I := .inl (74, 2, .iload 4, 0, 0) :: c_Flat_fitLine_76
def c_Flat_fitLine_71 : List eg_I := .inl (71, 3, .getfield 40, 10, 0) :: c_Flat_fitLine_74
def c_Flat_fitLine_68 : List eg_I := .inl (68, 3, .getfield 12, 3, 0) :: c_Flat_fitLine_71
def c_Flat_fitLine_67 : List eg_I := .inl (67, 1, .aload 0, 0, 0) :: c_Flat_fitLine_68
def c_Flat_fitLine_66 : List eg_I := .inl (66, 1, .iconst (1), 0, 0) :: c_Flat_fitLine_67
def c_Flat_fitLine_63 : List eg_I := .inl (63, 3, .getfield 18, 3, 1) :: c_Flat_fitLine_66
def c_Flat_fitLine_62 : List eg_I := .inl (62, 1, .aload 0, 0, 0) :: c_Flat_fitLine_63
def c_Flat_fitLine_61 : List eg_I := .inl (61, 1, .lastore, 0, 0) :: c_Flat_fitLine_62
def c_Flat_fitLine_60 : List eg_I := .inl (60, 1, .i2l, 0, 0) :: c_Flat_fitLine_61
def c_Flat_fitLine_59 : List eg_I := .inl (59, 1, .isub, 0, 0) :: c_Flat_fitLine_60
def c_Flat_fitLine_58 : List eg_I := .inl (58, 1, .iaload, 0, 0) :: c_Flat_fitLine_59
def c_Flat_fitLine_56 : List eg_I := .inl (56, 2, .iload 4, 0, 0) :: c_Flat_fitLine_58
def c_Flat_fitLine_53 : List eg_I := .inl (53, 3, .getfield 37, 10, 1) :: c_Flat_fitLine_56
def c_Flat_fitLine_50 : List eg_I := .inl (50, 3, .getfield 12, 3, 0) :: c_Flat_fitLine_53
def c_Flat_fitLine_49 : List eg_I := .inl (49, 1, .aload 0, 0, 0) :: c_Flat_fitLine_50
def c_Flat_fitLine_48 : List eg_I := .inl (48, 1, .iaload, 0, 0) :: c_Flat_fitLine_49
def c_Flat_fitLine_47 : List eg_I := .inl (47, 1, .iload 3, 0, 0) :: c_Flat_fitLine_48
def c_Flat_fitLine_44 : List eg_I := .inl (44, 3, .getfield 37, 10, 1) :: c_Flat_fitLine_47
def c_Flat_fitLine_41 : List eg_I := .inl (41, 3, .getfield 12, 3, 0) :: c_Flat_fitLine_44
def c_Flat_fitLine_40 : List eg_I := .inl (40, 1, .aload 0, 0, 0) :: c_Flat_fitLine_41
def c_Flat_fitLine_39 : List eg_I := .inl (39, 1, .iconst (0), 0, 0) :: c_Flat_fitLine_40
def c_Flat_fitLine_36 : List eg_I := .inl (36, 3, .getfield 18, 3, 1) :: c_Flat_fitLine_39
def c_Flat_fitLine_35 : List eg_I := .inl (35, 1, .aload 0, 0, 0) :: c_Flat_fitLine_36
def c_Flat_fitLine_32 : List eg_I := .inl (32, 3, .if_icmp .ge (86), 118, 0) :: c_Flat_fitLine_35
def c_Flat_fitLine_29 : List eg_I := .inl (29, 3, .getfield 33, 10, 4) :: c_Flat_fitLine_32
def c_Flat_fitLine_26 : List eg_I := .inl (26, 3, .getfield 12, 3, 0) :: c_Flat_fitLine_29
def c_Flat_fitLine_25 : List eg_I := .inl (25, 1, .aload 0, 0, 0) :: c_Flat_fitLine_26
def c_Flat_fitLine_23 : List eg_I := .inl (23, 2, .iload 4, 0, 0) :: c_Flat_fitLine_25
def c_Flat_fitLine_21 : List eg_I := .inl (21, 2, .istore 4, 0, 0) :: z_Flat_fitLine_23
def c_Flat_fitLine_20 : List eg_I := .inl (20, 1, .iadd, 0, 0) :: c_Flat_fitLine_21
def c_Flat_fitLine_19 : List eg_I := .inl (19, 1, .iconst (1), 0, 0) :: c_Flat_fitLine_20
def c_Flat_fitLine_18 : List eg_I := .inl (18, 1, .iload 3, 0, 0) :: c_Flat_fitLine_19
def c_Flat_fitLine_15 : List eg_I := .inl (15, 3, .if_icmp .ge (109), 124, 0) :: c_Flat_fitLine_18
def c_Flat_fitLine_12 : List eg_I := .inl (12, 3, .getfield 33, 10, 4) :: c_Flat_fitLine_15
def c_Flat_fitLine_9 : List eg_I := .inl (9, 3, .getfield 12, 3, 0) :: c_Flat_fitLine_12
def c_Flat_fitLine_8 : List eg_I := .inl (8, 1, .aload 0, 0, 0) :: c_Flat_fitLine_9
def c_Flat_fitLine_7 : List eg_I := .inl (7, 1, .iload 3, 0, 0) :: c_Flat_fitLine_8
def c_Flat_fitLine_6 : List eg_I := .inl (6, 1, .istore 3, 0, 0) :: z_Flat_fitLine_7
def c_Flat_fitLine_5 : List eg_I := .inl (5, 1, .iconst (0), 0, 0) :: c_Flat_fitLine_6
def c_Flat_fitLine_2 : List eg_I := .inr (2, 1, 29, n_Flat_start, 1, 3, 0, 0) :: c_Flat_fitLine_5
def c_Flat_fitLine_1 : List eg_I := .inl (1, 1, .aload 1, 0, 0) :: c_Flat_fitLine_2
def c_Flat_fitLine_0 : List eg_I := .inl (0, 1, .aload 0, 0, 0) :: c_Flat_fitLine_1
section
variable {rm : Room} {K : Nat → Nat → Nat → eg_Lo → List Value → List eg_E → Prop} {Q : Option Value → List eg_E → Prop} {kc ks : Nat} {loc : eg_Lo} {st : List Value} {h : List eg_E}
theorem s_Flat_fitLine_0 {x : Nat} {l : eg_Lo} : wps rm K Q c_Flat_fitLine_0 kc ks (some (.ref x) :: l) (st) h = wps rm K Q c_Flat_fitLine_1 kc ks (some (.ref x) :: l) (.ref x :: st) h := gk_aload rfl
theorem s_Flat_fitLine_1 {x : Nat} {l0 : Option Value} {l : eg_Lo} : wps rm K Q c_Flat_fitLine_1 kc ks (l0 :: some (.ref x) :: l) (st) h = wps rm K Q c_Flat_fitLine_2 kc ks (l0 :: some (.ref x) :: l) (.ref x :: st) h := gk_aload rfl
theorem s_Flat_fitLine_2  {a1 : Value} {x : Nat} : wps rm K Q c_Flat_fitLine_2 kc ks loc (a1 :: .ref (x + 1) :: st) h = (eg_cls h x 3 ∧ st.length ≤ 4 ∧ eg_Cs n_Flat_start (.ref (x + 1) :: [a1]) h (fun v h9 => wps rm K Q c_Flat_fitLine_5 kc ks loc (v.toList ++ st) h9)) := eg_c1_1
theorem s_Flat_fitLine_5  : wps rm K Q c_Flat_fitLine_5 kc ks loc (st) h = wps rm K Q c_Flat_fitLine_6 kc ks loc (.int (0) :: st) h := gk_ic (by decide)
theorem s_Flat_fitLine_6 {x : Int32} : wps rm K Q c_Flat_fitLine_6 kc ks loc (.int x :: st) h = wps rm K Q z_Flat_fitLine_7 kc ks (eg_set1 loc 3 (.int x)) (st) h := gk_istore
theorem s_Flat_fitLine_7 {x : Int32} {l0 l1 l2 : Option Value} {l : eg_Lo} : wps rm K Q c_Flat_fitLine_7 kc ks (l0 :: l1 :: l2 :: some (.int x) :: l) (st) h = wps rm K Q c_Flat_fitLine_8 kc ks (l0 :: l1 :: l2 :: some (.int x) :: l) (.int x :: st) h := gk_iload rfl
theorem s_Flat_fitLine_8 {x : Nat} {l : eg_Lo} : wps rm K Q c_Flat_fitLine_8 kc ks (some (.ref x) :: l) (st) h = wps rm K Q c_Flat_fitLine_9 kc ks (some (.ref x) :: l) (.ref x :: st) h := gk_aload rfl
theorem s_Flat_fitLine_9 {x : Nat} : wps rm K Q c_Flat_fitLine_9 kc ks loc (.ref (x + 1) :: st) h = eg_gf h x 3 0 (fun v => wps rm K Q c_Flat_fitLine_12 kc ks loc (v :: st) h) := gk_gf
theorem s_Flat_fitLine_12 {x : Nat} : wps rm K Q c_Flat_fitLine_12 kc ks loc (.ref (x + 1) :: st) h = eg_gf h x 10 4 (fun v => wps rm K Q c_Flat_fitLine_15 kc ks loc (v :: st) h) := gk_gf
theorem s_Flat_fitLine_15 {x y : Int32} : wps rm K Q c_Flat_fitLine_15 kc ks loc (.int y :: .int x :: st) h = ((y ≤ x → K 124 kc ks loc st h) ∧ (¬ y ≤ x → wps rm K Q c_Flat_fitLine_18 kc ks loc (st) h)) := gk_if2_ge
theorem s_Flat_fitLine_18 {x : Int32} {l0 l1 l2 : Option Value} {l : eg_Lo} : wps rm K Q c_Flat_fitLine_18 kc ks (l0 :: l1 :: l2 :: some (.int x) :: l) (st) h = wps rm K Q c_Flat_fitLine_19 kc ks (l0 :: l1 :: l2 :: some (.int x) :: l) (.int x :: st) h := gk_iload rfl
theorem s_Flat_fitLine_19  : wps rm K Q c_Flat_fitLine_19 kc ks loc (st) h = wps rm K Q c_Flat_fitLine_20 kc ks loc (.int (1) :: st) h := gk_ic (by decide)
theorem s_Flat_fitLine_20 {x y : Int32} : wps rm K Q c_Flat_fitLine_20 kc ks loc (.int y :: .int x :: st) h = wps rm K Q c_Flat_fitLine_21 kc ks loc (.int (x + y) :: st) h := gk_iadd
theorem s_Flat_fitLine_21 {x : Int32} : wps rm K Q c_Flat_fitLine_21 kc ks loc (.int x :: st) h = wps rm K Q z_Flat_fitLine_23 kc ks (eg_set1 loc 4 (.int x)) (st) h := gk_istore
theorem s_Flat_fitLine_23 {x : Int32} {l0 l1 l2 l3 : Option Value} {l : eg_Lo} : wps rm K Q c_Flat_fitLine_23 kc ks (l0 :: l1 :: l2 :: l3 :: some (.int x) :: l) (st) h = wps rm K Q c_Flat_fitLine_25 kc ks (l0 :: l1 :: l2 :: l3 :: some (.int x) :: l) (.int x :: st) h := gk_iload rfl
theorem s_Flat_fitLine_25 {x : Nat} {l : eg_Lo} : wps rm K Q c_Flat_fitLine_25 kc ks (some (.ref x) :: l) (st) h = wps rm K Q c_Flat_fitLine_26 kc ks (some (.ref x) :: l) (.ref x :: st) h := gk_aload rfl
theorem s_Flat_fitLine_26 {x : Nat} : wps rm K Q c_Flat_fitLine_26 kc ks loc (.ref (x + 1) :: st) h = eg_gf h x 3 0 (fun v => wps rm K Q c_Flat_fitLine_29 kc ks loc (v :: st) h) := gk_gf
theorem s_Flat_fitLine_29 {x : Nat} : wps rm K Q c_Flat_fitLine_29 kc ks loc (.ref (x + 1) :: st) h = eg_gf h x 10 4 (fun v => wps rm K Q c_Flat_fitLine_32 kc ks loc (v :: st) h) := gk_gf
theorem s_Flat_fitLine_32 {x y : Int32} : wps rm K Q c_Flat_fitLine_32 kc ks loc (.int y :: .int x :: st) h = ((y ≤ x → K 118 kc ks loc st h) ∧ (¬ y ≤ x → wps rm K Q c_Flat_fitLine_35 kc ks loc (st) h)) := gk_if2_ge
theorem s_Flat_fitLine_35 {x : Nat} {l : eg_Lo} : wps rm K Q c_Flat_fitLine_35 kc ks (some (.ref x) :: l) (st) h = wps rm K Q c_Flat_fitLine_36 kc ks (some (.ref x) :: l) (.ref x :: st) h := gk_aload rfl
theorem s_Flat_fitLine_36 {x : Nat} : wps rm K Q c_Flat_fitLine_36 kc ks loc (.ref (x + 1) :: st) h = eg_gf h x 3 1 (fun v => wps rm K Q c_Flat_fitLine_39 kc ks loc (v :: st) h) := gk_gf
theorem s_Flat_fitLine_39  : wps rm K Q c_Flat_fitLine_39 kc ks loc (st) h = wps rm K Q c_Flat_fitLine_40 kc ks loc (.int (0) :: st) h := gk_ic (by decide)
theorem s_Flat_fitLine_40 {x : Nat} {l : eg_Lo} : wps rm K Q c_Flat_fitLine_40 kc ks (some (.ref x) :: l) (st) h = wps rm K Q c_Flat_fitLine_41 kc ks (some (.ref x) :: l) (.ref x :: st) h := gk_aload rfl
theorem s_Flat_fitLine_41 {x : Nat} : wps rm K Q c_Flat_fitLine_41 kc ks loc (.ref (x + 1) :: st) h = eg_gf h x 3 0 (fun v => wps rm K Q c_Flat_fitLine_44 kc ks loc (v :: st) h) := gk_gf
theorem s_Flat_fitLine_44 {x : Nat} : wps rm K Q c_Flat_fitLine_44 kc ks loc (.ref (x + 1) :: st) h = eg_gf h x 10 1 (fun v => wps rm K Q c_Flat_fitLine_47 kc ks loc (v :: st) h) := gk_gf
theorem s_Flat_fitLine_47 {x : Int32} {l0 l1 l2 : Option Value} {l : eg_Lo} : wps rm K Q c_Flat_fitLine_47 kc ks (l0 :: l1 :: l2 :: some (.int x) :: l) (st) h = wps rm K Q c_Flat_fitLine_48 kc ks (l0 :: l1 :: l2 :: some (.int x) :: l) (.int x :: st) h := gk_iload rfl
theorem s_Flat_fitLine_48 {x : Nat} {i : Int32} : wps rm K Q c_Flat_fitLine_48 kc ks loc (.int i :: .ref (x + 1) :: st) h = eg_ia h x i (fun v => wps rm K Q c_Flat_fitLine_49 kc ks loc (.int v :: st) h) := gk_iaload
theorem s_Flat_fitLine_49 {x : Nat} {l : eg_Lo} : wps rm K Q c_Flat_fitLine_49 kc ks (some (.ref x) :: l) (st) h = wps rm K Q c_Flat_fitLine_50 kc ks (some (.ref x) :: l) (.ref x :: st) h := gk_aload rfl
theorem s_Flat_fitLine_50 {x : Nat} : wps rm K Q c_Flat_fitLine_50 kc ks loc (.ref (x + 1) :: st) h = eg_gf h x 3 0 (fun v => wps rm K Q c_Flat_fitLine_53 kc ks loc (v :: st) h) := gk_gf
theorem s_Flat_fitLine_53 {x : Nat} : wps rm K Q c_Flat_fitLine_53 kc ks loc (.ref (x + 1) :: st) h = eg_gf h x 10 1 (fun v => wps rm K Q c_Flat_fitLine_56 kc ks loc (v :: st) h) := gk_gf
theorem s_Flat_fitLine_56 {x : Int32} {l0 l1 l2 l3 : Option Value} {l : eg_Lo} : wps rm K Q c_Flat_fitLine_56 kc ks (l0 :: l1 :: l2 :: l3 :: some (.int x) :: l) (st) h = wps rm K Q c_Flat_fitLine_58 kc ks (l0 :: l1 :: l2 :: l3 :: some (.int x) :: l) (.int x :: st) h := gk_iload rfl
theorem s_Flat_fitLine_58 {x : Nat} {i : Int32} : wps rm K Q c_Flat_fitLine_58 kc ks loc (.int i :: .ref (x + 1) :: st) h = eg_ia h x i (fun v => wps rm K Q c_Flat_fitLine_59 kc ks loc (.int v :: st) h) := gk_iaload
theorem s_Flat_fitLine_59 {x y : Int32} : wps rm K Q c_Flat_fitLine_59 kc ks loc (.int y :: .int x :: st) h = wps rm K Q c_Flat_fitLine_60 kc ks loc (.int (x - y) :: st) h := gk_isub
theorem s_Flat_fitLine_60 {x : Int32} : wps rm K Q c_Flat_fitLine_60 kc ks loc (.int x :: st) h = wps rm K Q c_Flat_fitLine_61 kc ks loc (.long (x.toInt64) :: st) h := gk_i2l
theorem s_Flat_fitLine_61 {x : Nat} {i : Int32} {v : Int64} : wps rm K Q c_Flat_fitLine_61 kc ks loc (.long v :: .int i :: .ref (x + 1) :: st) h = eg_lst h x i v (fun h9 => wps rm K Q c_Flat_fitLine_62 kc ks loc (st) h9) := gk_lastore
theorem s_Flat_fitLine_62 {x : Nat} {l : eg_Lo} : wps rm K Q c_Flat_fitLine_62 kc ks (some (.ref x) :: l) (st) h = wps rm K Q c_Flat_fitLine_63 kc ks (some (.ref x) :: l) (.ref x :: st) h := gk_aload rfl
theorem s_Flat_fitLine_63 {x : Nat} : wps rm K Q c_Flat_fitLine_63 kc ks loc (.ref (x + 1) :: st) h = eg_gf h x 3 1 (fun v => wps rm K Q c_Flat_fitLine_66 kc ks loc (v :: st) h) := gk_gf
theorem s_Flat_fitLine_66  : wps rm K Q c_Flat_fitLine_66 kc ks loc (st) h = wps rm K Q c_Flat_fitLine_67 kc ks loc (.int (1) :: st) h := gk_ic (by decide)
theorem s_Flat_fitLine_67 {x : Nat} {l : eg_Lo} : wps rm K Q c_Flat_fitLine_67 kc ks (some (.ref x) :: l) (st) h = wps rm K Q c_Flat_fitLine_68 kc ks (some (.ref x) :: l) (.ref x :: st) h := gk_aload rfl
theorem s_Flat_fitLine_68 {x : Nat} : wps rm K Q c_Flat_fitLine_68 kc ks loc (.ref (x + 1) :: st) h = eg_gf h x 3 0 (fun v => wps rm K Q c_Flat_fitLine_71 kc ks loc (v :: st) h) := gk_gf
theorem s_Flat_fitLine_71 {x : Nat} : wps rm K Q c_Flat_fitLine_71 kc ks loc (.ref (x + 1) :: st) h = eg_gf h x 10 0 (fun v => wps rm K Q c_Flat_fitLine_74 kc ks loc (v :: st) h) := gk_gf
theorem s_Flat_fitLine_74 {x : Int32} {l0 l1 l2 l3 : Option Value} {l : eg_Lo} : wps rm K Q c_Flat_fitLine_74 kc ks (l0 :: l1 :: l2 :: l3 :: some (.int x) :: l) (st) h = wps rm K Q c_Flat_fitLine_76 kc ks (l0 :: l1 :: l2 :: l3 :: some (.int x) :: l) (.int x :: st) h := gk_iload rfl
theorem s_Flat_fitLine_76 {x : Nat} {i : Int32} : wps rm K Q c_Flat_fitLine_76 kc ks loc (.int i :: .ref (x + 1) :: st) h = eg_ia h x i (fun v => wps rm K Q c_Flat_fitLine_77 kc ks loc (.int v :: st) h) := gk_iaload
theorem s_Flat_fitLine_77 {x : Nat} {l : eg_Lo} : wps rm K Q c_Flat_fitLine_77 kc ks (some (.ref x) :: l) (st) h = wps rm K Q c_Flat_fitLine_78 kc ks (some (.ref x) :: l) (.ref x :: st) h := gk_aload rfl
theorem s_Flat_fitLine_78 {x : Nat} : wps rm K Q c_Flat_fitLine_78 kc ks loc (.ref (x + 1) :: st) h = eg_gf h x 3 0 (fun v => wps rm K Q c_Flat_fitLine_81 kc ks loc (v :: st) h) := gk_gf
theorem s_Flat_fitLine_81 {x : Nat} : wps rm K Q c_Flat_fitLine_81 kc ks loc (.ref (x + 1) :: st) h = eg_gf h x 10 0 (fun v => wps rm K Q c_Flat_fitLine_84 kc ks loc (v :: st) h) := gk_gf
theorem s_Flat_fitLine_84 {x : Int32} {l0 l1 l2 : Option Value} {l : eg_Lo} : wps rm K Q c_Flat_fitLine_84 kc ks (l0 :: l1 :: l2 :: some (.int x) :: l) (st) h = wps rm K Q c_Flat_fitLine_85 kc ks (l0 :: l1 :: l2 :: some (.int x) :: l) (.int x :: st) h := gk_iload rfl
theorem s_Flat_fitLine_85 {x : Nat} {i : Int32} : wps rm K Q c_Flat_fitLine_85 kc ks loc (.int i :: .ref (x + 1) :: st) h = eg_ia h x i (fun v => wps rm K Q c_Flat_fitLine_86 kc ks loc (.int v :: st) h) := gk_iaload
theorem s_Flat_fitLine_86 {x y : Int32} : wps rm K Q c_Flat_fitLine_86 kc ks loc (.int y :: .int x :: st) h = wps rm K Q c_Flat_fitLine_87 kc ks loc (.int (x - y) :: st) h := gk_isub
theorem s_Flat_fitLine_87 {x : Int32} : wps rm K Q c_Flat_fitLine_87 kc ks loc (.int x :: st) h = wps rm K Q c_Flat_fitLine_88 kc ks loc (.long (x.toInt64) :: st) h := gk_i2l
theorem s_Flat_fitLine_88 {x : Nat} {i : Int32} {v : Int64} : wps rm K Q c_Flat_fitLine_88 kc ks loc (.long v :: .int i :: .ref (x + 1) :: st) h = eg_lst h x i v (fun h9 => wps rm K Q c_Flat_fitLine_89 kc ks loc (st) h9) := gk_lastore
theorem s_Flat_fitLine_89 {x : Nat} {l : eg_Lo} : wps rm K Q c_Flat_fitLine_89 kc ks (some (.ref x) :: l) (st) h = wps rm K Q c_Flat_fitLine_90 kc ks (some (.ref x) :: l) (.ref x :: st) h := gk_aload rfl
theorem s_Flat_fitLine_90 {x : Nat} : wps rm K Q c_Flat_fitLine_90 kc ks loc (.ref (x + 1) :: st) h = eg_gf h x 3 1 (fun v => wps rm K Q c_Flat_fitLine_93 kc ks loc (v :: st) h) := gk_gf
theorem s_Flat_fitLine_93  : wps rm K Q c_Flat_fitLine_93 kc ks loc (st) h = wps rm K Q c_Flat_fitLine_94 kc ks loc (.int (2) :: st) h := gk_ic (by decide)
theorem s_Flat_fitLine_94  : wps rm K Q c_Flat_fitLine_94 kc ks loc (st) h = wps rm K Q c_Flat_fitLine_95 kc ks loc (.long (0) :: st) h := gk_lc (by decide)
theorem s_Flat_fitLine_95 {x : Nat} {i : Int32} {v : Int64} : wps rm K Q c_Flat_fitLine_95 kc ks loc (.long v :: .int i :: .ref (x + 1) :: st) h = eg_lst h x i v (fun h9 => wps rm K Q c_Flat_fitLine_96 kc ks loc (st) h9) := gk_lastore
theorem s_Flat_fitLine_96 {x : Nat} {l : eg_Lo} : wps rm K Q c_Flat_fitLine_96 kc ks (some (.ref x) :: l) (st) h = wps rm K Q c_Flat_fitLine_97 kc ks (some (.ref x) :: l) (.ref x :: st) h := gk_aload rfl
theorem s_Flat_fitLine_97 {x : Int32} {l0 l1 l2 : Option Value} {l : eg_Lo} : wps rm K Q c_Flat_fitLine_97 kc ks (l0 :: l1 :: l2 :: some (.int x) :: l) (st) h = wps rm K Q c_Flat_fitLine_98 kc ks (l0 :: l1 :: l2 :: some (.int x) :: l) (.int x :: st) h := gk_iload rfl
theorem s_Flat_fitLine_98  {a1 : Value} {x : Nat} : wps rm K Q c_Flat_fitLine_98 kc ks loc (a1 :: .ref (x + 1) :: st) h = (eg_cls h x 3 ∧ st.length ≤ 4 ∧ eg_Cs n_Flat_isBetter (.ref (x + 1) :: [a1]) h (fun v h9 => wps rm K Q c_Flat_fitLine_101 kc ks loc (v.toList ++ st) h9)) := eg_c1_1
theorem s_Flat_fitLine_101 {x : Int32} : wps rm K Q c_Flat_fitLine_101 kc ks loc (.int x :: st) h = ((x = 0 → K 112 kc ks loc st h) ∧ (¬ x = 0 → wps rm K Q c_Flat_fitLine_104 kc ks loc (st) h)) := gk_if1_eq
theorem s_Flat_fitLine_104 {x : Nat} {l : eg_Lo} : wps rm K Q c_Flat_fitLine_104 kc ks (some (.ref x) :: l) (st) h = wps rm K Q c_Flat_fitLine_105 kc ks (some (.ref x) :: l) (.ref x :: st) h := gk_aload rfl
theorem s_Flat_fitLine_105  : wps rm K Q c_Flat_fitLine_105 kc ks loc (st) h = wps rm K Q c_Flat_fitLine_106 kc ks loc (.int (0) :: st) h := gk_ic (by decide)
theorem s_Flat_fitLine_106 {x : Int32} {l0 l1 l2 : Option Value} {l : eg_Lo} : wps rm K Q c_Flat_fitLine_106 kc ks (l0 :: l1 :: l2 :: some (.int x) :: l) (st) h = wps rm K Q c_Flat_fitLine_107 kc ks (l0 :: l1 :: l2 :: some (.int x) :: l) (.int x :: st) h := gk_iload rfl
theorem s_Flat_fitLine_107 {x : Int32} {l0 l1 l2 l3 : Option Value} {l : eg_Lo} : wps rm K Q c_Flat_fitLine_107 kc ks (l0 :: l1 :: l2 :: l3 :: some (.int x) :: l) (st) h = wps rm K Q c_Flat_fitLine_109 kc ks (l0 :: l1 :: l2 :: l3 :: some (.int x) :: l) (.int x :: st) h := gk_iload rfl
theorem s_Flat_fitLine_109  {a1 : Value} {a2 : Value} {a3 : Value} {x : Nat} : wps rm K Q c_Flat_fitLine_109 kc ks loc (a3 :: a2 :: a1 :: .ref (x + 1) :: st) h = (eg_cls h x 3 ∧ st.length ≤ 4 ∧ eg_Cs n_Flat_hold (.ref (x + 1) :: [a1, a2, a3]) h (fun v h9 => wps rm K Q c_Flat_fitLine_112 kc ks loc (v.toList ++ st) h9)) := eg_c1_3
theorem s_Flat_fitLine_112 {x : Int32} {l0 l1 l2 l3 : Option Value} {lz : eg_Lo} : wps rm K Q c_Flat_fitLine_112 kc ks (l0 :: l1 :: l2 :: l3 :: some (.int x) :: lz) (st) h = wps rm K Q c_Flat_fitLine_115 kc ks (eg_set1 (l0 :: l1 :: l2 :: l3 :: some (.int x) :: lz) 4 (.int (x + (1)))) (st) h := gk_iinc rfl (by decide)
theorem s_Flat_fitLine_115  : wps rm K Q c_Flat_fitLine_115 kc ks loc (st) h = K 23 kc ks loc st h := gk_goto
theorem s_Flat_fitLine_118 {x : Int32} {l0 l1 l2 : Option Value} {lz : eg_Lo} : wps rm K Q c_Flat_fitLine_118 kc ks (l0 :: l1 :: l2 :: some (.int x) :: lz) (st) h = wps rm K Q c_Flat_fitLine_121 kc ks (eg_set1 (l0 :: l1 :: l2 :: some (.int x) :: lz) 3 (.int (x + (1)))) (st) h := gk_iinc rfl (by decide)
theorem s_Flat_fitLine_121  : wps rm K Q c_Flat_fitLine_121 kc ks loc (st) h = K 7 kc ks loc st h := gk_goto
theorem s_Flat_fitLine_124 {x : Nat} {l : eg_Lo} : wps rm K Q c_Flat_fitLine_124 kc ks (some (.ref x) :: l) (st) h = wps rm K Q c_Flat_fitLine_125 kc ks (some (.ref x) :: l) (.ref x :: st) h := gk_aload rfl
theorem s_Flat_fitLine_125 {x : Nat} : wps rm K Q c_Flat_fitLine_125 kc ks loc (.ref (x + 1) :: st) h = eg_gf h x 3 4 (fun v => wps rm K Q c_Flat_fitLine_128 kc ks loc (v :: st) h) := gk_gf
theorem s_Flat_fitLine_128 {x : Int32} : wps rm K Q c_Flat_fitLine_128 kc ks loc (.int x :: st) h = ((x = 0 → K 156 kc ks loc st h) ∧ (¬ x = 0 → wps rm K Q c_Flat_fitLine_131 kc ks loc (st) h)) := gk_if1_eq
theorem s_Flat_fitLine_131 {x : Nat} {l0 l1 : Option Value} {l : eg_Lo} : wps rm K Q c_Flat_fitLine_131 kc ks (l0 :: l1 :: some (.ref x) :: l) (st) h = wps rm K Q c_Flat_fitLine_132 kc ks (l0 :: l1 :: some (.ref x) :: l) (.ref x :: st) h := gk_aload rfl
theorem s_Flat_fitLine_132 {x : Nat} {l : eg_Lo} : wps rm K Q c_Flat_fitLine_132 kc ks (some (.ref x) :: l) (st) h = wps rm K Q c_Flat_fitLine_133 kc ks (some (.ref x) :: l) (.ref x :: st) h := gk_aload rfl
theorem s_Flat_fitLine_133 {x : Nat} : wps rm K Q c_Flat_fitLine_133 kc ks loc (.ref (x + 1) :: st) h = eg_gf h x 3 2 (fun v => wps rm K Q c_Flat_fitLine_136 kc ks loc (v :: st) h) := gk_gf
theorem s_Flat_fitLine_136  : wps rm K Q c_Flat_fitLine_136 kc ks loc (st) h = wps rm K Q c_Flat_fitLine_137 kc ks loc (.int (1) :: st) h := gk_ic (by decide)
theorem s_Flat_fitLine_137 {x : Nat} {i : Int32} : wps rm K Q c_Flat_fitLine_137 kc ks loc (.int i :: .ref (x + 1) :: st) h = eg_la h x i (fun v => wps rm K Q c_Flat_fitLine_138 kc ks loc (.long v :: st) h) := gk_laload
theorem s_Flat_fitLine_138 {x : Nat} {l : eg_Lo} : wps rm K Q c_Flat_fitLine_138 kc ks (some (.ref x) :: l) (st) h = wps rm K Q c_Flat_fitLine_139 kc ks (some (.ref x) :: l) (.ref x :: st) h := gk_aload rfl
theorem s_Flat_fitLine_139 {x : Nat} : wps rm K Q c_Flat_fitLine_139 kc ks loc (.ref (x + 1) :: st) h = eg_gf h x 3 2 (fun v => wps rm K Q c_Flat_fitLine_142 kc ks loc (v :: st) h) := gk_gf
theorem s_Flat_fitLine_142  : wps rm K Q c_Flat_fitLine_142 kc ks loc (st) h = wps rm K Q c_Flat_fitLine_143 kc ks loc (.int (0) :: st) h := gk_ic (by decide)
theorem s_Flat_fitLine_143 {x : Nat} {i : Int32} : wps rm K Q c_Flat_fitLine_143 kc ks loc (.int i :: .ref (x + 1) :: st) h = eg_la h x i (fun v => wps rm K Q c_Flat_fitLine_144 kc ks loc (.long v :: st) h) := gk_laload
theorem s_Flat_fitLine_144 {x : Int64} : wps rm K Q c_Flat_fitLine_144 kc ks loc (.long x :: st) h = wps rm K Q c_Flat_fitLine_145 kc ks loc (.long (-x) :: st) h := gk_lneg
theorem s_Flat_fitLine_145  : wps rm K Q c_Flat_fitLine_145 kc ks loc (st) h = wps rm K Q c_Flat_fitLine_146 kc ks loc (.long (0) :: st) h := gk_lc (by decide)
theorem s_Flat_fitLine_146  {a1 : Value} {a2 : Value} {a3 : Value} {x : Nat} : wps rm K Q c_Flat_fitLine_146 kc ks loc (a3 :: a2 :: a1 :: .ref (x + 1) :: st) h = (eg_cls h x 2 ∧ st.length ≤ 4 ∧ eg_Cs n_Fig_setDirection (.ref (x + 1) :: [a1, a2, a3]) h (fun v h9 => wps rm K Q c_Flat_fitLine_149 kc ks loc (v.toList ++ st) h9)) := eg_c1_3
theorem s_Flat_fitLine_149 {x : Nat} {l : eg_Lo} : wps rm K Q c_Flat_fitLine_149 kc ks (some (.ref x) :: l) (st) h = wps rm K Q c_Flat_fitLine_150 kc ks (some (.ref x) :: l) (.ref x :: st) h := gk_aload rfl
theorem s_Flat_fitLine_150 {x : Nat} {l0 l1 : Option Value} {l : eg_Lo} : wps rm K Q c_Flat_fitLine_150 kc ks (l0 :: l1 :: some (.ref x) :: l) (st) h = wps rm K Q c_Flat_fitLine_151 kc ks (l0 :: l1 :: some (.ref x) :: l) (.ref x :: st) h := gk_aload rfl
theorem s_Flat_fitLine_151  : wps rm K Q c_Flat_fitLine_151 kc ks loc (st) h = wps rm K Q c_Flat_fitLine_152 kc ks loc (.int (2) :: st) h := gk_ic (by decide)
theorem s_Flat_fitLine_152  : wps rm K Q c_Flat_fitLine_152 kc ks loc (st) h = wps rm K Q c_Flat_fitLine_153 kc ks loc (.int (2) :: st) h := gk_ic (by decide)
theorem s_Flat_fitLine_153  {a1 : Value} {a2 : Value} {a3 : Value} {x : Nat} : wps rm K Q c_Flat_fitLine_153 kc ks loc (a3 :: a2 :: a1 :: .ref (x + 1) :: st) h = (eg_cls h x 3 ∧ st.length ≤ 4 ∧ eg_Cs n_Flat_finish (.ref (x + 1) :: [a1, a2, a3]) h (fun v h9 => wps rm K Q c_Flat_fitLine_156 kc ks loc (v.toList ++ st) h9)) := eg_c1_3
theorem s_Flat_fitLine_156 {x : Nat} {l : eg_Lo} : wps rm K Q c_Flat_fitLine_156 kc ks (some (.ref x) :: l) (st) h = wps rm K Q c_Flat_fitLine_157 kc ks (some (.ref x) :: l) (.ref x :: st) h := gk_aload rfl
theorem s_Flat_fitLine_157 {x : Nat} : wps rm K Q c_Flat_fitLine_157 kc ks loc (.ref (x + 1) :: st) h = eg_gf h x 3 4 (fun v => wps rm K Q c_Flat_fitLine_160 kc ks loc (v :: st) h) := gk_gf
theorem s_Flat_fitLine_160 {x : Int32} : wps rm K Q c_Flat_fitLine_160 kc ks loc ([.int x]) h = (kc = rm.cells ∧ ((1 : Nat) = 1 → x = 0 ∨ x = 1) ∧ Q (some (.int x)) h) := gk_iret
theorem sz_Flat_fitLine_7 : wps rm K Q z_Flat_fitLine_7 kc ks loc st h = K 7 kc ks loc st h := gk_nop
theorem sz_Flat_fitLine_23 : wps rm K Q z_Flat_fitLine_23 kc ks loc st h = K 23 kc ks loc st h := gk_nop
def T_Flat_fitLine : List (Nat × List eg_I) := [(112, c_Flat_fitLine_112), (118, c_Flat_fitLine_118), (124, c_Flat_fitLine_124), (156, c_Flat_fitLine_156)]
theorem j_Flat_fitLine_112 {R : Nat → Nat → Nat → eg_Lo → List Value → List eg_E → Prop} {f pc0 : Nat} : eg_run rm R Q T_Flat_fitLine (f + 1) 112 kc ks loc st h = wps rm (eg_run rm R Q T_Flat_fitLine f) Q c_Flat_fitLine_112 kc ks loc st h := rfl
theorem j_Flat_fitLine_118 {R : Nat → Nat → Nat → eg_Lo → List Value → List eg_E → Prop} {f pc0 : Nat} : eg_run rm R Q T_Flat_fitLine (f + 1) 118 kc ks loc st h = wps rm (eg_run rm R Q T_Flat_fitLine f) Q c_Flat_fitLine_118 kc ks loc st h := rfl
theorem j_Flat_fitLine_124 {R : Nat → Nat → Nat → eg_Lo → List Value → List eg_E → Prop} {f pc0 : Nat} : eg_run rm R Q T_Flat_fitLine (f + 1) 124 kc ks loc st h = wps rm (eg_run rm R Q T_Flat_fitLine f) Q c_Flat_fitLine_124 kc ks loc st h := rfl
theorem j_Flat_fitLine_156 {R : Nat → Nat → Nat → eg_Lo → List Value → List eg_E → Prop} {f pc0 : Nat} : eg_run rm R Q T_Flat_fitLine (f + 1) 156 kc ks loc st h = wps rm (eg_run rm R Q T_Flat_fitLine f) Q c_Flat_fitLine_156 kc ks loc st h := rfl
theorem j_Flat_fitLine_7 {R : Nat → Nat → Nat → eg_Lo → List Value → List eg_E → Prop} {f pc0 : Nat} : eg_run rm R Q T_Flat_fitLine (f + 1) 7 kc ks loc st h = R 7 kc ks loc st h := rfl
theorem j_Flat_fitLine_23 {R : Nat → Nat → Nat → eg_Lo → List Value → List eg_E → Prop} {f pc0 : Nat} : eg_run rm R Q T_Flat_fitLine (f + 1) 23 kc ks loc st h = R 23 kc ks loc st h := rfl
end
theorem y_Flat_fitLine_0 : eg_seq m_Flat_fitLine 0 c_Flat_fitLine_0 = true := by decide +kernel
theorem y_Flat_fitLine_7 : eg_seq m_Flat_fitLine 7 c_Flat_fitLine_7 = true := by decide +kernel
theorem y_Flat_fitLine_23 : eg_seq m_Flat_fitLine 23 c_Flat_fitLine_23 = true := by decide +kernel
theorem y_Flat_fitLine_118 : eg_seq m_Flat_fitLine 118 c_Flat_fitLine_118 = true := by decide +kernel
theorem y_Flat_fitLine_124 : eg_seq m_Flat_fitLine 124 c_Flat_fitLine_124 = true := by decide +kernel
theorem q_Flat_fitLine : ∀ q ∈ T_Flat_fitLine, eg_seq m_Flat_fitLine q.1 q.2 = true := by
  intro q hq
  simp only [T_Flat_fitLine, List.mem_cons, List.not_mem_nil, or_false] at hq
  rcases hq with rfl | rfl | rfl | rfl
  · exact (eg_seq_drop y_Flat_fitLine_23 51 : eg_seq m_Flat_fitLine 112 c_Flat_fitLine_112 = true)
  · exact y_Flat_fitLine_118
  · exact y_Flat_fitLine_124
  · exact (eg_seq_drop y_Flat_fitLine_124 20 : eg_seq m_Flat_fitLine 156 c_Flat_fitLine_156 = true)
theorem b_Flat_fitLine {as : List Value} {h : List eg_E} {Q : Option Value → List eg_E → Prop} (hf : (eg_fl as).length ≤ 5) (hw : wps (eg_rm m_Flat_fitLine) (eg_run (eg_rm m_Flat_fitLine) (eg_R m_Flat_fitLine Q (h.length + 0)) Q T_Flat_fitLine 6) Q c_Flat_fitLine_0 0 0 (eg_entry 5 as) [] h) : eg_Runs n_Flat_fitLine as h Q := eg_begin2 (d := m_Flat_fitLine) rfl (by decide) y_Flat_fitLine_0 q_Flat_fitLine hf hw
theorem p_Flat_fitLine_7 {Q : Option Value → List eg_E → Prop} {n0 kc ks : Nat} {loc : eg_Lo} {st : List Value} {h : List eg_E} (hw : wps (eg_rm m_Flat_fitLine) (eg_run (eg_rm m_Flat_fitLine) (eg_R m_Flat_fitLine Q n0) Q T_Flat_fitLine 6) Q c_Flat_fitLine_7 kc ks loc st h) : eg_R m_Flat_fitLine Q n0 7 kc ks loc st h := eg_go2 y_Flat_fitLine_7 q_Flat_fitLine hw
theorem p_Flat_fitLine_23 {Q : Option Value → List eg_E → Prop} {n0 kc ks : Nat} {loc : eg_Lo} {st : List Value} {h : List eg_E} (hw : wps (eg_rm m_Flat_fitLine) (eg_run (eg_rm m_Flat_fitLine) (eg_R m_Flat_fitLine Q n0) Q T_Flat_fitLine 6) Q c_Flat_fitLine_23 kc ks loc st h) : eg_R m_Flat_fitLine Q n0 23 kc ks loc st h := eg_go2 y_Flat_fitLine_23 q_Flat_fitLine hw
/-! ===== Flat_fitPlane ===== -/
def z_Flat_fitPlane_7 : List eg_I := [.inl (7, 0, .nop, 0, 0)]
def z_Flat_fitPlane_23 : List eg_I := [.inl (23, 0, .nop, 0, 0)]
def c_Flat_fitPlane_94 : List eg_I := .inl (94, 1, .ireturn, 0, 1) :: []
def c_Flat_fitPlane_91 : List eg_I := .inl (91, 3, .getfield 51, 3, 4) :: c_Flat_fitPlane_94
def c_Flat_fitPlane_90 : List eg_I := .inl (90, 1, .aload 0, 0, 0) :: c_Flat_fitPlane_91
def c_Flat_fitPlane_87 : List eg_I := .inr (87, 1, 61, n_Flat_finish, 3, 3, 0, 0) :: c_Flat_fitPlane_90
def c_Flat_fitPlane_86 : List eg_I := .inl (86, 1, .iconst (4), 0, 0) :: c_Flat_fitPlane_87
def c_Flat_fitPlane_85 : List eg_I := .inl (85, 1, .iconst (3), 0, 0) :: c_Flat_fitPlane_86
def c_Flat_fitPlane_84 : List eg_I := .inl (84, 1, .aload 2, 0, 0) :: c_Flat_fitPlane_85
def c_Flat_fitPlane_83 : List eg_I := .inl (83, 1, .aload 0, 0, 0) :: c_Flat_fitPlane_84
def c_Flat_fitPlane_80 : List eg_I := .inr (80, 1, 55, n_Fig_setDirection, 3, 2, 0, 0) :: c_Flat_fitPlane_83
def c_Flat_fitPlane_79 : List eg_I := .inl (79, 1, .laload, 0, 0) :: c_Flat_fitPlane_80
def c_Flat_fitPlane_78 : List eg_I := .inl (78, 1, .iconst (2), 0, 0) :: c_Flat_fitPlane_79
def c_Flat_fitPlane_75 : List eg_I := .inl (75, 3, .getfield 22, 3, 2) :: c_Flat_fitPlane_78
def c_Flat_fitPlane_74 : List eg_I := .inl (74, 1, .aload 0, 0, 0) :: c_Flat_fitPlane_75
def c_Flat_fitPlane_73 : List eg_I := .inl (73, 1, .laload, 0, 0) :: c_Flat_fitPlane_74
def c_Flat_fitPlane_72 : List eg_I := .inl (72, 1, .iconst (1), 0, 0) :: c_Flat_fitPlane_73
def c_Flat_fitPlane_69 : List eg_I := .inl (69, 3, .getfield 22, 3, 2) :: c_Flat_fitPlane_72
def c_Flat_fitPlane_68 : List eg_I := .inl (68, 1, .aload 0, 0, 0) :: c_Flat_fitPlane_69
def c_Flat_fitPlane_67 : List eg_I := .inl (67, 1, .laload, 0, 0) :: c_Flat_fitPlane_68
def c_Flat_fitPlane_66 : List eg_I := .inl (66, 1, .iconst (0), 0, 0) :: c_Flat_fitPlane_67
def c_Flat_fitPlane_63 : List eg_I := .inl (63, 3, .getfield 22, 3, 2) :: c_Flat_fitPlane_66
def c_Flat_fitPlane_62 : List eg_I := .inl (62, 1, .aload 0, 0, 0) :: c_Flat_fitPlane_63
def c_Flat_fitPlane_61 : List eg_I := .inl (61, 1, .aload 2, 0, 0) :: c_Flat_fitPlane_62
def c_Flat_fitPlane_58 : List eg_I := .inl (58, 3, .ifCond .eq (32), 90, 0) :: c_Flat_fitPlane_61
def c_Flat_fitPlane_55 : List eg_I := .inl (55, 3, .getfield 51, 3, 4) :: c_Flat_fitPlane_58
def c_Flat_fitPlane_54 : List eg_I := .inl (54, 1, .aload 0, 0, 0) :: c_Flat_fitPlane_55
def c_Flat_fitPlane_51 : List eg_I := .inl (51, 3, .goto (-44), 7, 0) :: []
def c_Flat_fitPlane_48 : List eg_I := .inl (48, 3, .iinc 3 (1), 0, 0) :: c_Flat_fitPlane_51
def c_Flat_fitPlane_45 : List eg_I := .inl (45, 3, .goto (-22), 23, 0) :: []
def c_Flat_fitPlane_42 : List eg_I := .inl (42, 3, .iinc 4 (1), 0, 0) :: c_Flat_fitPlane_45
def c_Flat_fitPlane_39 : List eg_I := .inr (39, 1, 65, n_Flat_trySecondPairs, 2, 3, 0, 0) :: c_Flat_fitPlane_42
def c_Flat_fitPlane_37 : List eg_I := .inl (37, 2, .iload 4, 0, 0) :: c_Flat_fitPlane_39
def c_Flat_fitPlane_36 : List eg_I := .inl (36, 1, .iload 3, 0, 0) :: c_Flat_fitPlane_37
def c_Flat_fitPlane_35 : List eg_I := .inl (35, 1, .aload 0, 0, 0) :: c_Flat_fitPlane_36
def c_Flat_fitPlane_32 : List eg_I := .inl (32, 3, .if_icmp .ge (16), 48, 0) :: c_Flat_fitPlane_35
def c_Flat_fitPlane_29 : List eg_I := .inl (29, 3, .getfield 33, 10, 4) :: c_Flat_fitPlane_32
def c_Flat_fitPlane_26 : List eg_I := .inl (26, 3, .getfield 12, 3, 0) :: c_Flat_fitPlane_29
def c_Flat_fitPlane_25 : List eg_I := .inl (25, 1, .aload 0, 0, 0) :: c_Flat_fitPlane_26
def c_Flat_fitPlane_23 : List eg_I := .inl (23, 2, .iload 4, 0, 0) :: c_Flat_fitPlane_25
def c_Flat_fitPlane_21 : List eg_I := .inl (21, 2, .istore 4, 0, 0) :: z_Flat_fitPlane_23
def c_Flat_fitPlane_20 : List eg_I := .inl (20, 1, .iadd, 0, 0) :: c_Flat_fitPlane_21
def c_Flat_fitPlane_19 : List eg_I := .inl (19, 1, .iconst (1), 0, 0) :: c_Flat_fitPlane_20
def c_Flat_fitPlane_18 : List eg_I := .inl (18, 1, .iload 3, 0, 0) :: c_Flat_fitPlane_19
def c_Flat_fitPlane_15 : List eg_I := .inl (15, 3, .if_icmp .ge (39), 54, 0) :: c_Flat_fitPlane_18
def c_Flat_fitPlane_12 : List eg_I := .inl (12, 3, .getfield 33, 10, 4) :: c_Flat_fitPlane_15
def c_Flat_fitPlane_9 : List eg_I := .inl (9, 3, .getfield 12, 3, 0) :: c_Flat_fitPlane_12
def c_Flat_fitPlane_8 : List eg_I := .inl (8, 1, .aload 0, 0, 0) :: c_Flat_fitPlane_9
def c_Flat_fitPlane_7 : List eg_I := .inl (7, 1, .iload 3, 0, 0) :: c_Flat_fitPlane_8
def c_Flat_fitPlane_6 : List eg_I := .inl (6, 1, .istore 3, 0, 0) :: z_Flat_fitPlane_7
def c_Flat_fitPlane_5 : List eg_I := .inl (5, 1, .iconst (0), 0, 0) :: c_Flat_fitPlane_6
def c_Flat_fitPlane_2 : List eg_I := .inr (2, 1, 29, n_Flat_start, 1, 3, 0, 0) :: c_Flat_fitPlane_5
def c_Flat_fitPlane_1 : List eg_I := .inl (1, 1, .aload 1, 0, 0) :: c_Flat_fitPlane_2
def c_Flat_fitPlane_0 : List eg_I := .inl (0, 1, .aload 0, 0, 0) :: c_Flat_fitPlane_1
section
variable {rm : Room} {K : Nat → Nat → Nat → eg_Lo → List Value → List eg_E → Prop} {Q : Option Value → List eg_E → Prop} {kc ks : Nat} {loc : eg_Lo} {st : List Value} {h : List eg_E}
theorem s_Flat_fitPlane_0 {x : Nat} {l : eg_Lo} : wps rm K Q c_Flat_fitPlane_0 kc ks (some (.ref x) :: l) (st) h = wps rm K Q c_Flat_fitPlane_1 kc ks (some (.ref x) :: l) (.ref x :: st) h := gk_aload rfl
theorem s_Flat_fitPlane_1 {x : Nat} {l0 : Option Value} {l : eg_Lo} : wps rm K Q c_Flat_fitPlane_1 kc ks (l0 :: some (.ref x) :: l) (st) h = wps rm K Q c_Flat_fitPlane_2 kc ks (l0 :: some (.ref x) :: l) (.ref x :: st) h := gk_aload rfl
theorem s_Flat_fitPlane_2  {a1 : Value} {x : Nat} : wps rm K Q c_Flat_fitPlane_2 kc ks loc (a1 :: .ref (x + 1) :: st) h = (eg_cls h x 3 ∧ st.length ≤ 4 ∧ eg_Cs n_Flat_start (.ref (x + 1) :: [a1]) h (fun v h9 => wps rm K Q c_Flat_fitPlane_5 kc ks loc (v.toList ++ st) h9)) := eg_c1_1
theorem s_Flat_fitPlane_5  : wps rm K Q c_Flat_fitPlane_5 kc ks loc (st) h = wps rm K Q c_Flat_fitPlane_6 kc ks loc (.int (0) :: st) h := gk_ic (by decide)
theorem s_Flat_fitPlane_6 {x : Int32} : wps rm K Q c_Flat_fitPlane_6 kc ks loc (.int x :: st) h = wps rm K Q z_Flat_fitPlane_7 kc ks (eg_set1 loc 3 (.int x)) (st) h := gk_istore
theorem s_Flat_fitPlane_7 {x : Int32} {l0 l1 l2 : Option Value} {l : eg_Lo} : wps rm K Q c_Flat_fitPlane_7 kc ks (l0 :: l1 :: l2 :: some (.int x) :: l) (st) h = wps rm K Q c_Flat_fitPlane_8 kc ks (l0 :: l1 :: l2 :: some (.int x) :: l) (.int x :: st) h := gk_iload rfl
theorem s_Flat_fitPlane_8 {x : Nat} {l : eg_Lo} : wps rm K Q c_Flat_fitPlane_8 kc ks (some (.ref x) :: l) (st) h = wps rm K Q c_Flat_fitPlane_9 kc ks (some (.ref x) :: l) (.ref x :: st) h := gk_aload rfl
theorem s_Flat_fitPlane_9 {x : Nat} : wps rm K Q c_Flat_fitPlane_9 kc ks loc (.ref (x + 1) :: st) h = eg_gf h x 3 0 (fun v => wps rm K Q c_Flat_fitPlane_12 kc ks loc (v :: st) h) := gk_gf
theorem s_Flat_fitPlane_12 {x : Nat} : wps rm K Q c_Flat_fitPlane_12 kc ks loc (.ref (x + 1) :: st) h = eg_gf h x 10 4 (fun v => wps rm K Q c_Flat_fitPlane_15 kc ks loc (v :: st) h) := gk_gf
theorem s_Flat_fitPlane_15 {x y : Int32} : wps rm K Q c_Flat_fitPlane_15 kc ks loc (.int y :: .int x :: st) h = ((y ≤ x → K 54 kc ks loc st h) ∧ (¬ y ≤ x → wps rm K Q c_Flat_fitPlane_18 kc ks loc (st) h)) := gk_if2_ge
theorem s_Flat_fitPlane_18 {x : Int32} {l0 l1 l2 : Option Value} {l : eg_Lo} : wps rm K Q c_Flat_fitPlane_18 kc ks (l0 :: l1 :: l2 :: some (.int x) :: l) (st) h = wps rm K Q c_Flat_fitPlane_19 kc ks (l0 :: l1 :: l2 :: some (.int x) :: l) (.int x :: st) h := gk_iload rfl
theorem s_Flat_fitPlane_19  : wps rm K Q c_Flat_fitPlane_19 kc ks loc (st) h = wps rm K Q c_Flat_fitPlane_20 kc ks loc (.int (1) :: st) h := gk_ic (by decide)
theorem s_Flat_fitPlane_20 {x y : Int32} : wps rm K Q c_Flat_fitPlane_20 kc ks loc (.int y :: .int x :: st) h = wps rm K Q c_Flat_fitPlane_21 kc ks loc (.int (x + y) :: st) h := gk_iadd
theorem s_Flat_fitPlane_21 {x : Int32} : wps rm K Q c_Flat_fitPlane_21 kc ks loc (.int x :: st) h = wps rm K Q z_Flat_fitPlane_23 kc ks (eg_set1 loc 4 (.int x)) (st) h := gk_istore
theorem s_Flat_fitPlane_23 {x : Int32} {l0 l1 l2 l3 : Option Value} {l : eg_Lo} : wps rm K Q c_Flat_fitPlane_23 kc ks (l0 :: l1 :: l2 :: l3 :: some (.int x) :: l) (st) h = wps rm K Q c_Flat_fitPlane_25 kc ks (l0 :: l1 :: l2 :: l3 :: some (.int x) :: l) (.int x :: st) h := gk_iload rfl
theorem s_Flat_fitPlane_25 {x : Nat} {l : eg_Lo} : wps rm K Q c_Flat_fitPlane_25 kc ks (some (.ref x) :: l) (st) h = wps rm K Q c_Flat_fitPlane_26 kc ks (some (.ref x) :: l) (.ref x :: st) h := gk_aload rfl
theorem s_Flat_fitPlane_26 {x : Nat} : wps rm K Q c_Flat_fitPlane_26 kc ks loc (.ref (x + 1) :: st) h = eg_gf h x 3 0 (fun v => wps rm K Q c_Flat_fitPlane_29 kc ks loc (v :: st) h) := gk_gf
theorem s_Flat_fitPlane_29 {x : Nat} : wps rm K Q c_Flat_fitPlane_29 kc ks loc (.ref (x + 1) :: st) h = eg_gf h x 10 4 (fun v => wps rm K Q c_Flat_fitPlane_32 kc ks loc (v :: st) h) := gk_gf
theorem s_Flat_fitPlane_32 {x y : Int32} : wps rm K Q c_Flat_fitPlane_32 kc ks loc (.int y :: .int x :: st) h = ((y ≤ x → K 48 kc ks loc st h) ∧ (¬ y ≤ x → wps rm K Q c_Flat_fitPlane_35 kc ks loc (st) h)) := gk_if2_ge
theorem s_Flat_fitPlane_35 {x : Nat} {l : eg_Lo} : wps rm K Q c_Flat_fitPlane_35 kc ks (some (.ref x) :: l) (st) h = wps rm K Q c_Flat_fitPlane_36 kc ks (some (.ref x) :: l) (.ref x :: st) h := gk_aload rfl
theorem s_Flat_fitPlane_36 {x : Int32} {l0 l1 l2 : Option Value} {l : eg_Lo} : wps rm K Q c_Flat_fitPlane_36 kc ks (l0 :: l1 :: l2 :: some (.int x) :: l) (st) h = wps rm K Q c_Flat_fitPlane_37 kc ks (l0 :: l1 :: l2 :: some (.int x) :: l) (.int x :: st) h := gk_iload rfl
theorem s_Flat_fitPlane_37 {x : Int32} {l0 l1 l2 l3 : Option Value} {l : eg_Lo} : wps rm K Q c_Flat_fitPlane_37 kc ks (l0 :: l1 :: l2 :: l3 :: some (.int x) :: l) (st) h = wps rm K Q c_Flat_fitPlane_39 kc ks (l0 :: l1 :: l2 :: l3 :: some (.int x) :: l) (.int x :: st) h := gk_iload rfl
theorem s_Flat_fitPlane_39  {a1 : Value} {a2 : Value} {x : Nat} : wps rm K Q c_Flat_fitPlane_39 kc ks loc (a2 :: a1 :: .ref (x + 1) :: st) h = (eg_cls h x 3 ∧ st.length ≤ 4 ∧ eg_Cs n_Flat_trySecondPairs (.ref (x + 1) :: [a1, a2]) h (fun v h9 => wps rm K Q c_Flat_fitPlane_42 kc ks loc (v.toList ++ st) h9)) := eg_c1_2
theorem s_Flat_fitPlane_42 {x : Int32} {l0 l1 l2 l3 : Option Value} {lz : eg_Lo} : wps rm K Q c_Flat_fitPlane_42 kc ks (l0 :: l1 :: l2 :: l3 :: some (.int x) :: lz) (st) h = wps rm K Q c_Flat_fitPlane_45 kc ks (eg_set1 (l0 :: l1 :: l2 :: l3 :: some (.int x) :: lz) 4 (.int (x + (1)))) (st) h := gk_iinc rfl (by decide)
theorem s_Flat_fitPlane_45  : wps rm K Q c_Flat_fitPlane_45 kc ks loc (st) h = K 23 kc ks loc st h := gk_goto
theorem s_Flat_fitPlane_48 {x : Int32} {l0 l1 l2 : Option Value} {lz : eg_Lo} : wps rm K Q c_Flat_fitPlane_48 kc ks (l0 :: l1 :: l2 :: some (.int x) :: lz) (st) h = wps rm K Q c_Flat_fitPlane_51 kc ks (eg_set1 (l0 :: l1 :: l2 :: some (.int x) :: lz) 3 (.int (x + (1)))) (st) h := gk_iinc rfl (by decide)
theorem s_Flat_fitPlane_51  : wps rm K Q c_Flat_fitPlane_51 kc ks loc (st) h = K 7 kc ks loc st h := gk_goto
theorem s_Flat_fitPlane_54 {x : Nat} {l : eg_Lo} : wps rm K Q c_Flat_fitPlane_54 kc ks (some (.ref x) :: l) (st) h = wps rm K Q c_Flat_fitPlane_55 kc ks (some (.ref x) :: l) (.ref x :: st) h := gk_aload rfl
theorem s_Flat_fitPlane_55 {x : Nat} : wps rm K Q c_Flat_fitPlane_55 kc ks loc (.ref (x + 1) :: st) h = eg_gf h x 3 4 (fun v => wps rm K Q c_Flat_fitPlane_58 kc ks loc (v :: st) h) := gk_gf
theorem s_Flat_fitPlane_58 {x : Int32} : wps rm K Q c_Flat_fitPlane_58 kc ks loc (.int x :: st) h = ((x = 0 → K 90 kc ks loc st h) ∧ (¬ x = 0 → wps rm K Q c_Flat_fitPlane_61 kc ks loc (st) h)) := gk_if1_eq
theorem s_Flat_fitPlane_61 {x : Nat} {l0 l1 : Option Value} {l : eg_Lo} : wps rm K Q c_Flat_fitPlane_61 kc ks (l0 :: l1 :: some (.ref x) :: l) (st) h = wps rm K Q c_Flat_fitPlane_62 kc ks (l0 :: l1 :: some (.ref x) :: l) (.ref x :: st) h := gk_aload rfl
theorem s_Flat_fitPlane_62 {x : Nat} {l : eg_Lo} : wps rm K Q c_Flat_fitPlane_62 kc ks (some (.ref x) :: l) (st) h = wps rm K Q c_Flat_fitPlane_63 kc ks (some (.ref x) :: l) (.ref x :: st) h := gk_aload rfl
theorem s_Flat_fitPlane_63 {x : Nat} : wps rm K Q c_Flat_fitPlane_63 kc ks loc (.ref (x + 1) :: st) h = eg_gf h x 3 2 (fun v => wps rm K Q c_Flat_fitPlane_66 kc ks loc (v :: st) h) := gk_gf
theorem s_Flat_fitPlane_66  : wps rm K Q c_Flat_fitPlane_66 kc ks loc (st) h = wps rm K Q c_Flat_fitPlane_67 kc ks loc (.int (0) :: st) h := gk_ic (by decide)
theorem s_Flat_fitPlane_67 {x : Nat} {i : Int32} : wps rm K Q c_Flat_fitPlane_67 kc ks loc (.int i :: .ref (x + 1) :: st) h = eg_la h x i (fun v => wps rm K Q c_Flat_fitPlane_68 kc ks loc (.long v :: st) h) := gk_laload
theorem s_Flat_fitPlane_68 {x : Nat} {l : eg_Lo} : wps rm K Q c_Flat_fitPlane_68 kc ks (some (.ref x) :: l) (st) h = wps rm K Q c_Flat_fitPlane_69 kc ks (some (.ref x) :: l) (.ref x :: st) h := gk_aload rfl
theorem s_Flat_fitPlane_69 {x : Nat} : wps rm K Q c_Flat_fitPlane_69 kc ks loc (.ref (x + 1) :: st) h = eg_gf h x 3 2 (fun v => wps rm K Q c_Flat_fitPlane_72 kc ks loc (v :: st) h) := gk_gf
theorem s_Flat_fitPlane_72  : wps rm K Q c_Flat_fitPlane_72 kc ks loc (st) h = wps rm K Q c_Flat_fitPlane_73 kc ks loc (.int (1) :: st) h := gk_ic (by decide)
theorem s_Flat_fitPlane_73 {x : Nat} {i : Int32} : wps rm K Q c_Flat_fitPlane_73 kc ks loc (.int i :: .ref (x + 1) :: st) h = eg_la h x i (fun v => wps rm K Q c_Flat_fitPlane_74 kc ks loc (.long v :: st) h) := gk_laload
theorem s_Flat_fitPlane_74 {x : Nat} {l : eg_Lo} : wps rm K Q c_Flat_fitPlane_74 kc ks (some (.ref x) :: l) (st) h = wps rm K Q c_Flat_fitPlane_75 kc ks (some (.ref x) :: l) (.ref x :: st) h := gk_aload rfl
theorem s_Flat_fitPlane_75 {x : Nat} : wps rm K Q c_Flat_fitPlane_75 kc ks loc (.ref (x + 1) :: st) h = eg_gf h x 3 2 (fun v => wps rm K Q c_Flat_fitPlane_78 kc ks loc (v :: st) h) := gk_gf
theorem s_Flat_fitPlane_78  : wps rm K Q c_Flat_fitPlane_78 kc ks loc (st) h = wps rm K Q c_Flat_fitPlane_79 kc ks loc (.int (2) :: st) h := gk_ic (by decide)
theorem s_Flat_fitPlane_79 {x : Nat} {i : Int32} : wps rm K Q c_Flat_fitPlane_79 kc ks loc (.int i :: .ref (x + 1) :: st) h = eg_la h x i (fun v => wps rm K Q c_Flat_fitPlane_80 kc ks loc (.long v :: st) h) := gk_laload
theorem s_Flat_fitPlane_80  {a1 : Value} {a2 : Value} {a3 : Value} {x : Nat} : wps rm K Q c_Flat_fitPlane_80 kc ks loc (a3 :: a2 :: a1 :: .ref (x + 1) :: st) h = (eg_cls h x 2 ∧ st.length ≤ 4 ∧ eg_Cs n_Fig_setDirection (.ref (x + 1) :: [a1, a2, a3]) h (fun v h9 => wps rm K Q c_Flat_fitPlane_83 kc ks loc (v.toList ++ st) h9)) := eg_c1_3
theorem s_Flat_fitPlane_83 {x : Nat} {l : eg_Lo} : wps rm K Q c_Flat_fitPlane_83 kc ks (some (.ref x) :: l) (st) h = wps rm K Q c_Flat_fitPlane_84 kc ks (some (.ref x) :: l) (.ref x :: st) h := gk_aload rfl
theorem s_Flat_fitPlane_84 {x : Nat} {l0 l1 : Option Value} {l : eg_Lo} : wps rm K Q c_Flat_fitPlane_84 kc ks (l0 :: l1 :: some (.ref x) :: l) (st) h = wps rm K Q c_Flat_fitPlane_85 kc ks (l0 :: l1 :: some (.ref x) :: l) (.ref x :: st) h := gk_aload rfl
theorem s_Flat_fitPlane_85  : wps rm K Q c_Flat_fitPlane_85 kc ks loc (st) h = wps rm K Q c_Flat_fitPlane_86 kc ks loc (.int (3) :: st) h := gk_ic (by decide)
theorem s_Flat_fitPlane_86  : wps rm K Q c_Flat_fitPlane_86 kc ks loc (st) h = wps rm K Q c_Flat_fitPlane_87 kc ks loc (.int (4) :: st) h := gk_ic (by decide)
theorem s_Flat_fitPlane_87  {a1 : Value} {a2 : Value} {a3 : Value} {x : Nat} : wps rm K Q c_Flat_fitPlane_87 kc ks loc (a3 :: a2 :: a1 :: .ref (x + 1) :: st) h = (eg_cls h x 3 ∧ st.length ≤ 4 ∧ eg_Cs n_Flat_finish (.ref (x + 1) :: [a1, a2, a3]) h (fun v h9 => wps rm K Q c_Flat_fitPlane_90 kc ks loc (v.toList ++ st) h9)) := eg_c1_3
theorem s_Flat_fitPlane_90 {x : Nat} {l : eg_Lo} : wps rm K Q c_Flat_fitPlane_90 kc ks (some (.ref x) :: l) (st) h = wps rm K Q c_Flat_fitPlane_91 kc ks (some (.ref x) :: l) (.ref x :: st) h := gk_aload rfl
theorem s_Flat_fitPlane_91 {x : Nat} : wps rm K Q c_Flat_fitPlane_91 kc ks loc (.ref (x + 1) :: st) h = eg_gf h x 3 4 (fun v => wps rm K Q c_Flat_fitPlane_94 kc ks loc (v :: st) h) := gk_gf
theorem s_Flat_fitPlane_94 {x : Int32} : wps rm K Q c_Flat_fitPlane_94 kc ks loc ([.int x]) h = (kc = rm.cells ∧ ((1 : Nat) = 1 → x = 0 ∨ x = 1) ∧ Q (some (.int x)) h) := gk_iret
theorem sz_Flat_fitPlane_7 : wps rm K Q z_Flat_fitPlane_7 kc ks loc st h = K 7 kc ks loc st h := gk_nop
theorem sz_Flat_fitPlane_23 : wps rm K Q z_Flat_fitPlane_23 kc ks loc st h = K 23 kc ks loc st h := gk_nop
def T_Flat_fitPlane : List (Nat × List eg_I) := [(48, c_Flat_fitPlane_48), (54, c_Flat_fitPlane_54), (90, c_Flat_fitPlane_90)]
theorem j_Flat_fitPlane_48 {R : Nat → Nat → Nat → eg_Lo → List Value → List eg_E → Prop} {f pc0 : Nat} : eg_run rm R Q T_Flat_fitPlane (f + 1) 48 kc ks loc st h = wps rm (eg_run rm R Q T_Flat_fitPlane f) Q c_Flat_fitPlane_48 kc ks loc st h := rfl
theorem j_Flat_fitPlane_54 {R : Nat → Nat → Nat → eg_Lo → List Value → List eg_E → Prop} {f pc0 : Nat} : eg_run rm R Q T_Flat_fitPlane (f + 1) 54 kc ks loc st h = wps rm (eg_run rm R Q T_Flat_fitPlane f) Q c_Flat_fitPlane_54 kc ks loc st h := rfl
theorem j_Flat_fitPlane_90 {R : Nat → Nat → Nat → eg_Lo → List Value → List eg_E → Prop} {f pc0 : Nat} : eg_run rm R Q T_Flat_fitPlane (f + 1) 90 kc ks loc st h = wps rm (eg_run rm R Q T_Flat_fitPlane f) Q c_Flat_fitPlane_90 kc ks loc st h := rfl
theorem j_Flat_fitPlane_7 {R : Nat → Nat → Nat → eg_Lo → List Value → List eg_E → Prop} {f pc0 : Nat} : eg_run rm R Q T_Flat_fitPlane (f + 1) 7 kc ks loc st h = R 7 kc ks loc st h := rfl
theorem j_Flat_fitPlane_23 {R : Nat → Nat → Nat → eg_Lo → List Value → List eg_E → Prop} {f pc0 : Nat} : eg_run rm R Q T_Flat_fitPlane (f + 1) 23 kc ks loc st h = R 23 kc ks loc st h := rfl
end
theorem y_Flat_fitPlane_0 : eg_seq m_Flat_fitPlane 0 c_Flat_fitPlane_0 = true := by decide +kernel
theorem y_Flat_fitPlane_7 : eg_seq m_Flat_fitPlane 7 c_Flat_fitPlane_7 = true := by decide +kernel
theorem y_Flat_fitPlane_23 : eg_seq m_Flat_fitPlane 23 c_Flat_fitPlane_23 = true := by decide +kernel
theorem y_Flat_fitPlane_48 : eg_seq m_Flat_fitPlane 48 c_Flat_fitPlane_48 = true := by decide +kernel
theorem y_Flat_fitPlane_54 : eg_seq m_Flat_fitPlane 54 c_Flat_fitPlane_54 = true := by decide +kernel
theorem q_Flat_fitPlane : ∀ q ∈ T_Flat_fitPlane, eg_seq m_Flat_fitPlane q.1 q.2 = true := by
  intro q hq
  simp only [T_Flat_fitPlane, List.mem_cons, List.not_mem_nil, or_false] at hq
  rcases hq with rfl | rfl | rfl
  · exact y_Flat_fitPlane_48
  · exact y_Flat_fitPlane_54
  · exact (eg_seq_drop y_Flat_fitPlane_54 22 : eg_seq m_Flat_fitPlane 90 c_Flat_fitPlane_90 = true)
theorem b_Flat_fitPlane {as : List Value} {h : List eg_E} {Q : Option Value → List eg_E → Prop} (hf : (eg_fl as).length ≤ 5) (hw : wps (eg_rm m_Flat_fitPlane) (eg_run (eg_rm m_Flat_fitPlane) (eg_R m_Flat_fitPlane Q (h.length + 0)) Q T_Flat_fitPlane 5) Q c_Flat_fitPlane_0 0 0 (eg_entry 5 as) [] h) : eg_Runs n_Flat_fitPlane as h Q := eg_begin2 (d := m_Flat_fitPlane) rfl (by decide) y_Flat_fitPlane_0 q_Flat_fitPlane hf hw
theorem p_Flat_fitPlane_7 {Q : Option Value → List eg_E → Prop} {n0 kc ks : Nat} {loc : eg_Lo} {st : List Value} {h : List eg_E} (hw : wps (eg_rm m_Flat_fitPlane) (eg_run (eg_rm m_Flat_fitPlane) (eg_R m_Flat_fitPlane Q n0) Q T_Flat_fitPlane 5) Q c_Flat_fitPlane_7 kc ks loc st h) : eg_R m_Flat_fitPlane Q n0 7 kc ks loc st h := eg_go2 y_Flat_fitPlane_7 q_Flat_fitPlane hw
theorem p_Flat_fitPlane_23 {Q : Option Value → List eg_E → Prop} {n0 kc ks : Nat} {loc : eg_Lo} {st : List Value} {h : List eg_E} (hw : wps (eg_rm m_Flat_fitPlane) (eg_run (eg_rm m_Flat_fitPlane) (eg_R m_Flat_fitPlane Q n0) Q T_Flat_fitPlane 5) Q c_Flat_fitPlane_23 kc ks loc st h) : eg_R m_Flat_fitPlane Q n0 23 kc ks loc st h := eg_go2 y_Flat_fitPlane_23 q_Flat_fitPlane hw
/-! ===== Flat_start ===== -/
def c_Flat_start_13 : List eg_I := .inl (13, 1, .return_, 0, 0) :: []
def c_Flat_start_10 : List eg_I := .inl (10, 3, .putstatic 51, 3, 4) :: c_Flat_start_13
def c_Flat_start_9 : List eg_I := .inl (9, 1, .iconst (0), 0, 0) :: c_Flat_start_10
def c_Flat_start_8 : List eg_I := .inl (8, 1, .aload 0, 0, 0) :: c_Flat_start_9
def c_Flat_start_5 : List eg_I := .inr (5, 1, 69, n_Tou_gather, 1, 10, 0, 0) :: c_Flat_start_8
def c_Flat_start_4 : List eg_I := .inl (4, 1, .aload 1, 0, 0) :: c_Flat_start_5
def c_Flat_start_1 : List eg_I := .inl (1, 3, .getfield 12, 3, 0) :: c_Flat_start_4
def c_Flat_start_0 : List eg_I := .inl (0, 1, .aload 0, 0, 0) :: c_Flat_start_1
section
variable {rm : Room} {K : Nat → Nat → Nat → eg_Lo → List Value → List eg_E → Prop} {Q : Option Value → List eg_E → Prop} {kc ks : Nat} {loc : eg_Lo} {st : List Value} {h : List eg_E}
theorem s_Flat_start_0 {x : Nat} {l : eg_Lo} : wps rm K Q c_Flat_start_0 kc ks (some (.ref x) :: l) (st) h = wps rm K Q c_Flat_start_1 kc ks (some (.ref x) :: l) (.ref x :: st) h := gk_aload rfl
theorem s_Flat_start_1 {x : Nat} : wps rm K Q c_Flat_start_1 kc ks loc (.ref (x + 1) :: st) h = eg_gf h x 3 0 (fun v => wps rm K Q c_Flat_start_4 kc ks loc (v :: st) h) := gk_gf
theorem s_Flat_start_4 {x : Nat} {l0 : Option Value} {l : eg_Lo} : wps rm K Q c_Flat_start_4 kc ks (l0 :: some (.ref x) :: l) (st) h = wps rm K Q c_Flat_start_5 kc ks (l0 :: some (.ref x) :: l) (.ref x :: st) h := gk_aload rfl
theorem s_Flat_start_5  {a1 : Value} {x : Nat} : wps rm K Q c_Flat_start_5 kc ks loc (a1 :: .ref (x + 1) :: st) h = (eg_cls h x 10 ∧ st.length ≤ 4 ∧ eg_Cs n_Tou_gather (.ref (x + 1) :: [a1]) h (fun v h9 => wps rm K Q c_Flat_start_8 kc ks loc (v.toList ++ st) h9)) := eg_c1_1
theorem s_Flat_start_8 {x : Nat} {l : eg_Lo} : wps rm K Q c_Flat_start_8 kc ks (some (.ref x) :: l) (st) h = wps rm K Q c_Flat_start_9 kc ks (some (.ref x) :: l) (.ref x :: st) h := gk_aload rfl
theorem s_Flat_start_9  : wps rm K Q c_Flat_start_9 kc ks loc (st) h = wps rm K Q c_Flat_start_10 kc ks loc (.int (0) :: st) h := gk_ic (by decide)
theorem s_Flat_start_10 {x : Nat} {v : Int32} : wps rm K Q c_Flat_start_10 kc ks loc (.int v :: .ref (x + 1) :: st) h = eg_pb h x 3 4 v (fun h9 => wps rm K Q c_Flat_start_13 kc ks loc (st) h9) := gk_pb
theorem s_Flat_start_13  : wps rm K Q c_Flat_start_13 kc ks loc ([]) h = (kc = rm.cells ∧ Q none h) := gk_vret
def T_Flat_start : List (Nat × List eg_I) := []
end
theorem y_Flat_start_0 : eg_seq m_Flat_start 0 c_Flat_start_0 = true := by decide +kernel
theorem q_Flat_start : ∀ q ∈ T_Flat_start, eg_seq m_Flat_start q.1 q.2 = true := by
  intro q hq
  cases hq
theorem b_Flat_start {as : List Value} {h : List eg_E} {Q : Option Value → List eg_E → Prop} (hf : (eg_fl as).length ≤ 2) (hw : wps (eg_rm m_Flat_start) (eg_run (eg_rm m_Flat_start) (eg_R m_Flat_start Q (h.length + 0)) Q T_Flat_start 2) Q c_Flat_start_0 0 0 (eg_entry 2 as) [] h) : eg_Runs n_Flat_start as h Q := eg_begin2 (d := m_Flat_start) rfl (by decide) y_Flat_start_0 q_Flat_start hf hw
/-! ===== Flat_trySecondPairs ===== -/
def z_Flat_trySecondPairs_2 : List eg_I := [.inl (2, 0, .nop, 0, 0)]
def z_Flat_trySecondPairs_29 : List eg_I := [.inl (29, 0, .nop, 0, 0)]
def c_Flat_trySecondPairs_85 : List eg_I := .inl (85, 1, .return_, 0, 0) :: []
def c_Flat_trySecondPairs_82 : List eg_I := .inl (82, 3, .goto (-80), 2, 0) :: []
def c_Flat_trySecondPairs_79 : List eg_I := .inl (79, 3, .iinc 3 (1), 0, 0) :: c_Flat_trySecondPairs_82
def c_Flat_trySecondPairs_76 : List eg_I := .inl (76, 3, .goto (-47), 29, 0) :: []
def c_Flat_trySecondPairs_73 : List eg_I := .inl (73, 3, .iinc 4 (1), 0, 0) :: c_Flat_trySecondPairs_76
def c_Flat_trySecondPairs_70 : List eg_I := .inr (70, 1, 47, n_Flat_hold, 3, 3, 0, 0) :: c_Flat_trySecondPairs_73
def c_Flat_trySecondPairs_68 : List eg_I := .inl (68, 2, .iload 4, 0, 0) :: c_Flat_trySecondPairs_70
def c_Flat_trySecondPairs_67 : List eg_I := .inl (67, 1, .iload 3, 0, 0) :: c_Flat_trySecondPairs_68
def c_Flat_trySecondPairs_66 : List eg_I := .inl (66, 1, .iconst (2), 0, 0) :: c_Flat_trySecondPairs_67
def c_Flat_trySecondPairs_65 : List eg_I := .inl (65, 1, .aload 0, 0, 0) :: c_Flat_trySecondPairs_66
def c_Flat_trySecondPairs_62 : List eg_I := .inr (62, 1, 47, n_Flat_hold, 3, 3, 0, 0) :: c_Flat_trySecondPairs_65
def c_Flat_trySecondPairs_61 : List eg_I := .inl (61, 1, .iload 2, 0, 0) :: c_Flat_trySecondPairs_62
def c_Flat_trySecondPairs_60 : List eg_I := .inl (60, 1, .iload 1, 0, 0) :: c_Flat_trySecondPairs_61
def c_Flat_trySecondPairs_59 : List eg_I := .inl (59, 1, .iconst (0), 0, 0) :: c_Flat_trySecondPairs_60
def c_Flat_trySecondPairs_58 : List eg_I := .inl (58, 1, .aload 0, 0, 0) :: c_Flat_trySecondPairs_59
def c_Flat_trySecondPairs_55 : List eg_I := .inl (55, 3, .ifCond .eq (18), 73, 0) :: c_Flat_trySecondPairs_58
def c_Flat_trySecondPairs_52 : List eg_I := .inr (52, 1, 43, n_Flat_isBetter, 1, 3, 0, 0) :: c_Flat_trySecondPairs_55
def c_Flat_trySecondPairs_51 : List eg_I := .inl (51, 1, .iload 1, 0, 0) :: c_Flat_trySecondPairs_52
def c_Flat_trySecondPairs_50 : List eg_I := .inl (50, 1, .aload 0, 0, 0) :: c_Flat_trySecondPairs_51
def c_Flat_trySecondPairs_47 : List eg_I := .inr (47, 1, 72, n_Flat_crossProduct, 4, 3, 0, 0) :: c_Flat_trySecondPairs_50
def c_Flat_trySecondPairs_45 : List eg_I := .inl (45, 2, .iload 4, 0, 0) :: c_Flat_trySecondPairs_47
def c_Flat_trySecondPairs_44 : List eg_I := .inl (44, 1, .iload 3, 0, 0) :: c_Flat_trySecondPairs_45
def c_Flat_trySecondPairs_43 : List eg_I := .inl (43, 1, .iload 2, 0, 0) :: c_Flat_trySecondPairs_44
def c_Flat_trySecondPairs_42 : List eg_I := .inl (42, 1, .iload 1, 0, 0) :: c_Flat_trySecondPairs_43
def c_Flat_trySecondPairs_41 : List eg_I := .inl (41, 1, .aload 0, 0, 0) :: c_Flat_trySecondPairs_42
def c_Flat_trySecondPairs_38 : List eg_I := .inl (38, 3, .if_icmp .ge (41), 79, 0) :: c_Flat_trySecondPairs_41
def c_Flat_trySecondPairs_35 : List eg_I := .inl (35, 3, .getfield 33, 10, 4) :: c_Flat_trySecondPairs_38
def c_Flat_trySecondPairs_32 : List eg_I := .inl (32, 3, .getfield 12, 3, 0) :: c_Flat_trySecondPairs_35
def c_Flat_trySecondPairs_31 : List eg_I := .inl (31, 1, .aload 0, 0, 0) :: c_Flat_trySecondPairs_32
def c_Flat_trySecondPairs_29 : List eg_I := .inl (29, 2, .iload 4, 0, 0) :: c_Flat_trySecondPairs_31
def c_Flat_trySecondPairs_27 : List eg_I := .inl (27, 2, .istore 4, 0, 0) :: z_Flat_trySecondPairs_29
def c_Flat_trySecondPairs_26 : List eg_I := .inl (26, 1, .iadd, 0, 0) :: c_Flat_trySecondPairs_27
def c_Flat_trySecondPairs_25 : List eg_I := .inl (25, 1, .iconst (1), 0, 0) :: c_Flat_trySecondPairs_26
def c_Flat_trySecondPairs_24 : List eg_I := .inl (24, 1, .iload 3, 0, 0) :: c_Flat_trySecondPairs_25
def c_Flat_trySecondPairs_21 : List eg_I := .inl (21, 3, .goto (6), 27, 0) :: []
def c_Flat_trySecondPairs_20 : List eg_I := .inl (20, 1, .iadd, 0, 0) :: c_Flat_trySecondPairs_21
def c_Flat_trySecondPairs_19 : List eg_I := .inl (19, 1, .iconst (1), 0, 0) :: c_Flat_trySecondPairs_20
def c_Flat_trySecondPairs_18 : List eg_I := .inl (18, 1, .iload 2, 0, 0) :: c_Flat_trySecondPairs_19
def c_Flat_trySecondPairs_15 : List eg_I := .inl (15, 3, .if_icmp .ne (9), 24, 0) :: c_Flat_trySecondPairs_18
def c_Flat_trySecondPairs_14 : List eg_I := .inl (14, 1, .iload 1, 0, 0) :: c_Flat_trySecondPairs_15
def c_Flat_trySecondPairs_13 : List eg_I := .inl (13, 1, .iload 3, 0, 0) :: c_Flat_trySecondPairs_14
def c_Flat_trySecondPairs_10 : List eg_I := .inl (10, 3, .if_icmp .ge (75), 85, 0) :: c_Flat_trySecondPairs_13
def c_Flat_trySecondPairs_7 : List eg_I := .inl (7, 3, .getfield 33, 10, 4) :: c_Flat_trySecondPairs_10
def c_Flat_trySecondPairs_4 : List eg_I := .inl (4, 3, .getfield 12, 3, 0) :: c_Flat_trySecondPairs_7
def c_Flat_trySecondPairs_3 : List eg_I := .inl (3, 1, .aload 0, 0, 0) :: c_Flat_trySecondPairs_4
def c_Flat_trySecondPairs_2 : List eg_I := .inl (2, 1, .iload 3, 0, 0) :: c_Flat_trySecondPairs_3
def c_Flat_trySecondPairs_1 : List eg_I := .inl (1, 1, .istore 3, 0, 0) :: z_Flat_trySecondPairs_2
def c_Flat_trySecondPairs_0 : List eg_I := .inl (0, 1, .iload 1, 0, 0) :: c_Flat_trySecondPairs_1
section
variable {rm : Room} {K : Nat → Nat → Nat → eg_Lo → List Value → List eg_E → Prop} {Q : Option Value → List eg_E → Prop} {kc ks : Nat} {loc : eg_Lo} {st : List Value} {h : List eg_E}
theorem s_Flat_trySecondPairs_0 {x : Int32} {l0 : Option Value} {l : eg_Lo} : wps rm K Q c_Flat_trySecondPairs_0 kc ks (l0 :: some (.int x) :: l) (st) h = wps rm K Q c_Flat_trySecondPairs_1 kc ks (l0 :: some (.int x) :: l) (.int x :: st) h := gk_iload rfl
theorem s_Flat_trySecondPairs_1 {x : Int32} : wps rm K Q c_Flat_trySecondPairs_1 kc ks loc (.int x :: st) h = wps rm K Q z_Flat_trySecondPairs_2 kc ks (eg_set1 loc 3 (.int x)) (st) h := gk_istore
theorem s_Flat_trySecondPairs_2 {x : Int32} {l0 l1 l2 : Option Value} {l : eg_Lo} : wps rm K Q c_Flat_trySecondPairs_2 kc ks (l0 :: l1 :: l2 :: some (.int x) :: l) (st) h = wps rm K Q c_Flat_trySecondPairs_3 kc ks (l0 :: l1 :: l2 :: some (.int x) :: l) (.int x :: st) h := gk_iload rfl
theorem s_Flat_trySecondPairs_3 {x : Nat} {l : eg_Lo} : wps rm K Q c_Flat_trySecondPairs_3 kc ks (some (.ref x) :: l) (st) h = wps rm K Q c_Flat_trySecondPairs_4 kc ks (some (.ref x) :: l) (.ref x :: st) h := gk_aload rfl
theorem s_Flat_trySecondPairs_4 {x : Nat} : wps rm K Q c_Flat_trySecondPairs_4 kc ks loc (.ref (x + 1) :: st) h = eg_gf h x 3 0 (fun v => wps rm K Q c_Flat_trySecondPairs_7 kc ks loc (v :: st) h) := gk_gf
theorem s_Flat_trySecondPairs_7 {x : Nat} : wps rm K Q c_Flat_trySecondPairs_7 kc ks loc (.ref (x + 1) :: st) h = eg_gf h x 10 4 (fun v => wps rm K Q c_Flat_trySecondPairs_10 kc ks loc (v :: st) h) := gk_gf
theorem s_Flat_trySecondPairs_10 {x y : Int32} : wps rm K Q c_Flat_trySecondPairs_10 kc ks loc (.int y :: .int x :: st) h = ((y ≤ x → K 85 kc ks loc st h) ∧ (¬ y ≤ x → wps rm K Q c_Flat_trySecondPairs_13 kc ks loc (st) h)) := gk_if2_ge
theorem s_Flat_trySecondPairs_13 {x : Int32} {l0 l1 l2 : Option Value} {l : eg_Lo} : wps rm K Q c_Flat_trySecondPairs_13 kc ks (l0 :: l1 :: l2 :: some (.int x) :: l) (st) h = wps rm K Q c_Flat_trySecondPairs_14 kc ks (l0 :: l1 :: l2 :: some (.int x) :: l) (.int x :: st) h := gk_iload rfl
theorem s_Flat_trySecondPairs_14 {x : Int32} {l0 : Option Value} {l : eg_Lo} : wps rm K Q c_Flat_trySecondPairs_14 kc ks (l0 :: some (.int x) :: l) (st) h = wps rm K Q c_Flat_trySecondPairs_15 kc ks (l0 :: some (.int x) :: l) (.int x :: st) h := gk_iload rfl
theorem s_Flat_trySecondPairs_15 {x y : Int32} : wps rm K Q c_Flat_trySecondPairs_15 kc ks loc (.int y :: .int x :: st) h = ((¬ x = y → K 24 kc ks loc st h) ∧ (x = y → wps rm K Q c_Flat_trySecondPairs_18 kc ks loc (st) h)) := gk_if2_ne
theorem s_Flat_trySecondPairs_18 {x : Int32} {l0 l1 : Option Value} {l : eg_Lo} : wps rm K Q c_Flat_trySecondPairs_18 kc ks (l0 :: l1 :: some (.int x) :: l) (st) h = wps rm K Q c_Flat_trySecondPairs_19 kc ks (l0 :: l1 :: some (.int x) :: l) (.int x :: st) h := gk_iload rfl
theorem s_Flat_trySecondPairs_19  : wps rm K Q c_Flat_trySecondPairs_19 kc ks loc (st) h = wps rm K Q c_Flat_trySecondPairs_20 kc ks loc (.int (1) :: st) h := gk_ic (by decide)
theorem s_Flat_trySecondPairs_20 {x y : Int32} : wps rm K Q c_Flat_trySecondPairs_20 kc ks loc (.int y :: .int x :: st) h = wps rm K Q c_Flat_trySecondPairs_21 kc ks loc (.int (x + y) :: st) h := gk_iadd
theorem s_Flat_trySecondPairs_21  : wps rm K Q c_Flat_trySecondPairs_21 kc ks loc (st) h = K 27 kc ks loc st h := gk_goto
theorem s_Flat_trySecondPairs_24 {x : Int32} {l0 l1 l2 : Option Value} {l : eg_Lo} : wps rm K Q c_Flat_trySecondPairs_24 kc ks (l0 :: l1 :: l2 :: some (.int x) :: l) (st) h = wps rm K Q c_Flat_trySecondPairs_25 kc ks (l0 :: l1 :: l2 :: some (.int x) :: l) (.int x :: st) h := gk_iload rfl
theorem s_Flat_trySecondPairs_25  : wps rm K Q c_Flat_trySecondPairs_25 kc ks loc (st) h = wps rm K Q c_Flat_trySecondPairs_26 kc ks loc (.int (1) :: st) h := gk_ic (by decide)
theorem s_Flat_trySecondPairs_26 {x y : Int32} : wps rm K Q c_Flat_trySecondPairs_26 kc ks loc (.int y :: .int x :: st) h = wps rm K Q c_Flat_trySecondPairs_27 kc ks loc (.int (x + y) :: st) h := gk_iadd
theorem s_Flat_trySecondPairs_27 {x : Int32} : wps rm K Q c_Flat_trySecondPairs_27 kc ks loc (.int x :: st) h = wps rm K Q z_Flat_trySecondPairs_29 kc ks (eg_set1 loc 4 (.int x)) (st) h := gk_istore
theorem s_Flat_trySecondPairs_29 {x : Int32} {l0 l1 l2 l3 : Option Value} {l : eg_Lo} : wps rm K Q c_Flat_trySecondPairs_29 kc ks (l0 :: l1 :: l2 :: l3 :: some (.int x) :: l) (st) h = wps rm K Q c_Flat_trySecondPairs_31 kc ks (l0 :: l1 :: l2 :: l3 :: some (.int x) :: l) (.int x :: st) h := gk_iload rfl
theorem s_Flat_trySecondPairs_31 {x : Nat} {l : eg_Lo} : wps rm K Q c_Flat_trySecondPairs_31 kc ks (some (.ref x) :: l) (st) h = wps rm K Q c_Flat_trySecondPairs_32 kc ks (some (.ref x) :: l) (.ref x :: st) h := gk_aload rfl
theorem s_Flat_trySecondPairs_32 {x : Nat} : wps rm K Q c_Flat_trySecondPairs_32 kc ks loc (.ref (x + 1) :: st) h = eg_gf h x 3 0 (fun v => wps rm K Q c_Flat_trySecondPairs_35 kc ks loc (v :: st) h) := gk_gf
theorem s_Flat_trySecondPairs_35 {x : Nat} : wps rm K Q c_Flat_trySecondPairs_35 kc ks loc (.ref (x + 1) :: st) h = eg_gf h x 10 4 (fun v => wps rm K Q c_Flat_trySecondPairs_38 kc ks loc (v :: st) h) := gk_gf
theorem s_Flat_trySecondPairs_38 {x y : Int32} : wps rm K Q c_Flat_trySecondPairs_38 kc ks loc (.int y :: .int x :: st) h = ((y ≤ x → K 79 kc ks loc st h) ∧ (¬ y ≤ x → wps rm K Q c_Flat_trySecondPairs_41 kc ks loc (st) h)) := gk_if2_ge
theorem s_Flat_trySecondPairs_41 {x : Nat} {l : eg_Lo} : wps rm K Q c_Flat_trySecondPairs_41 kc ks (some (.ref x) :: l) (st) h = wps rm K Q c_Flat_trySecondPairs_42 kc ks (some (.ref x) :: l) (.ref x :: st) h := gk_aload rfl
theorem s_Flat_trySecondPairs_42 {x : Int32} {l0 : Option Value} {l : eg_Lo} : wps rm K Q c_Flat_trySecondPairs_42 kc ks (l0 :: some (.int x) :: l) (st) h = wps rm K Q c_Flat_trySecondPairs_43 kc ks (l0 :: some (.int x) :: l) (.int x :: st) h := gk_iload rfl
theorem s_Flat_trySecondPairs_43 {x : Int32} {l0 l1 : Option Value} {l : eg_Lo} : wps rm K Q c_Flat_trySecondPairs_43 kc ks (l0 :: l1 :: some (.int x) :: l) (st) h = wps rm K Q c_Flat_trySecondPairs_44 kc ks (l0 :: l1 :: some (.int x) :: l) (.int x :: st) h := gk_iload rfl
theorem s_Flat_trySecondPairs_44 {x : Int32} {l0 l1 l2 : Option Value} {l : eg_Lo} : wps rm K Q c_Flat_trySecondPairs_44 kc ks (l0 :: l1 :: l2 :: some (.int x) :: l) (st) h = wps rm K Q c_Flat_trySecondPairs_45 kc ks (l0 :: l1 :: l2 :: some (.int x) :: l) (.int x :: st) h := gk_iload rfl
theorem s_Flat_trySecondPairs_45 {x : Int32} {l0 l1 l2 l3 : Option Value} {l : eg_Lo} : wps rm K Q c_Flat_trySecondPairs_45 kc ks (l0 :: l1 :: l2 :: l3 :: some (.int x) :: l) (st) h = wps rm K Q c_Flat_trySecondPairs_47 kc ks (l0 :: l1 :: l2 :: l3 :: some (.int x) :: l) (.int x :: st) h := gk_iload rfl
theorem s_Flat_trySecondPairs_47  {a1 : Value} {a2 : Value} {a3 : Value} {a4 : Value} {x : Nat} : wps rm K Q c_Flat_trySecondPairs_47 kc ks loc (a4 :: a3 :: a2 :: a1 :: .ref (x + 1) :: st) h = (eg_cls h x 3 ∧ st.length ≤ 4 ∧ eg_Cs n_Flat_crossProduct (.ref (x + 1) :: [a1, a2, a3, a4]) h (fun v h9 => wps rm K Q c_Flat_trySecondPairs_50 kc ks loc (v.toList ++ st) h9)) := eg_c1_4
theorem s_Flat_trySecondPairs_50 {x : Nat} {l : eg_Lo} : wps rm K Q c_Flat_trySecondPairs_50 kc ks (some (.ref x) :: l) (st) h = wps rm K Q c_Flat_trySecondPairs_51 kc ks (some (.ref x) :: l) (.ref x :: st) h := gk_aload rfl
theorem s_Flat_trySecondPairs_51 {x : Int32} {l0 : Option Value} {l : eg_Lo} : wps rm K Q c_Flat_trySecondPairs_51 kc ks (l0 :: some (.int x) :: l) (st) h = wps rm K Q c_Flat_trySecondPairs_52 kc ks (l0 :: some (.int x) :: l) (.int x :: st) h := gk_iload rfl
theorem s_Flat_trySecondPairs_52  {a1 : Value} {x : Nat} : wps rm K Q c_Flat_trySecondPairs_52 kc ks loc (a1 :: .ref (x + 1) :: st) h = (eg_cls h x 3 ∧ st.length ≤ 4 ∧ eg_Cs n_Flat_isBetter (.ref (x + 1) :: [a1]) h (fun v h9 => wps rm K Q c_Flat_trySecondPairs_55 kc ks loc (v.toList ++ st) h9)) := eg_c1_1
theorem s_Flat_trySecondPairs_55 {x : Int32} : wps rm K Q c_Flat_trySecondPairs_55 kc ks loc (.int x :: st) h = ((x = 0 → K 73 kc ks loc st h) ∧ (¬ x = 0 → wps rm K Q c_Flat_trySecondPairs_58 kc ks loc (st) h)) := gk_if1_eq
theorem s_Flat_trySecondPairs_58 {x : Nat} {l : eg_Lo} : wps rm K Q c_Flat_trySecondPairs_58 kc ks (some (.ref x) :: l) (st) h = wps rm K Q c_Flat_trySecondPairs_59 kc ks (some (.ref x) :: l) (.ref x :: st) h := gk_aload rfl
theorem s_Flat_trySecondPairs_59  : wps rm K Q c_Flat_trySecondPairs_59 kc ks loc (st) h = wps rm K Q c_Flat_trySecondPairs_60 kc ks loc (.int (0) :: st) h := gk_ic (by decide)
theorem s_Flat_trySecondPairs_60 {x : Int32} {l0 : Option Value} {l : eg_Lo} : wps rm K Q c_Flat_trySecondPairs_60 kc ks (l0 :: some (.int x) :: l) (st) h = wps rm K Q c_Flat_trySecondPairs_61 kc ks (l0 :: some (.int x) :: l) (.int x :: st) h := gk_iload rfl
theorem s_Flat_trySecondPairs_61 {x : Int32} {l0 l1 : Option Value} {l : eg_Lo} : wps rm K Q c_Flat_trySecondPairs_61 kc ks (l0 :: l1 :: some (.int x) :: l) (st) h = wps rm K Q c_Flat_trySecondPairs_62 kc ks (l0 :: l1 :: some (.int x) :: l) (.int x :: st) h := gk_iload rfl
theorem s_Flat_trySecondPairs_62  {a1 : Value} {a2 : Value} {a3 : Value} {x : Nat} : wps rm K Q c_Flat_trySecondPairs_62 kc ks loc (a3 :: a2 :: a1 :: .ref (x + 1) :: st) h = (eg_cls h x 3 ∧ st.length ≤ 4 ∧ eg_Cs n_Flat_hold (.ref (x + 1) :: [a1, a2, a3]) h (fun v h9 => wps rm K Q c_Flat_trySecondPairs_65 kc ks loc (v.toList ++ st) h9)) := eg_c1_3
theorem s_Flat_trySecondPairs_65 {x : Nat} {l : eg_Lo} : wps rm K Q c_Flat_trySecondPairs_65 kc ks (some (.ref x) :: l) (st) h = wps rm K Q c_Flat_trySecondPairs_66 kc ks (some (.ref x) :: l) (.ref x :: st) h := gk_aload rfl
theorem s_Flat_trySecondPairs_66  : wps rm K Q c_Flat_trySecondPairs_66 kc ks loc (st) h = wps rm K Q c_Flat_trySecondPairs_67 kc ks loc (.int (2) :: st) h := gk_ic (by decide)
theorem s_Flat_trySecondPairs_67 {x : Int32} {l0 l1 l2 : Option Value} {l : eg_Lo} : wps rm K Q c_Flat_trySecondPairs_67 kc ks (l0 :: l1 :: l2 :: some (.int x) :: l) (st) h = wps rm K Q c_Flat_trySecondPairs_68 kc ks (l0 :: l1 :: l2 :: some (.int x) :: l) (.int x :: st) h := gk_iload rfl
theorem s_Flat_trySecondPairs_68 {x : Int32} {l0 l1 l2 l3 : Option Value} {l : eg_Lo} : wps rm K Q c_Flat_trySecondPairs_68 kc ks (l0 :: l1 :: l2 :: l3 :: some (.int x) :: l) (st) h = wps rm K Q c_Flat_trySecondPairs_70 kc ks (l0 :: l1 :: l2 :: l3 :: some (.int x) :: l) (.int x :: st) h := gk_iload rfl
theorem s_Flat_trySecondPairs_70  {a1 : Value} {a2 : Value} {a3 : Value} {x : Nat} : wps rm K Q c_Flat_trySecondPairs_70 kc ks loc (a3 :: a2 :: a1 :: .ref (x + 1) :: st) h = (eg_cls h x 3 ∧ st.length ≤ 4 ∧ eg_Cs n_Flat_hold (.ref (x + 1) :: [a1, a2, a3]) h (fun v h9 => wps rm K Q c_Flat_trySecondPairs_73 kc ks loc (v.toList ++ st) h9)) := eg_c1_3
theorem s_Flat_trySecondPairs_73 {x : Int32} {l0 l1 l2 l3 : Option Value} {lz : eg_Lo} : wps rm K Q c_Flat_trySecondPairs_73 kc ks (l0 :: l1 :: l2 :: l3 :: some (.int x) :: lz) (st) h = wps rm K Q c_Flat_trySecondPairs_76 kc ks (eg_set1 (l0 :: l1 :: l2 :: l3 :: some (.int x) :: lz) 4 (.int (x + (1)))) (st) h := gk_iinc rfl (by decide)
theorem s_Flat_trySecondPairs_76  : wps rm K Q c_Flat_trySecondPairs_76 kc ks loc (st) h = K 29 kc ks loc st h := gk_goto
theorem s_Flat_trySecondPairs_79 {x : Int32} {l0 l1 l2 : Option Value} {lz : eg_Lo} : wps rm K Q c_Flat_trySecondPairs_79 kc ks (l0 :: l1 :: l2 :: some (.int x) :: lz) (st) h = wps rm K Q c_Flat_trySecondPairs_82 kc ks (eg_set1 (l0 :: l1 :: l2 :: some (.int x) :: lz) 3 (.int (x + (1)))) (st) h := gk_iinc rfl (by decide)
theorem s_Flat_trySecondPairs_82  : wps rm K Q c_Flat_trySecondPairs_82 kc ks loc (st) h = K 2 kc ks loc st h := gk_goto
theorem s_Flat_trySecondPairs_85  : wps rm K Q c_Flat_trySecondPairs_85 kc ks loc ([]) h = (kc = rm.cells ∧ Q none h) := gk_vret
theorem sz_Flat_trySecondPairs_2 : wps rm K Q z_Flat_trySecondPairs_2 kc ks loc st h = K 2 kc ks loc st h := gk_nop
theorem sz_Flat_trySecondPairs_29 : wps rm K Q z_Flat_trySecondPairs_29 kc ks loc st h = K 29 kc ks loc st h := gk_nop
def T_Flat_trySecondPairs : List (Nat × List eg_I) := [(24, c_Flat_trySecondPairs_24), (27, c_Flat_trySecondPairs_27), (73, c_Flat_trySecondPairs_73), (79, c_Flat_trySecondPairs_79), (85, c_Flat_trySecondPairs_85)]
theorem j_Flat_trySecondPairs_24 {R : Nat → Nat → Nat → eg_Lo → List Value → List eg_E → Prop} {f pc0 : Nat} : eg_run rm R Q T_Flat_trySecondPairs (f + 1) 24 kc ks loc st h = wps rm (eg_run rm R Q T_Flat_trySecondPairs f) Q c_Flat_trySecondPairs_24 kc ks loc st h := rfl
theorem j_Flat_trySecondPairs_27 {R : Nat → Nat → Nat → eg_Lo → List Value → List eg_E → Prop} {f pc0 : Nat} : eg_run rm R Q T_Flat_trySecondPairs (f + 1) 27 kc ks loc st h = wps rm (eg_run rm R Q T_Flat_trySecondPairs f) Q c_Flat_trySecondPairs_27 kc ks loc st h := rfl
theorem j_Flat_trySecondPairs_73 {R : Nat → Nat → Nat → eg_Lo → List Value → List eg_E → Prop} {f pc0 : Nat} : eg_run rm R Q T_Flat_trySecondPairs (f + 1) 73 kc ks loc st h = wps rm (eg_run rm R Q T_Flat_trySecondPairs f) Q c_Flat_trySecondPairs_73 kc ks loc st h := rfl
theorem j_Flat_trySecondPairs_79 {R : Nat → Nat → Nat → eg_Lo → List Value → List eg_E → Prop} {f pc0 : Nat} : eg_run rm R Q T_Flat_trySecondPairs (f + 1) 79 kc ks loc st h = wps rm (eg_run rm R Q T_Flat_trySecondPairs f) Q c_Flat_trySecondPairs_79 kc ks loc st h := rfl
theorem j_Flat_trySecondPairs_85 {R : Nat → Nat → Nat → eg_Lo → List Value → List eg_E → Prop} {f pc0 : Nat} : eg_run rm R Q T_Flat_trySecondPairs (f + 1) 85 kc ks loc st h = wps rm (eg_run rm R Q T_Flat_trySecondPairs f) Q c_Flat_trySecondPairs_85 kc ks loc st h := rfl
theorem j_Flat_trySecondPairs_2 {R : Nat → Nat → Nat → eg_Lo → List Value → List eg_E → Prop} {f pc0 : Nat} : eg_run rm R Q T_Flat_trySecondPairs (f + 1) 2 kc ks loc st h = R 2 kc ks loc st h := rfl
theorem j_Flat_trySecondPairs_29 {R : Nat → Nat → Nat → eg_Lo → List Value → List eg_E → Prop} {f pc0 : Nat} : eg_run rm R Q T_Flat_trySecondPairs (f + 1) 29 kc ks loc st h = R 29 kc ks loc st h := rfl
end
theorem y_Flat_trySecondPairs_0 : eg_seq m_Flat_trySecondPairs 0 c_Flat_trySecondPairs_0 = true := by decide +kernel
theorem y_Flat_trySecondPairs_2 : eg_seq m_Flat_trySecondPairs 2 c_Flat_trySecondPairs_2 = true := by decide +kernel
theorem y_Flat_trySecondPairs_24 : eg_seq m_Flat_trySecondPairs 24 c_Flat_trySecondPairs_24 = true := by decide +kernel
theorem y_Flat_trySecondPairs_29 : eg_seq m_Flat_trySecondPairs 29 c_Flat_trySecondPairs_29 = true := by decide +kernel
theorem y_Flat_trySecondPairs_79 : eg_seq m_Flat_trySecondPairs 79 c_Flat_trySecondPairs_79 = true := by decide +kernel
theorem y_Flat_trySecondPairs_85 : eg_seq m_Flat_trySecondPairs 85 c_Flat_trySecondPairs_85 = true := by decide +kernel
theorem q_Flat_trySecondPairs : ∀ q ∈ T_Flat_trySecondPairs, eg_seq m_Flat_trySecondPairs q.1 q.2 = true := by
  intro q hq
  simp only [T_Flat_trySecondPairs, List.mem_cons, List.not_mem_nil, or_false] at hq
  rcases hq with rfl | rfl | rfl | rfl | rfl
  · exact y_Flat_trySecondPairs_24
  · exact (eg_seq_drop y_Flat_trySecondPairs_24 3 : eg_seq m_Flat_trySecondPairs 27 c_Flat_trySecondPairs_27 = true)
  · exact (eg_seq_drop y_Flat_trySecondPairs_29 25 : eg_seq m_Flat_trySecondPairs 73 c_Flat_trySecondPairs_73 = true)
  · exact y_Flat_trySecondPairs_79
  · exact y_Flat_trySecondPairs_85
theorem b_Flat_trySecondPairs {as : List Value} {h : List eg_E} {Q : Option Value → List eg_E → Prop} (hf : (eg_fl as).length ≤ 5) (hw : wps (eg_rm m_Flat_trySecondPairs) (eg_run (eg_rm m_Flat_trySecondPairs) (eg_R m_Flat_trySecondPairs Q (h.length + 0)) Q T_Flat_trySecondPairs 7) Q c_Flat_trySecondPairs_0 0 0 (eg_entry 5 as) [] h) : eg_Runs n_Flat_trySecondPairs as h Q := eg_begin2 (d := m_Flat_trySecondPairs) rfl (by decide) y_Flat_trySecondPairs_0 q_Flat_trySecondPairs hf hw
theorem p_Flat_trySecondPairs_2 {Q : Option Value → List eg_E → Prop} {n0 kc ks : Nat} {loc : eg_Lo} {st : List Value} {h : List eg_E} (hw : wps (eg_rm m_Flat_trySecondPairs) (eg_run (eg_rm m_Flat_trySecondPairs) (eg_R m_Flat_trySecondPairs Q n0) Q T_Flat_trySecondPairs 7) Q c_Flat_trySecondPairs_2 kc ks loc st h) : eg_R m_Flat_trySecondPairs Q n0 2 kc ks loc st h := eg_go2 y_Flat_trySecondPairs_2 q_Flat_trySecondPairs hw
theorem p_Flat_trySecondPairs_29 {Q : Option Value → List eg_E → Prop} {n0 kc ks : Nat} {loc : eg_Lo} {st : List Value} {h : List eg_E} (hw : wps (eg_rm m_Flat_trySecondPairs) (eg_run (eg_rm m_Flat_trySecondPairs) (eg_R m_Flat_trySecondPairs Q n0) Q T_Flat_trySecondPairs 7) Q c_Flat_trySecondPairs_29 kc ks loc st h) : eg_R m_Flat_trySecondPairs Q n0 29 kc ks loc st h := eg_go2 y_Flat_trySecondPairs_29 q_Flat_trySecondPairs hw
/-! ===== Flat_crossProduct ===== -/
def c_Flat_crossProduct_186 : List eg_I := .inl (186, 1, .return_, 0, 0) :: []
def c_Flat_crossProduct_185 : List eg_I := .inl (185, 1, .lastore, 0, 0) :: c_Flat_crossProduct_186
def c_Flat_crossProduct_184 : List eg_I := .inl (184, 1, .lsub, 0, 0) :: c_Flat_crossProduct_185
def c_Flat_crossProduct_183 : List eg_I := .inl (183, 1, .lmul, 0, 0) :: c_Flat_crossProduct_184
def c_Flat_crossProduct_181 : List eg_I := .inl (181, 2, .lload 11, 0, 0) :: c_Flat_crossProduct_183
def c_Flat_crossProduct_179 : List eg_I := .inl (179, 2, .lload 7, 0, 0) :: c_Flat_crossProduct_181
def c_Flat_crossProduct_178 : List eg_I := .inl (178, 1, .lmul, 0, 0) :: c_Flat_crossProduct_179
def c_Flat_crossProduct_176 : List eg_I := .inl (176, 2, .lload 13, 0, 0) :: c_Flat_crossProduct_178
def c_Flat_crossProduct_174 : List eg_I := .inl (174, 2, .lload 5, 0, 0) :: c_Flat_crossProduct_176
def c_Flat_crossProduct_173 : List eg_I := .inl (173, 1, .iconst (2), 0, 0) :: c_Flat_crossProduct_174
def c_Flat_crossProduct_170 : List eg_I := .inl (170, 3, .getfield 18, 3, 1) :: c_Flat_crossProduct_173
def c_Flat_crossProduct_169 : List eg_I := .inl (169, 1, .aload 0, 0, 0) :: c_Flat_crossProduct_170
def c_Flat_crossProduct_168 : List eg_I := .inl (168, 1, .lastore, 0, 0) :: c_Flat_crossProduct_169
def c_Flat_crossProduct_167 : List eg_I := .inl (167, 1, .lsub, 0, 0) :: c_Flat_crossProduct_168
def c_Flat_crossProduct_166 : List eg_I := .inl (166, 1, .lmul, 0, 0) :: c_Flat_crossProduct_167
def c_Flat_crossProduct_164 : List eg_I := .inl (164, 2, .lload 15, 0, 0) :: c_Flat_crossProduct_166
def c_Flat_crossProduct_162 : List eg_I := .inl (162, 2, .lload 5, 0, 0) :: c_Flat_crossProduct_164
def c_Flat_crossProduct_161 : List eg_I := .inl (161, 1, .lmul, 0, 0) :: c_Flat_crossProduct_162
def c_Flat_crossProduct_159 : List eg_I := .inl (159, 2, .lload 11, 0, 0) :: c_Flat_crossProduct_161
def c_Flat_crossProduct_157 : List eg_I := .inl (157, 2, .lload 9, 0, 0) :: c_Flat_crossProduct_159
def c_Flat_crossProduct_156 : List eg_I := .inl (156, 1, .iconst (1), 0, 0) :: c_Flat_crossProduct_157
def c_Flat_crossProduct_153 : List eg_I := .inl (153, 3, .getfield 18, 3, 1) :: c_Flat_crossProduct_156
def c_Flat_crossProduct_152 : List eg_I := .inl (152, 1, .aload 0, 0, 0) :: c_Flat_crossProduct_153
def c_Flat_crossProduct_151 : List eg_I := .inl (151, 1, .lastore, 0, 0) :: c_Flat_crossProduct_152
def c_Flat_crossProduct_150 : List eg_I := .inl (150, 1, .lsub, 0, 0) :: c_Flat_crossProduct_151
def c_Flat_crossProduct_149 : List eg_I := .inl (149, 1, .lmul, 0, 0) :: c_Flat_crossProduct_150
def c_Flat_crossProduct_147 : List eg_I := .inl (147, 2, .lload 13, 0, 0) :: c_Flat_crossProduct_149
def c_Flat_crossProduct_145 : List eg_I := .inl (145, 2, .lload 9, 0, 0) :: c_Flat_crossProduct_147
def c_Flat_crossProduct_144 : List eg_I := .inl (144, 1, .lmul, 0, 0) :: c_Flat_crossProduct_145
def c_Flat_crossProduct_142 : List eg_I := .inl (142, 2, .lload 15, 0, 0) :: c_Flat_crossProduct_144
def c_Flat_crossProduct_140 : List eg_I := .inl (140, 2, .lload 7, 0, 0) :: c_Flat_crossProduct_142
def c_Flat_crossProduct_139 : List eg_I := .inl (139, 1, .iconst (0), 0, 0) :: c_Flat_crossProduct_140
def c_Flat_crossProduct_136 : List eg_I := .inl (136, 3, .getfield 18, 3, 1) :: c_Flat_crossProduct_139
def c_Flat_crossProduct_135 : List eg_I := .inl (135, 1, .aload 0, 0, 0) :: c_Flat_crossProduct_136
def c_Flat_crossProduct_133 : List eg_I := .inl (133, 2, .lstore 15, 0, 0) :: c_Flat_crossProduct_135
def c_Flat_crossProduct_132 : List eg_I := .inl (132, 1, .i2l, 0, 0) :: c_Flat_crossProduct_133
def c_Flat_crossProduct_131 : List eg_I := .inl (131, 1, .isub, 0, 0) :: c_Flat_crossProduct_132
def c_Flat_crossProduct_130 : List eg_I := .inl (130, 1, .iaload, 0, 0) :: c_Flat_crossProduct_131
def c_Flat_crossProduct_129 : List eg_I := .inl (129, 1, .iload 3, 0, 0) :: c_Flat_crossProduct_130
def c_Flat_crossProduct_126 : List eg_I := .inl (126, 3, .getfield 76, 10, 2) :: c_Flat_crossProduct_129
def c_Flat_crossProduct_123 : List eg_I := .inl (123, 3, .getfield 12, 3, 0) :: c_Flat_crossProduct_126
def c_Flat_crossProduct_122 : List eg_I := .inl (122, 1, .aload 0, 0, 0) :: c_Flat_crossProduct_123
def c_Flat_crossProduct_121 : List eg_I := .inl (121, 1, .iaload, 0, 0) :: c_Flat_crossProduct_122
def c_Flat_crossProduct_119 : List eg_I := .inl (119, 2, .iload 4, 0, 0) :: c_Flat_crossProduct_121
def c_Flat_crossProduct_116 : List eg_I := .inl (116, 3, .getfield 76, 10, 2) :: c_Flat_crossProduct_119
def c_Flat_crossProduct_113 : List eg_I := .inl (113, 3, .getfield 12, 3, 0) :: c_Flat_crossProduct_116
def c_Flat_crossProduct_112 : List eg_I := .inl (112, 1, .aload 0, 0, 0) :: c_Flat_crossProduct_113
def c_Flat_crossProduct_110 : List eg_I := .inl (110, 2, .lstore 13, 0, 0) :: c_Flat_crossProduct_112
def c_Flat_crossProduct_109 : List eg_I := .inl (109, 1, .i2l, 0, 0) :: c_Flat_crossProduct_110
def c_Flat_crossProduct_108 : List eg_I := .inl (108, 1, .isub, 0, 0) :: c_Flat_crossProduct_109
def c_Flat_crossProduct_107 : List eg_I := .inl (107, 1, .iaload, 0, 0) :: c_Flat_crossProduct_108
def c_Flat_crossProduct_106 : List eg_I := .inl (106, 1, .iload 3, 0, 0) :: c_Flat_crossProduct_107
def c_Flat_crossProduct_103 : List eg_I := .inl (103, 3, .getfield 37, 10, 1) :: c_Flat_crossProduct_106
def c_Flat_crossProduct_100 : List eg_I := .inl (100, 3, .getfield 12, 3, 0) :: c_Flat_crossProduct_103
def c_Flat_crossProduct_99 : List eg_I := .inl (99, 1, .aload 0, 0, 0) :: c_Flat_crossProduct_100
def c_Flat_crossProduct_98 : List eg_I := .inl (98, 1, .iaload, 0, 0) :: c_Flat_crossProduct_99
def c_Flat_crossProduct_96 : List eg_I := .inl (96, 2, .iload 4, 0, 0) :: c_Flat_crossProduct_98
def c_Flat_crossProduct_93 : List eg_I := .inl (93, 3, .getfield 37, 10, 1) :: c_Flat_crossProduct_96
def c_Flat_crossProduct_90 : List eg_I := .inl (90, 3, .getfield 12, 3, 0) :: c_Flat_crossProduct_93
def c_Flat_crossProduct_89 : List eg_I := .inl (89, 1, .aload 0, 0, 0) :: c_Flat_crossProduct_90
def c_Flat_crossProduct_87 : List eg_I := .inl (87, 2, .lstore 11, 0, 0) :: c_Flat_crossProduct_89
def c_Flat_crossProduct_86 : List eg_I := .inl (86, 1, .i2l, 0, 0) :: c_Flat_crossProduct_87
def c_Flat_crossProduct_85 : List eg_I := .inl (85, 1, .isub, 0, 0) :: c_Flat_crossProduct_86
def c_Flat_crossProduct_84 : List eg_I := .inl (84, 1, .iaload, 0, 0) :: c_Flat_crossProduct_85
def c_Flat_crossProduct_83 : List eg_I := .inl (83, 1, .iload 3, 0, 0) :: c_Flat_crossProduct_84
def c_Flat_crossProduct_80 : List eg_I := .inl (80, 3, .getfield 40, 10, 0) :: c_Flat_crossProduct_83
def c_Flat_crossProduct_77 : List eg_I := .inl (77, 3, .getfield 12, 3, 0) :: c_Flat_crossProduct_80
def c_Flat_crossProduct_76 : List eg_I := .inl (76, 1, .aload 0, 0, 0) :: c_Flat_crossProduct_77
def c_Flat_crossProduct_75 : List eg_I := .inl (75, 1, .iaload, 0, 0) :: c_Flat_crossProduct_76
def c_Flat_crossProduct_73 : List eg_I := .inl (73, 2, .iload 4, 0, 0) :: c_Flat_crossProduct_75
def c_Flat_crossProduct_70 : List eg_I := .inl (70, 3, .getfield 40, 10, 0) :: c_Flat_crossProduct_73
def c_Flat_crossProduct_67 : List eg_I := .inl (67, 3, .getfield 12, 3, 0) :: c_Flat_crossProduct_70
def c_Flat_crossProduct_66 : List eg_I := .inl (66, 1, .aload 0, 0, 0) :: c_Flat_crossProduct_67
def c_Flat_crossProduct_64 : List eg_I := .inl (64, 2, .lstore 9, 0, 0) :: c_Flat_crossProduct_66
def c_Flat_crossProduct_63 : List eg_I := .inl (63, 1, .i2l, 0, 0) :: c_Flat_crossProduct_64
def c_Flat_crossProduct_62 : List eg_I := .inl (62, 1, .isub, 0, 0) :: c_Flat_crossProduct_63
def c_Flat_crossProduct_61 : List eg_I := .inl (61, 1, .iaload, 0, 0) :: c_Flat_crossProduct_62
def c_Flat_crossProduct_60 : List eg_I := .inl (60, 1, .iload 1, 0, 0) :: c_Flat_crossProduct_61
def c_Flat_crossProduct_57 : List eg_I := .inl (57, 3, .getfield 76, 10, 2) :: c_Flat_crossProduct_60
def c_Flat_crossProduct_54 : List eg_I := .inl (54, 3, .getfield 12, 3, 0) :: c_Flat_crossProduct_57
def c_Flat_crossProduct_53 : List eg_I := .inl (53, 1, .aload 0, 0, 0) :: c_Flat_crossProduct_54
def c_Flat_crossProduct_52 : List eg_I := .inl (52, 1, .iaload, 0, 0) :: c_Flat_crossProduct_53
def c_Flat_crossProduct_51 : List eg_I := .inl (51, 1, .iload 2, 0, 0) :: c_Flat_crossProduct_52
def c_Flat_crossProduct_48 : List eg_I := .inl (48, 3, .getfield 76, 10, 2) :: c_Flat_crossProduct_51
def c_Flat_crossProduct_45 : List eg_I := .inl (45, 3, .getfield 12, 3, 0) :: c_Flat_crossProduct_48
def c_Flat_crossProduct_44 : List eg_I := .inl (44, 1, .aload 0, 0, 0) :: c_Flat_crossProduct_45
def c_Flat_crossProduct_42 : List eg_I := .inl (42, 2, .lstore 7, 0, 0) :: c_Flat_crossProduct_44
def c_Flat_crossProduct_41 : List eg_I := .inl (41, 1, .i2l, 0, 0) :: c_Flat_crossProduct_42
def c_Flat_crossProduct_40 : List eg_I := .inl (40, 1, .isub, 0, 0) :: c_Flat_crossProduct_41
def c_Flat_crossProduct_39 : List eg_I := .inl (39, 1, .iaload, 0, 0) :: c_Flat_crossProduct_40
def c_Flat_crossProduct_38 : List eg_I := .inl (38, 1, .iload 1, 0, 0) :: c_Flat_crossProduct_39
def c_Flat_crossProduct_35 : List eg_I := .inl (35, 3, .getfield 37, 10, 1) :: c_Flat_crossProduct_38
def c_Flat_crossProduct_32 : List eg_I := .inl (32, 3, .getfield 12, 3, 0) :: c_Flat_crossProduct_35
def c_Flat_crossProduct_31 : List eg_I := .inl (31, 1, .aload 0, 0, 0) :: c_Flat_crossProduct_32
def c_Flat_crossProduct_30 : List eg_I := .inl (30, 1, .iaload, 0, 0) :: c_Flat_crossProduct_31
def c_Flat_crossProduct_29 : List eg_I := .inl (29, 1, .iload 2, 0, 0) :: c_Flat_crossProduct_30
def c_Flat_crossProduct_26 : List eg_I := .inl (26, 3, .getfield 37, 10, 1) :: c_Flat_crossProduct_29
def c_Flat_crossProduct_23 : List eg_I := .inl (23, 3, .getfield 12, 3, 0) :: c_Flat_crossProduct_26
def c_Flat_crossProduct_22 : List eg_I := .inl (22, 1, .aload 0, 0, 0) :: c_Flat_crossProduct_23
def c_Flat_crossProduct_20 : List eg_I := .inl (20, 2, .lstore 5, 0, 0) :: c_Flat_crossProduct_22
def c_Flat_crossProduct_19 : List eg_I := .inl (19, 1, .i2l, 0, 0) :: c_Flat_crossProduct_20
def c_Flat_crossProduct_18 : List eg_I := .inl (18, 1, .isub, 0, 0) :: c_Flat_crossProduct_19
def c_Flat_crossProduct_17 : List eg_I := .inl (17, 1, .iaload, 0, 0) :: c_Flat_crossProduct_18
def c_Flat_crossProduct_16 : List eg_I := .inl (16, 1, .iload 1, 0, 0) :: c_Flat_crossProduct_17
def c_Flat_crossProduct_13 : List eg_I := .inl (13, 3, .getfield 40, 10, 0) :: c_Flat_crossProduct_16
def c_Flat_crossProduct_10 : List eg_I := .inl (10, 3, .getfield 12, 3, 0) :: c_Flat_crossProduct_13
def c_Flat_crossProduct_9 : List eg_I := .inl (9, 1, .aload 0, 0, 0) :: c_Flat_crossProduct_10
def c_Flat_crossProduct_8 : List eg_I := .inl (8, 1, .iaload, 0, 0) :: c_Flat_crossProduct_9
def c_Flat_crossProduct_7 : List eg_I := .inl (7, 1, .iload 2, 0, 0) :: c_Flat_crossProduct_8
def c_Flat_crossProduct_4 : List eg_I := .inl (4, 3, .getfield 40, 10, 0) :: c_Flat_crossProduct_7
def c_Flat_crossProduct_1 : List eg_I := .inl (1, 3, .getfield 12, 3, 0) :: c_Flat_crossProduct_4
def c_Flat_crossProduct_0 : List eg_I := .inl (0, 1, .aload 0, 0, 0) :: c_Flat_crossProduct_1
section
variable {rm : Room} {K : Nat → Nat → Nat → eg_Lo → List Value → List eg_E → Prop} {Q : Option Value → List eg_E → Prop} {kc ks : Nat} {loc : eg_Lo} {st : List Value} {h : List eg_E}
theorem s_Flat_crossProduct_0 {x : Nat} {l : eg_Lo} : wps rm K Q c_Flat_crossProduct_0 kc ks (some (.ref x) :: l) (st) h = wps rm K Q c_Flat_crossProduct_1 kc ks (some (.ref x) :: l) (.ref x :: st) h := gk_aload rfl
theorem s_Flat_crossProduct_1 {x : Nat} : wps rm K Q c_Flat_crossProduct_1 kc ks loc (.ref (x + 1) :: st) h = eg_gf h x 3 0 (fun v => wps rm K Q c_Flat_crossProduct_4 kc ks loc (v :: st) h) := gk_gf
theorem s_Flat_crossProduct_4 {x : Nat} : wps rm K Q c_Flat_crossProduct_4 kc ks loc (.ref (x + 1) :: st) h = eg_gf h x 10 0 (fun v => wps rm K Q c_Flat_crossProduct_7 kc ks loc (v :: st) h) := gk_gf
theorem s_Flat_crossProduct_7 {x : Int32} {l0 l1 : Option Value} {l : eg_Lo} : wps rm K Q c_Flat_crossProduct_7 kc ks (l0 :: l1 :: some (.int x) :: l) (st) h = wps rm K Q c_Flat_crossProduct_8 kc ks (l0 :: l1 :: some (.int x) :: l) (.int x :: st) h := gk_iload rfl
theorem s_Flat_crossProduct_8 {x : Nat} {i : Int32} : wps rm K Q c_Flat_crossProduct_8 kc ks loc (.int i :: .ref (x + 1) :: st) h = eg_ia h x i (fun v => wps rm K Q c_Flat_crossProduct_9 kc ks loc (.int v :: st) h) := gk_iaload
theorem s_Flat_crossProduct_9 {x : Nat} {l : eg_Lo} : wps rm K Q c_Flat_crossProduct_9 kc ks (some (.ref x) :: l) (st) h = wps rm K Q c_Flat_crossProduct_10 kc ks (some (.ref x) :: l) (.ref x :: st) h := gk_aload rfl
theorem s_Flat_crossProduct_10 {x : Nat} : wps rm K Q c_Flat_crossProduct_10 kc ks loc (.ref (x + 1) :: st) h = eg_gf h x 3 0 (fun v => wps rm K Q c_Flat_crossProduct_13 kc ks loc (v :: st) h) := gk_gf
theorem s_Flat_crossProduct_13 {x : Nat} : wps rm K Q c_Flat_crossProduct_13 kc ks loc (.ref (x + 1) :: st) h = eg_gf h x 10 0 (fun v => wps rm K Q c_Flat_crossProduct_16 kc ks loc (v :: st) h) := gk_gf
theorem s_Flat_crossProduct_16 {x : Int32} {l0 : Option Value} {l : eg_Lo} : wps rm K Q c_Flat_crossProduct_16 kc ks (l0 :: some (.int x) :: l) (st) h = wps rm K Q c_Flat_crossProduct_17 kc ks (l0 :: some (.int x) :: l) (.int x :: st) h := gk_iload rfl
theorem s_Flat_crossProduct_17 {x : Nat} {i : Int32} : wps rm K Q c_Flat_crossProduct_17 kc ks loc (.int i :: .ref (x + 1) :: st) h = eg_ia h x i (fun v => wps rm K Q c_Flat_crossProduct_18 kc ks loc (.int v :: st) h) := gk_iaload
theorem s_Flat_crossProduct_18 {x y : Int32} : wps rm K Q c_Flat_crossProduct_18 kc ks loc (.int y :: .int x :: st) h = wps rm K Q c_Flat_crossProduct_19 kc ks loc (.int (x - y) :: st) h := gk_isub
theorem s_Flat_crossProduct_19 {x : Int32} : wps rm K Q c_Flat_crossProduct_19 kc ks loc (.int x :: st) h = wps rm K Q c_Flat_crossProduct_20 kc ks loc (.long (x.toInt64) :: st) h := gk_i2l
theorem s_Flat_crossProduct_20 {x : Int64} : wps rm K Q c_Flat_crossProduct_20 kc ks loc (.long x :: st) h = wps rm K Q c_Flat_crossProduct_22 kc ks (eg_set2 loc 5 (.long x)) (st) h := gk_lstore
theorem s_Flat_crossProduct_22 {x : Nat} {l : eg_Lo} : wps rm K Q c_Flat_crossProduct_22 kc ks (some (.ref x) :: l) (st) h = wps rm K Q c_Flat_crossProduct_23 kc ks (some (.ref x) :: l) (.ref x :: st) h := gk_aload rfl
theorem s_Flat_crossProduct_23 {x : Nat} : wps rm K Q c_Flat_crossProduct_23 kc ks loc (.ref (x + 1) :: st) h = eg_gf h x 3 0 (fun v => wps rm K Q c_Flat_crossProduct_26 kc ks loc (v :: st) h) := gk_gf
theorem s_Flat_crossProduct_26 {x : Nat} : wps rm K Q c_Flat_crossProduct_26 kc ks loc (.ref (x + 1) :: st) h = eg_gf h x 10 1 (fun v => wps rm K Q c_Flat_crossProduct_29 kc ks loc (v :: st) h) := gk_gf
theorem s_Flat_crossProduct_29 {x : Int32} {l0 l1 : Option Value} {l : eg_Lo} : wps rm K Q c_Flat_crossProduct_29 kc ks (l0 :: l1 :: some (.int x) :: l) (st) h = wps rm K Q c_Flat_crossProduct_30 kc ks (l0 :: l1 :: some (.int x) :: l) (.int x :: st) h := gk_iload rfl
theorem s_Flat_crossProduct_30 {x : Nat} {i : Int32} : wps rm K Q c_Flat_crossProduct_30 kc ks loc (.int i :: .ref (x + 1) :: st) h = eg_ia h x i (fun v => wps rm K Q c_Flat_crossProduct_31 kc ks loc (.int v :: st) h) := gk_iaload
theorem s_Flat_crossProduct_31 {x : Nat} {l : eg_Lo} : wps rm K Q c_Flat_crossProduct_31 kc ks (some (.ref x) :: l) (st) h = wps rm K Q c_Flat_crossProduct_32 kc ks (some (.ref x) :: l) (.ref x :: st) h := gk_aload rfl
theorem s_Flat_crossProduct_32 {x : Nat} : wps rm K Q c_Flat_crossProduct_32 kc ks loc (.ref (x + 1) :: st) h = eg_gf h x 3 0 (fun v => wps rm K Q c_Flat_crossProduct_35 kc ks loc (v :: st) h) := gk_gf
theorem s_Flat_crossProduct_35 {x : Nat} : wps rm K Q c_Flat_crossProduct_35 kc ks loc (.ref (x + 1) :: st) h = eg_gf h x 10 1 (fun v => wps rm K Q c_Flat_crossProduct_38 kc ks loc (v :: st) h) := gk_gf
theorem s_Flat_crossProduct_38 {x : Int32} {l0 : Option Value} {l : eg_Lo} : wps rm K Q c_Flat_crossProduct_38 kc ks (l0 :: some (.int x) :: l) (st) h = wps rm K Q c_Flat_crossProduct_39 kc ks (l0 :: some (.int x) :: l) (.int x :: st) h := gk_iload rfl
theorem s_Flat_crossProduct_39 {x : Nat} {i : Int32} : wps rm K Q c_Flat_crossProduct_39 kc ks loc (.int i :: .ref (x + 1) :: st) h = eg_ia h x i (fun v => wps rm K Q c_Flat_crossProduct_40 kc ks loc (.int v :: st) h) := gk_iaload
theorem s_Flat_crossProduct_40 {x y : Int32} : wps rm K Q c_Flat_crossProduct_40 kc ks loc (.int y :: .int x :: st) h = wps rm K Q c_Flat_crossProduct_41 kc ks loc (.int (x - y) :: st) h := gk_isub
theorem s_Flat_crossProduct_41 {x : Int32} : wps rm K Q c_Flat_crossProduct_41 kc ks loc (.int x :: st) h = wps rm K Q c_Flat_crossProduct_42 kc ks loc (.long (x.toInt64) :: st) h := gk_i2l
theorem s_Flat_crossProduct_42 {x : Int64} : wps rm K Q c_Flat_crossProduct_42 kc ks loc (.long x :: st) h = wps rm K Q c_Flat_crossProduct_44 kc ks (eg_set2 loc 7 (.long x)) (st) h := gk_lstore
theorem s_Flat_crossProduct_44 {x : Nat} {l : eg_Lo} : wps rm K Q c_Flat_crossProduct_44 kc ks (some (.ref x) :: l) (st) h = wps rm K Q c_Flat_crossProduct_45 kc ks (some (.ref x) :: l) (.ref x :: st) h := gk_aload rfl
theorem s_Flat_crossProduct_45 {x : Nat} : wps rm K Q c_Flat_crossProduct_45 kc ks loc (.ref (x + 1) :: st) h = eg_gf h x 3 0 (fun v => wps rm K Q c_Flat_crossProduct_48 kc ks loc (v :: st) h) := gk_gf
theorem s_Flat_crossProduct_48 {x : Nat} : wps rm K Q c_Flat_crossProduct_48 kc ks loc (.ref (x + 1) :: st) h = eg_gf h x 10 2 (fun v => wps rm K Q c_Flat_crossProduct_51 kc ks loc (v :: st) h) := gk_gf
theorem s_Flat_crossProduct_51 {x : Int32} {l0 l1 : Option Value} {l : eg_Lo} : wps rm K Q c_Flat_crossProduct_51 kc ks (l0 :: l1 :: some (.int x) :: l) (st) h = wps rm K Q c_Flat_crossProduct_52 kc ks (l0 :: l1 :: some (.int x) :: l) (.int x :: st) h := gk_iload rfl
theorem s_Flat_crossProduct_52 {x : Nat} {i : Int32} : wps rm K Q c_Flat_crossProduct_52 kc ks loc (.int i :: .ref (x + 1) :: st) h = eg_ia h x i (fun v => wps rm K Q c_Flat_crossProduct_53 kc ks loc (.int v :: st) h) := gk_iaload
theorem s_Flat_crossProduct_53 {x : Nat} {l : eg_Lo} : wps rm K Q c_Flat_crossProduct_53 kc ks (some (.ref x) :: l) (st) h = wps rm K Q c_Flat_crossProduct_54 kc ks (some (.ref x) :: l) (.ref x :: st) h := gk_aload rfl
theorem s_Flat_crossProduct_54 {x : Nat} : wps rm K Q c_Flat_crossProduct_54 kc ks loc (.ref (x + 1) :: st) h = eg_gf h x 3 0 (fun v => wps rm K Q c_Flat_crossProduct_57 kc ks loc (v :: st) h) := gk_gf
theorem s_Flat_crossProduct_57 {x : Nat} : wps rm K Q c_Flat_crossProduct_57 kc ks loc (.ref (x + 1) :: st) h = eg_gf h x 10 2 (fun v => wps rm K Q c_Flat_crossProduct_60 kc ks loc (v :: st) h) := gk_gf
theorem s_Flat_crossProduct_60 {x : Int32} {l0 : Option Value} {l : eg_Lo} : wps rm K Q c_Flat_crossProduct_60 kc ks (l0 :: some (.int x) :: l) (st) h = wps rm K Q c_Flat_crossProduct_61 kc ks (l0 :: some (.int x) :: l) (.int x :: st) h := gk_iload rfl
theorem s_Flat_crossProduct_61 {x : Nat} {i : Int32} : wps rm K Q c_Flat_crossProduct_61 kc ks loc (.int i :: .ref (x + 1) :: st) h = eg_ia h x i (fun v => wps rm K Q c_Flat_crossProduct_62 kc ks loc (.int v :: st) h) := gk_iaload
theorem s_Flat_crossProduct_62 {x y : Int32} : wps rm K Q c_Flat_crossProduct_62 kc ks loc (.int y :: .int x :: st) h = wps rm K Q c_Flat_crossProduct_63 kc ks loc (.int (x - y) :: st) h := gk_isub
theorem s_Flat_crossProduct_63 {x : Int32} : wps rm K Q c_Flat_crossProduct_63 kc ks loc (.int x :: st) h = wps rm K Q c_Flat_crossProduct_64 kc ks loc (.long (x.toInt64) :: st) h := gk_i2l
theorem s_Flat_crossProduct_64 {x : Int64} : wps rm K Q c_Flat_crossProduct_64 kc ks loc (.long x :: st) h = wps rm K Q c_Flat_crossProduct_66 kc ks (eg_set2 loc 9 (.long x)) (st) h := gk_lstore
theorem s_Flat_crossProduct_66 {x : Nat} {l : eg_Lo} : wps rm K Q c_Flat_crossProduct_66 kc ks (some (.ref x) :: l) (st) h = wps rm K Q c_Flat_crossProduct_67 kc ks (some (.ref x) :: l) (.ref x :: st) h := gk_aload rfl
theorem s_Flat_crossProduct_67 {x : Nat} : wps rm K Q c_Flat_crossProduct_67 kc ks loc (.ref (x + 1) :: st) h = eg_gf h x 3 0 (fun v => wps rm K Q c_Flat_crossProduct_70 kc ks loc (v :: st) h) := gk_gf
theorem s_Flat_crossProduct_70 {x : Nat} : wps rm K Q c_Flat_crossProduct_70 kc ks loc (.ref (x + 1) :: st) h = eg_gf h x 10 0 (fun v => wps rm K Q c_Flat_crossProduct_73 kc ks loc (v :: st) h) := gk_gf
theorem s_Flat_crossProduct_73 {x : Int32} {l0 l1 l2 l3 : Option Value} {l : eg_Lo} : wps rm K Q c_Flat_crossProduct_73 kc ks (l0 :: l1 :: l2 :: l3 :: some (.int x) :: l) (st) h = wps rm K Q c_Flat_crossProduct_75 kc ks (l0 :: l1 :: l2 :: l3 :: some (.int x) :: l) (.int x :: st) h := gk_iload rfl
theorem s_Flat_crossProduct_75 {x : Nat} {i : Int32} : wps rm K Q c_Flat_crossProduct_75 kc ks loc (.int i :: .ref (x + 1) :: st) h = eg_ia h x i (fun v => wps rm K Q c_Flat_crossProduct_76 kc ks loc (.int v :: st) h) := gk_iaload
theorem s_Flat_crossProduct_76 {x : Nat} {l : eg_Lo} : wps rm K Q c_Flat_crossProduct_76 kc ks (some (.ref x) :: l) (st) h = wps rm K Q c_Flat_crossProduct_77 kc ks (some (.ref x) :: l) (.ref x :: st) h := gk_aload rfl
theorem s_Flat_crossProduct_77 {x : Nat} : wps rm K Q c_Flat_crossProduct_77 kc ks loc (.ref (x + 1) :: st) h = eg_gf h x 3 0 (fun v => wps rm K Q c_Flat_crossProduct_80 kc ks loc (v :: st) h) := gk_gf
theorem s_Flat_crossProduct_80 {x : Nat} : wps rm K Q c_Flat_crossProduct_80 kc ks loc (.ref (x + 1) :: st) h = eg_gf h x 10 0 (fun v => wps rm K Q c_Flat_crossProduct_83 kc ks loc (v :: st) h) := gk_gf
theorem s_Flat_crossProduct_83 {x : Int32} {l0 l1 l2 : Option Value} {l : eg_Lo} : wps rm K Q c_Flat_crossProduct_83 kc ks (l0 :: l1 :: l2 :: some (.int x) :: l) (st) h = wps rm K Q c_Flat_crossProduct_84 kc ks (l0 :: l1 :: l2 :: some (.int x) :: l) (.int x :: st) h := gk_iload rfl
theorem s_Flat_crossProduct_84 {x : Nat} {i : Int32} : wps rm K Q c_Flat_crossProduct_84 kc ks loc (.int i :: .ref (x + 1) :: st) h = eg_ia h x i (fun v => wps rm K Q c_Flat_crossProduct_85 kc ks loc (.int v :: st) h) := gk_iaload
theorem s_Flat_crossProduct_85 {x y : Int32} : wps rm K Q c_Flat_crossProduct_85 kc ks loc (.int y :: .int x :: st) h = wps rm K Q c_Flat_crossProduct_86 kc ks loc (.int (x - y) :: st) h := gk_isub
theorem s_Flat_crossProduct_86 {x : Int32} : wps rm K Q c_Flat_crossProduct_86 kc ks loc (.int x :: st) h = wps rm K Q c_Flat_crossProduct_87 kc ks loc (.long (x.toInt64) :: st) h := gk_i2l
theorem s_Flat_crossProduct_87 {x : Int64} : wps rm K Q c_Flat_crossProduct_87 kc ks loc (.long x :: st) h = wps rm K Q c_Flat_crossProduct_89 kc ks (eg_set2 loc 11 (.long x)) (st) h := gk_lstore
theorem s_Flat_crossProduct_89 {x : Nat} {l : eg_Lo} : wps rm K Q c_Flat_crossProduct_89 kc ks (some (.ref x) :: l) (st) h = wps rm K Q c_Flat_crossProduct_90 kc ks (some (.ref x) :: l) (.ref x :: st) h := gk_aload rfl
theorem s_Flat_crossProduct_90 {x : Nat} : wps rm K Q c_Flat_crossProduct_90 kc ks loc (.ref (x + 1) :: st) h = eg_gf h x 3 0 (fun v => wps rm K Q c_Flat_crossProduct_93 kc ks loc (v :: st) h) := gk_gf
theorem s_Flat_crossProduct_93 {x : Nat} : wps rm K Q c_Flat_crossProduct_93 kc ks loc (.ref (x + 1) :: st) h = eg_gf h x 10 1 (fun v => wps rm K Q c_Flat_crossProduct_96 kc ks loc (v :: st) h) := gk_gf
theorem s_Flat_crossProduct_96 {x : Int32} {l0 l1 l2 l3 : Option Value} {l : eg_Lo} : wps rm K Q c_Flat_crossProduct_96 kc ks (l0 :: l1 :: l2 :: l3 :: some (.int x) :: l) (st) h = wps rm K Q c_Flat_crossProduct_98 kc ks (l0 :: l1 :: l2 :: l3 :: some (.int x) :: l) (.int x :: st) h := gk_iload rfl
theorem s_Flat_crossProduct_98 {x : Nat} {i : Int32} : wps rm K Q c_Flat_crossProduct_98 kc ks loc (.int i :: .ref (x + 1) :: st) h = eg_ia h x i (fun v => wps rm K Q c_Flat_crossProduct_99 kc ks loc (.int v :: st) h) := gk_iaload
theorem s_Flat_crossProduct_99 {x : Nat} {l : eg_Lo} : wps rm K Q c_Flat_crossProduct_99 kc ks (some (.ref x) :: l) (st) h = wps rm K Q c_Flat_crossProduct_100 kc ks (some (.ref x) :: l) (.ref x :: st) h := gk_aload rfl
theorem s_Flat_crossProduct_100 {x : Nat} : wps rm K Q c_Flat_crossProduct_100 kc ks loc (.ref (x + 1) :: st) h = eg_gf h x 3 0 (fun v => wps rm K Q c_Flat_crossProduct_103 kc ks loc (v :: st) h) := gk_gf
theorem s_Flat_crossProduct_103 {x : Nat} : wps rm K Q c_Flat_crossProduct_103 kc ks loc (.ref (x + 1) :: st) h = eg_gf h x 10 1 (fun v => wps rm K Q c_Flat_crossProduct_106 kc ks loc (v :: st) h) := gk_gf
theorem s_Flat_crossProduct_106 {x : Int32} {l0 l1 l2 : Option Value} {l : eg_Lo} : wps rm K Q c_Flat_crossProduct_106 kc ks (l0 :: l1 :: l2 :: some (.int x) :: l) (st) h = wps rm K Q c_Flat_crossProduct_107 kc ks (l0 :: l1 :: l2 :: some (.int x) :: l) (.int x :: st) h := gk_iload rfl
theorem s_Flat_crossProduct_107 {x : Nat} {i : Int32} : wps rm K Q c_Flat_crossProduct_107 kc ks loc (.int i :: .ref (x + 1) :: st) h = eg_ia h x i (fun v => wps rm K Q c_Flat_crossProduct_108 kc ks loc (.int v :: st) h) := gk_iaload
theorem s_Flat_crossProduct_108 {x y : Int32} : wps rm K Q c_Flat_crossProduct_108 kc ks loc (.int y :: .int x :: st) h = wps rm K Q c_Flat_crossProduct_109 kc ks loc (.int (x - y) :: st) h := gk_isub
theorem s_Flat_crossProduct_109 {x : Int32} : wps rm K Q c_Flat_crossProduct_109 kc ks loc (.int x :: st) h = wps rm K Q c_Flat_crossProduct_110 kc ks loc (.long (x.toInt64) :: st) h := gk_i2l
theorem s_Flat_crossProduct_110 {x : Int64} : wps rm K Q c_Flat_crossProduct_110 kc ks loc (.long x :: st) h = wps rm K Q c_Flat_crossProduct_112 kc ks (eg_set2 loc 13 (.long x)) (st) h := gk_lstore
theorem s_Flat_crossProduct_112 {x : Nat} {l : eg_Lo} : wps rm K Q c_Flat_crossProduct_112 kc ks (some (.ref x) :: l) (st) h = wps rm K Q c_Flat_crossProduct_113 kc ks (some (.ref x) :: l) (.ref x :: st) h := gk_aload rfl
theorem s_Flat_crossProduct_113 {x : Nat} : wps rm K Q c_Flat_crossProduct_113 kc ks loc (.ref (x + 1) :: st) h = eg_gf h x 3 0 (fun v => wps rm K Q c_Flat_crossProduct_116 kc ks loc (v :: st) h) := gk_gf
theorem s_Flat_crossProduct_116 {x : Nat} : wps rm K Q c_Flat_crossProduct_116 kc ks loc (.ref (x + 1) :: st) h = eg_gf h x 10 2 (fun v => wps rm K Q c_Flat_crossProduct_119 kc ks loc (v :: st) h) := gk_gf
theorem s_Flat_crossProduct_119 {x : Int32} {l0 l1 l2 l3 : Option Value} {l : eg_Lo} : wps rm K Q c_Flat_crossProduct_119 kc ks (l0 :: l1 :: l2 :: l3 :: some (.int x) :: l) (st) h = wps rm K Q c_Flat_crossProduct_121 kc ks (l0 :: l1 :: l2 :: l3 :: some (.int x) :: l) (.int x :: st) h := gk_iload rfl
theorem s_Flat_crossProduct_121 {x : Nat} {i : Int32} : wps rm K Q c_Flat_crossProduct_121 kc ks loc (.int i :: .ref (x + 1) :: st) h = eg_ia h x i (fun v => wps rm K Q c_Flat_crossProduct_122 kc ks loc (.int v :: st) h) := gk_iaload
theorem s_Flat_crossProduct_122 {x : Nat} {l : eg_Lo} : wps rm K Q c_Flat_crossProduct_122 kc ks (some (.ref x) :: l) (st) h = wps rm K Q c_Flat_crossProduct_123 kc ks (some (.ref x) :: l) (.ref x :: st) h := gk_aload rfl
theorem s_Flat_crossProduct_123 {x : Nat} : wps rm K Q c_Flat_crossProduct_123 kc ks loc (.ref (x + 1) :: st) h = eg_gf h x 3 0 (fun v => wps rm K Q c_Flat_crossProduct_126 kc ks loc (v :: st) h) := gk_gf
theorem s_Flat_crossProduct_126 {x : Nat} : wps rm K Q c_Flat_crossProduct_126 kc ks loc (.ref (x + 1) :: st) h = eg_gf h x 10 2 (fun v => wps rm K Q c_Flat_crossProduct_129 kc ks loc (v :: st) h) := gk_gf
theorem s_Flat_crossProduct_129 {x : Int32} {l0 l1 l2 : Option Value} {l : eg_Lo} : wps rm K Q c_Flat_crossProduct_129 kc ks (l0 :: l1 :: l2 :: some (.int x) :: l) (st) h = wps rm K Q c_Flat_crossProduct_130 kc ks (l0 :: l1 :: l2 :: some (.int x) :: l) (.int x :: st) h := gk_iload rfl
theorem s_Flat_crossProduct_130 {x : Nat} {i : Int32} : wps rm K Q c_Flat_crossProduct_130 kc ks loc (.int i :: .ref (x + 1) :: st) h = eg_ia h x i (fun v => wps rm K Q c_Flat_crossProduct_131 kc ks loc (.int v :: st) h) := gk_iaload
theorem s_Flat_crossProduct_131 {x y : Int32} : wps rm K Q c_Flat_crossProduct_131 kc ks loc (.int y :: .int x :: st) h = wps rm K Q c_Flat_crossProduct_132 kc ks loc (.int (x - y) :: st) h := gk_isub
theorem s_Flat_crossProduct_132 {x : Int32} : wps rm K Q c_Flat_crossProduct_132 kc ks loc (.int x :: st) h = wps rm K Q c_Flat_crossProduct_133 kc ks loc (.long (x.toInt64) :: st) h := gk_i2l
theorem s_Flat_crossProduct_133 {x : Int64} : wps rm K Q c_Flat_crossProduct_133 kc ks loc (.long x :: st) h = wps rm K Q c_Flat_crossProduct_135 kc ks (eg_set2 loc 15 (.long x)) (st) h := gk_lstore
theorem s_Flat_crossProduct_135 {x : Nat} {l : eg_Lo} : wps rm K Q c_Flat_crossProduct_135 kc ks (some (.ref x) :: l) (st) h = wps rm K Q c_Flat_crossProduct_136 kc ks (some (.ref x) :: l) (.ref x :: st) h := gk_aload rfl
theorem s_Flat_crossProduct_136 {x : Nat} : wps rm K Q c_Flat_crossProduct_136 kc ks loc (.ref (x + 1) :: st) h = eg_gf h x 3 1 (fun v => wps rm K Q c_Flat_crossProduct_139 kc ks loc (v :: st) h) := gk_gf
theorem s_Flat_crossProduct_139  : wps rm K Q c_Flat_crossProduct_139 kc ks loc (st) h = wps rm K Q c_Flat_crossProduct_140 kc ks loc (.int (0) :: st) h := gk_ic (by decide)
theorem s_Flat_crossProduct_140 {x : Int64} {l0 l1 l2 l3 l4 l5 l6 : Option Value} {l : eg_Lo} : wps rm K Q c_Flat_crossProduct_140 kc ks (l0 :: l1 :: l2 :: l3 :: l4 :: l5 :: l6 :: some (.long x) :: l) (st) h = wps rm K Q c_Flat_crossProduct_142 kc ks (l0 :: l1 :: l2 :: l3 :: l4 :: l5 :: l6 :: some (.long x) :: l) (.long x :: st) h := gk_lload rfl
theorem s_Flat_crossProduct_142 {x : Int64} {l0 l1 l2 l3 l4 l5 l6 l7 l8 l9 l10 l11 l12 l13 l14 : Option Value} {l : eg_Lo} : wps rm K Q c_Flat_crossProduct_142 kc ks (l0 :: l1 :: l2 :: l3 :: l4 :: l5 :: l6 :: l7 :: l8 :: l9 :: l10 :: l11 :: l12 :: l13 :: l14 :: some (.long x) :: l) (st) h = wps rm K Q c_Flat_crossProduct_144 kc ks (l0 :: l1 :: l2 :: l3 :: l4 :: l5 :: l6 :: l7 :: l8 :: l9 :: l10 :: l11 :: l12 :: l13 :: l14 :: some (.long x) :: l) (.long x :: st) h := gk_lload rfl
theorem s_Flat_crossProduct_144 {x y : Int64} : wps rm K Q c_Flat_crossProduct_144 kc ks loc (.long y :: .long x :: st) h = wps rm K Q c_Flat_crossProduct_145 kc ks loc (.long (x * y) :: st) h := gk_lmul
theorem s_Flat_crossProduct_145 {x : Int64} {l0 l1 l2 l3 l4 l5 l6 l7 l8 : Option Value} {l : eg_Lo} : wps rm K Q c_Flat_crossProduct_145 kc ks (l0 :: l1 :: l2 :: l3 :: l4 :: l5 :: l6 :: l7 :: l8 :: some (.long x) :: l) (st) h = wps rm K Q c_Flat_crossProduct_147 kc ks (l0 :: l1 :: l2 :: l3 :: l4 :: l5 :: l6 :: l7 :: l8 :: some (.long x) :: l) (.long x :: st) h := gk_lload rfl
theorem s_Flat_crossProduct_147 {x : Int64} {l0 l1 l2 l3 l4 l5 l6 l7 l8 l9 l10 l11 l12 : Option Value} {l : eg_Lo} : wps rm K Q c_Flat_crossProduct_147 kc ks (l0 :: l1 :: l2 :: l3 :: l4 :: l5 :: l6 :: l7 :: l8 :: l9 :: l10 :: l11 :: l12 :: some (.long x) :: l) (st) h = wps rm K Q c_Flat_crossProduct_149 kc ks (l0 :: l1 :: l2 :: l3 :: l4 :: l5 :: l6 :: l7 :: l8 :: l9 :: l10 :: l11 :: l12 :: some (.long x) :: l) (.long x :: st) h := gk_lload rfl
theorem s_Flat_crossProduct_149 {x y : Int64} : wps rm K Q c_Flat_crossProduct_149 kc ks loc (.long y :: .long x :: st) h = wps rm K Q c_Flat_crossProduct_150 kc ks loc (.long (x * y) :: st) h := gk_lmul
theorem s_Flat_crossProduct_150 {x y : Int64} : wps rm K Q c_Flat_crossProduct_150 kc ks loc (.long y :: .long x :: st) h = wps rm K Q c_Flat_crossProduct_151 kc ks loc (.long (x - y) :: st) h := gk_lsub
theorem s_Flat_crossProduct_151 {x : Nat} {i : Int32} {v : Int64} : wps rm K Q c_Flat_crossProduct_151 kc ks loc (.long v :: .int i :: .ref (x + 1) :: st) h = eg_lst h x i v (fun h9 => wps rm K Q c_Flat_crossProduct_152 kc ks loc (st) h9) := gk_lastore
theorem s_Flat_crossProduct_152 {x : Nat} {l : eg_Lo} : wps rm K Q c_Flat_crossProduct_152 kc ks (some (.ref x) :: l) (st) h = wps rm K Q c_Flat_crossProduct_153 kc ks (some (.ref x) :: l) (.ref x :: st) h := gk_aload rfl
theorem s_Flat_crossProduct_153 {x : Nat} : wps rm K Q c_Flat_crossProduct_153 kc ks loc (.ref (x + 1) :: st) h = eg_gf h x 3 1 (fun v => wps rm K Q c_Flat_crossProduct_156 kc ks loc (v :: st) h) := gk_gf
theorem s_Flat_crossProduct_156  : wps rm K Q c_Flat_crossProduct_156 kc ks loc (st) h = wps rm K Q c_Flat_crossProduct_157 kc ks loc (.int (1) :: st) h := gk_ic (by decide)
theorem s_Flat_crossProduct_157 {x : Int64} {l0 l1 l2 l3 l4 l5 l6 l7 l8 : Option Value} {l : eg_Lo} : wps rm K Q c_Flat_crossProduct_157 kc ks (l0 :: l1 :: l2 :: l3 :: l4 :: l5 :: l6 :: l7 :: l8 :: some (.long x) :: l) (st) h = wps rm K Q c_Flat_crossProduct_159 kc ks (l0 :: l1 :: l2 :: l3 :: l4 :: l5 :: l6 :: l7 :: l8 :: some (.long x) :: l) (.long x :: st) h := gk_lload rfl
theorem s_Flat_crossProduct_159 {x : Int64} {l0 l1 l2 l3 l4 l5 l6 l7 l8 l9 l10 : Option Value} {l : eg_Lo} : wps rm K Q c_Flat_crossProduct_159 kc ks (l0 :: l1 :: l2 :: l3 :: l4 :: l5 :: l6 :: l7 :: l8 :: l9 :: l10 :: some (.long x) :: l) (st) h = wps rm K Q c_Flat_crossProduct_161 kc ks (l0 :: l1 :: l2 :: l3 :: l4 :: l5 :: l6 :: l7 :: l8 :: l9 :: l10 :: some (.long x) :: l) (.long x :: st) h := gk_lload rfl
theorem s_Flat_crossProduct_161 {x y : Int64} : wps rm K Q c_Flat_crossProduct_161 kc ks loc (.long y :: .long x :: st) h = wps rm K Q c_Flat_crossProduct_162 kc ks loc (.long (x * y) :: st) h := gk_lmul
theorem s_Flat_crossProduct_162 {x : Int64} {l0 l1 l2 l3 l4 : Option Value} {l : eg_Lo} : wps rm K Q c_Flat_crossProduct_162 kc ks (l0 :: l1 :: l2 :: l3 :: l4 :: some (.long x) :: l) (st) h = wps rm K Q c_Flat_crossProduct_164 kc ks (l0 :: l1 :: l2 :: l3 :: l4 :: some (.long x) :: l) (.long x :: st) h := gk_lload rfl
theorem s_Flat_crossProduct_164 {x : Int64} {l0 l1 l2 l3 l4 l5 l6 l7 l8 l9 l10 l11 l12 l13 l14 : Option Value} {l : eg_Lo} : wps rm K Q c_Flat_crossProduct_164 kc ks (l0 :: l1 :: l2 :: l3 :: l4 :: l5 :: l6 :: l7 :: l8 :: l9 :: l10 :: l11 :: l12 :: l13 :: l14 :: some (.long x) :: l) (st) h = wps rm K Q c_Flat_crossProduct_166 kc ks (l0 :: l1 :: l2 :: l3 :: l4 :: l5 :: l6 :: l7 :: l8 :: l9 :: l10 :: l11 :: l12 :: l13 :: l14 :: some (.long x) :: l) (.long x :: st) h := gk_lload rfl
theorem s_Flat_crossProduct_166 {x y : Int64} : wps rm K Q c_Flat_crossProduct_166 kc ks loc (.long y :: .long x :: st) h = wps rm K Q c_Flat_crossProduct_167 kc ks loc (.long (x * y) :: st) h := gk_lmul
theorem s_Flat_crossProduct_167 {x y : Int64} : wps rm K Q c_Flat_crossProduct_167 kc ks loc (.long y :: .long x :: st) h = wps rm K Q c_Flat_crossProduct_168 kc ks loc (.long (x - y) :: st) h := gk_lsub
theorem s_Flat_crossProduct_168 {x : Nat} {i : Int32} {v : Int64} : wps rm K Q c_Flat_crossProduct_168 kc ks loc (.long v :: .int i :: .ref (x + 1) :: st) h = eg_lst h x i v (fun h9 => wps rm K Q c_Flat_crossProduct_169 kc ks loc (st) h9) := gk_lastore
theorem s_Flat_crossProduct_169 {x : Nat} {l : eg_Lo} : wps rm K Q c_Flat_crossProduct_169 kc ks (some (.ref x) :: l) (st) h = wps rm K Q c_Flat_crossProduct_170 kc ks (some (.ref x) :: l) (.ref x :: st) h := gk_aload rfl
theorem s_Flat_crossProduct_170 {x : Nat} : wps rm K Q c_Flat_crossProduct_170 kc ks loc (.ref (x + 1) :: st) h = eg_gf h x 3 1 (fun v => wps rm K Q c_Flat_crossProduct_173 kc ks loc (v :: st) h) := gk_gf
theorem s_Flat_crossProduct_173  : wps rm K Q c_Flat_crossProduct_173 kc ks loc (st) h = wps rm K Q c_Flat_crossProduct_174 kc ks loc (.int (2) :: st) h := gk_ic (by decide)
theorem s_Flat_crossProduct_174 {x : Int64} {l0 l1 l2 l3 l4 : Option Value} {l : eg_Lo} : wps rm K Q c_Flat_crossProduct_174 kc ks (l0 :: l1 :: l2 :: l3 :: l4 :: some (.long x) :: l) (st) h = wps rm K Q c_Flat_crossProduct_176 kc ks (l0 :: l1 :: l2 :: l3 :: l4 :: some (.long x) :: l) (.long x :: st) h := gk_lload rfl
theorem s_Flat_crossProduct_176 {x : Int64} {l0 l1 l2 l3 l4 l5 l6 l7 l8 l9 l10 l11 l12 : Option Value} {l : eg_Lo} : wps rm K Q c_Flat_crossProduct_176 kc ks (l0 :: l1 :: l2 :: l3 :: l4 :: l5 :: l6 :: l7 :: l8 :: l9 :: l10 :: l11 :: l12 :: some (.long x) :: l) (st) h = wps rm K Q c_Flat_crossProduct_178 kc ks (l0 :: l1 :: l2 :: l3 :: l4 :: l5 :: l6 :: l7 :: l8 :: l9 :: l10 :: l11 :: l12 :: some (.long x) :: l) (.long x :: st) h := gk_lload rfl
theorem s_Flat_crossProduct_178 {x y : Int64} : wps rm K Q c_Flat_crossProduct_178 kc ks loc (.long y :: .long x :: st) h = wps rm K Q c_Flat_crossProduct_179 kc ks loc (.long (x * y) :: st) h := gk_lmul
theorem s_Flat_crossProduct_179 {x : Int64} {l0 l1 l2 l3 l4 l5 l6 : Option Value} {l : eg_Lo} : wps rm K Q c_Flat_crossProduct_179 kc ks (l0 :: l1 :: l2 :: l3 :: l4 :: l5 :: l6 :: some (.long x) :: l) (st) h = wps rm K Q c_Flat_crossProduct_181 kc ks (l0 :: l1 :: l2 :: l3 :: l4 :: l5 :: l6 :: some (.long x) :: l) (.long x :: st) h := gk_lload rfl
theorem s_Flat_crossProduct_181 {x : Int64} {l0 l1 l2 l3 l4 l5 l6 l7 l8 l9 l10 : Option Value} {l : eg_Lo} : wps rm K Q c_Flat_crossProduct_181 kc ks (l0 :: l1 :: l2 :: l3 :: l4 :: l5 :: l6 :: l7 :: l8 :: l9 :: l10 :: some (.long x) :: l) (st) h = wps rm K Q c_Flat_crossProduct_183 kc ks (l0 :: l1 :: l2 :: l3 :: l4 :: l5 :: l6 :: l7 :: l8 :: l9 :: l10 :: some (.long x) :: l) (.long x :: st) h := gk_lload rfl
theorem s_Flat_crossProduct_183 {x y : Int64} : wps rm K Q c_Flat_crossProduct_183 kc ks loc (.long y :: .long x :: st) h = wps rm K Q c_Flat_crossProduct_184 kc ks loc (.long (x * y) :: st) h := gk_lmul
theorem s_Flat_crossProduct_184 {x y : Int64} : wps rm K Q c_Flat_crossProduct_184 kc ks loc (.long y :: .long x :: st) h = wps rm K Q c_Flat_crossProduct_185 kc ks loc (.long (x - y) :: st) h := gk_lsub
theorem s_Flat_crossProduct_185 {x : Nat} {i : Int32} {v : Int64} : wps rm K Q c_Flat_crossProduct_185 kc ks loc (.long v :: .int i :: .ref (x + 1) :: st) h = eg_lst h x i v (fun h9 => wps rm K Q c_Flat_crossProduct_186 kc ks loc (st) h9) := gk_lastore
theorem s_Flat_crossProduct_186  : wps rm K Q c_Flat_crossProduct_186 kc ks loc ([]) h = (kc = rm.cells ∧ Q none h) := gk_vret
def T_Flat_crossProduct : List (Nat × List eg_I) := []
end
theorem y_Flat_crossProduct_0 : eg_seq m_Flat_crossProduct 0 c_Flat_crossProduct_0 = true := by decide +kernel
theorem q_Flat_crossProduct : ∀ q ∈ T_Flat_crossProduct, eg_seq m_Flat_crossProduct q.1 q.2 = true := by
  intro q hq
  cases hq
theorem b_Flat_crossProduct {as : List Value} {h : List eg_E} {Q : Option Value → List eg_E → Prop} (hf : (eg_fl as).length ≤ 17) (hw : wps (eg_rm m_Flat_crossProduct) (eg_run (eg_rm m_Flat_crossProduct) (eg_R m_Flat_crossProduct Q (h.length + 0)) Q T_Flat_crossProduct 2) Q c_Flat_crossProduct_0 0 0 (eg_entry 17 as) [] h) : eg_Runs n_Flat_crossProduct as h Q := eg_begin2 (d := m_Flat_crossProduct) rfl (by decide) y_Flat_crossProduct_0 q_Flat_crossProduct hf hw
/-! ===== Flat_isBetter ===== -/
def z_Flat_isBetter_79 : List eg_I := [.inl (79, 0, .nop, 0, 0)]
def c_Flat_isBetter_199 : List eg_I := .inl (199, 1, .ireturn, 0, 1) :: []
def c_Flat_isBetter_198 : List eg_I := .inl (198, 1, .iconst (0), 0, 0) :: c_Flat_isBetter_199
def c_Flat_isBetter_195 : List eg_I := .inl (195, 3, .goto (4), 199, 0) :: []
def c_Flat_isBetter_194 : List eg_I := .inl (194, 1, .iconst (1), 0, 0) :: c_Flat_isBetter_195
def c_Flat_isBetter_191 : List eg_I := .inl (191, 3, .ifCond .ne (7), 198, 0) :: c_Flat_isBetter_194
def c_Flat_isBetter_189 : List eg_I := .inl (189, 2, .iload 10, 0, 0) :: c_Flat_isBetter_191
def c_Flat_isBetter_186 : List eg_I := .inr (186, 1, 87, n_Flat_keepBest, 4, 3, 0, 0) :: c_Flat_isBetter_189
def c_Flat_isBetter_184 : List eg_I := .inl (184, 2, .iload 5, 0, 0) :: c_Flat_isBetter_186
def c_Flat_isBetter_182 : List eg_I := .inl (182, 2, .iload 4, 0, 0) :: c_Flat_isBetter_184
def c_Flat_isBetter_181 : List eg_I := .inl (181, 1, .lload 2, 0, 0) :: c_Flat_isBetter_182
def c_Flat_isBetter_180 : List eg_I := .inl (180, 1, .lsub, 0, 0) :: c_Flat_isBetter_181
def c_Flat_isBetter_178 : List eg_I := .inl (178, 2, .lload 8, 0, 0) :: c_Flat_isBetter_180
def c_Flat_isBetter_176 : List eg_I := .inl (176, 2, .lload 6, 0, 0) :: c_Flat_isBetter_178
def c_Flat_isBetter_175 : List eg_I := .inl (175, 1, .aload 0, 0, 0) :: c_Flat_isBetter_176
def c_Flat_isBetter_172 : List eg_I := .inl (172, 3, .ifCond .ne (17), 189, 0) :: c_Flat_isBetter_175
def c_Flat_isBetter_170 : List eg_I := .inl (170, 2, .iload 10, 0, 0) :: c_Flat_isBetter_172
def c_Flat_isBetter_167 : List eg_I := .inl (167, 3, .goto (-88), 79, 0) :: []
def c_Flat_isBetter_164 : List eg_I := .inl (164, 3, .iinc 11 (1), 0, 0) :: c_Flat_isBetter_167
def c_Flat_isBetter_162 : List eg_I := .inl (162, 2, .istore 10, 0, 0) :: c_Flat_isBetter_164
def c_Flat_isBetter_159 : List eg_I := .inr (159, 1, 83, n_Flat_isBeaten, 2, 3, 0, 0) :: c_Flat_isBetter_162
def c_Flat_isBetter_158 : List eg_I := .inl (158, 1, .lload 2, 0, 0) :: c_Flat_isBetter_159
def c_Flat_isBetter_157 : List eg_I := .inl (157, 1, .lsub, 0, 0) :: c_Flat_isBetter_158
def c_Flat_isBetter_155 : List eg_I := .inl (155, 2, .lload 8, 0, 0) :: c_Flat_isBetter_157
def c_Flat_isBetter_153 : List eg_I := .inl (153, 2, .lload 6, 0, 0) :: c_Flat_isBetter_155
def c_Flat_isBetter_152 : List eg_I := .inl (152, 1, .aload 0, 0, 0) :: c_Flat_isBetter_153
def c_Flat_isBetter_150 : List eg_I := .inl (150, 2, .istore 5, 0, 0) :: c_Flat_isBetter_152
def c_Flat_isBetter_148 : List eg_I := .inl (148, 2, .iload 11, 0, 0) :: c_Flat_isBetter_150
def c_Flat_isBetter_146 : List eg_I := .inl (146, 2, .lstore 8, 0, 0) :: c_Flat_isBetter_148
def c_Flat_isBetter_144 : List eg_I := .inl (144, 2, .lload 12, 0, 0) :: c_Flat_isBetter_146
def c_Flat_isBetter_141 : List eg_I := .inl (141, 3, .ifCond .ge (23), 164, 0) :: c_Flat_isBetter_144
def c_Flat_isBetter_140 : List eg_I := .inl (140, 1, .lcmp, 0, 0) :: c_Flat_isBetter_141
def c_Flat_isBetter_138 : List eg_I := .inl (138, 2, .lload 8, 0, 0) :: c_Flat_isBetter_140
def c_Flat_isBetter_136 : List eg_I := .inl (136, 2, .lload 12, 0, 0) :: c_Flat_isBetter_138
def c_Flat_isBetter_133 : List eg_I := .inl (133, 3, .goto (31), 164, 0) :: []
def c_Flat_isBetter_131 : List eg_I := .inl (131, 2, .istore 10, 0, 0) :: c_Flat_isBetter_133
def c_Flat_isBetter_128 : List eg_I := .inr (128, 1, 83, n_Flat_isBeaten, 2, 3, 0, 0) :: c_Flat_isBetter_131
def c_Flat_isBetter_127 : List eg_I := .inl (127, 1, .lload 2, 0, 0) :: c_Flat_isBetter_128
def c_Flat_isBetter_126 : List eg_I := .inl (126, 1, .lsub, 0, 0) :: c_Flat_isBetter_127
def c_Flat_isBetter_124 : List eg_I := .inl (124, 2, .lload 8, 0, 0) :: c_Flat_isBetter_126
def c_Flat_isBetter_122 : List eg_I := .inl (122, 2, .lload 6, 0, 0) :: c_Flat_isBetter_124
def c_Flat_isBetter_121 : List eg_I := .inl (121, 1, .aload 0, 0, 0) :: c_Flat_isBetter_122
def c_Flat_isBetter_119 : List eg_I := .inl (119, 2, .istore 4, 0, 0) :: c_Flat_isBetter_121
def c_Flat_isBetter_117 : List eg_I := .inl (117, 2, .iload 11, 0, 0) :: c_Flat_isBetter_119
def c_Flat_isBetter_115 : List eg_I := .inl (115, 2, .lstore 6, 0, 0) :: c_Flat_isBetter_117
def c_Flat_isBetter_113 : List eg_I := .inl (113, 2, .lload 12, 0, 0) :: c_Flat_isBetter_115
def c_Flat_isBetter_110 : List eg_I := .inl (110, 3, .ifCond .le (26), 136, 0) :: c_Flat_isBetter_113
def c_Flat_isBetter_109 : List eg_I := .inl (109, 1, .lcmp, 0, 0) :: c_Flat_isBetter_110
def c_Flat_isBetter_107 : List eg_I := .inl (107, 2, .lload 6, 0, 0) :: c_Flat_isBetter_109
def c_Flat_isBetter_105 : List eg_I := .inl (105, 2, .lload 12, 0, 0) :: c_Flat_isBetter_107
def c_Flat_isBetter_103 : List eg_I := .inl (103, 2, .lstore 12, 0, 0) :: c_Flat_isBetter_105
def c_Flat_isBetter_100 : List eg_I := .inr (100, 1, 79, n_Flat_crossOf, 2, 3, 0, 0) :: c_Flat_isBetter_103
def c_Flat_isBetter_98 : List eg_I := .inl (98, 2, .iload 11, 0, 0) :: c_Flat_isBetter_100
def c_Flat_isBetter_97 : List eg_I := .inl (97, 1, .iload 1, 0, 0) :: c_Flat_isBetter_98
def c_Flat_isBetter_96 : List eg_I := .inl (96, 1, .aload 0, 0, 0) :: c_Flat_isBetter_97
def c_Flat_isBetter_93 : List eg_I := .inl (93, 3, .ifCond .ne (77), 170, 0) :: c_Flat_isBetter_96
def c_Flat_isBetter_91 : List eg_I := .inl (91, 2, .iload 10, 0, 0) :: c_Flat_isBetter_93
def c_Flat_isBetter_88 : List eg_I := .inl (88, 3, .if_icmp .ge (82), 170, 0) :: c_Flat_isBetter_91
def c_Flat_isBetter_85 : List eg_I := .inl (85, 3, .getfield 33, 10, 4) :: c_Flat_isBetter_88
def c_Flat_isBetter_82 : List eg_I := .inl (82, 3, .getfield 12, 3, 0) :: c_Flat_isBetter_85
def c_Flat_isBetter_81 : List eg_I := .inl (81, 1, .aload 0, 0, 0) :: c_Flat_isBetter_82
def c_Flat_isBetter_79 : List eg_I := .inl (79, 2, .iload 11, 0, 0) :: c_Flat_isBetter_81
def c_Flat_isBetter_77 : List eg_I := .inl (77, 2, .istore 11, 0, 0) :: z_Flat_isBetter_79
def c_Flat_isBetter_76 : List eg_I := .inl (76, 1, .iconst (1), 0, 0) :: c_Flat_isBetter_77
def c_Flat_isBetter_74 : List eg_I := .inl (74, 2, .istore 10, 0, 0) :: c_Flat_isBetter_76
def c_Flat_isBetter_71 : List eg_I := .inr (71, 1, 83, n_Flat_isBeaten, 2, 3, 0, 0) :: c_Flat_isBetter_74
def c_Flat_isBetter_70 : List eg_I := .inl (70, 1, .lload 2, 0, 0) :: c_Flat_isBetter_71
def c_Flat_isBetter_69 : List eg_I := .inl (69, 1, .sipush (0), 0, 0) :: c_Flat_isBetter_70
def c_Flat_isBetter_68 : List eg_I := .inl (68, 1, .aload 0, 0, 0) :: c_Flat_isBetter_69
def c_Flat_isBetter_66 : List eg_I := .inl (66, 2, .lstore 8, 0, 0) :: c_Flat_isBetter_68
def c_Flat_isBetter_64 : List eg_I := .inl (64, 2, .lload 6, 0, 0) :: c_Flat_isBetter_66
def c_Flat_isBetter_62 : List eg_I := .inl (62, 2, .lstore 6, 0, 0) :: c_Flat_isBetter_64
def c_Flat_isBetter_59 : List eg_I := .inr (59, 1, 79, n_Flat_crossOf, 2, 3, 0, 0) :: c_Flat_isBetter_62
def c_Flat_isBetter_58 : List eg_I := .inl (58, 1, .iconst (0), 0, 0) :: c_Flat_isBetter_59
def c_Flat_isBetter_57 : List eg_I := .inl (57, 1, .iload 1, 0, 0) :: c_Flat_isBetter_58
def c_Flat_isBetter_56 : List eg_I := .inl (56, 1, .aload 0, 0, 0) :: c_Flat_isBetter_57
def c_Flat_isBetter_54 : List eg_I := .inl (54, 2, .istore 5, 0, 0) :: c_Flat_isBetter_56
def c_Flat_isBetter_53 : List eg_I := .inl (53, 1, .iconst (0), 0, 0) :: c_Flat_isBetter_54
def c_Flat_isBetter_51 : List eg_I := .inl (51, 2, .istore 4, 0, 0) :: c_Flat_isBetter_53
def c_Flat_isBetter_50 : List eg_I := .inl (50, 1, .iconst (0), 0, 0) :: c_Flat_isBetter_51
def c_Flat_isBetter_49 : List eg_I := .inl (49, 1, .ireturn, 0, 1) :: []
def c_Flat_isBetter_48 : List eg_I := .inl (48, 1, .iconst (0), 0, 0) :: c_Flat_isBetter_49
def c_Flat_isBetter_45 : List eg_I := .inl (45, 3, .ifCond .ne (5), 50, 0) :: c_Flat_isBetter_48
def c_Flat_isBetter_44 : List eg_I := .inl (44, 1, .lcmp, 0, 0) :: c_Flat_isBetter_45
def c_Flat_isBetter_43 : List eg_I := .inl (43, 1, .sipush (0), 0, 0) :: c_Flat_isBetter_44
def c_Flat_isBetter_42 : List eg_I := .inl (42, 1, .lload 2, 0, 0) :: c_Flat_isBetter_43
def c_Flat_isBetter_41 : List eg_I := .inl (41, 1, .lstore 2, 0, 0) :: c_Flat_isBetter_42
def c_Flat_isBetter_40 : List eg_I := .inl (40, 1, .ladd, 0, 0) :: c_Flat_isBetter_41
def c_Flat_isBetter_39 : List eg_I := .inl (39, 1, .lmul, 0, 0) :: c_Flat_isBetter_40
def c_Flat_isBetter_38 : List eg_I := .inl (38, 1, .laload, 0, 0) :: c_Flat_isBetter_39
def c_Flat_isBetter_37 : List eg_I := .inl (37, 1, .iconst (2), 0, 0) :: c_Flat_isBetter_38
def c_Flat_isBetter_34 : List eg_I := .inl (34, 3, .getfield 18, 3, 1) :: c_Flat_isBetter_37
def c_Flat_isBetter_33 : List eg_I := .inl (33, 1, .aload 0, 0, 0) :: c_Flat_isBetter_34
def c_Flat_isBetter_32 : List eg_I := .inl (32, 1, .laload, 0, 0) :: c_Flat_isBetter_33
def c_Flat_isBetter_31 : List eg_I := .inl (31, 1, .iconst (2), 0, 0) :: c_Flat_isBetter_32
def c_Flat_isBetter_28 : List eg_I := .inl (28, 3, .getfield 18, 3, 1) :: c_Flat_isBetter_31
def c_Flat_isBetter_27 : List eg_I := .inl (27, 1, .aload 0, 0, 0) :: c_Flat_isBetter_28
def c_Flat_isBetter_26 : List eg_I := .inl (26, 1, .ladd, 0, 0) :: c_Flat_isBetter_27
def c_Flat_isBetter_25 : List eg_I := .inl (25, 1, .lmul, 0, 0) :: c_Flat_isBetter_26
def c_Flat_isBetter_24 : List eg_I := .inl (24, 1, .laload, 0, 0) :: c_Flat_isBetter_25
def c_Flat_isBetter_23 : List eg_I := .inl (23, 1, .iconst (1), 0, 0) :: c_Flat_isBetter_24
def c_Flat_isBetter_20 : List eg_I := .inl (20, 3, .getfield 18, 3, 1) :: c_Flat_isBetter_23
def c_Flat_isBetter_19 : List eg_I := .inl (19, 1, .aload 0, 0, 0) :: c_Flat_isBetter_20
def c_Flat_isBetter_18 : List eg_I := .inl (18, 1, .laload, 0, 0) :: c_Flat_isBetter_19
def c_Flat_isBetter_17 : List eg_I := .inl (17, 1, .iconst (1), 0, 0) :: c_Flat_isBetter_18
def c_Flat_isBetter_14 : List eg_I := .inl (14, 3, .getfield 18, 3, 1) :: c_Flat_isBetter_17
def c_Flat_isBetter_13 : List eg_I := .inl (13, 1, .aload 0, 0, 0) :: c_Flat_isBetter_14
def c_Flat_isBetter_12 : List eg_I := .inl (12, 1, .lmul, 0, 0) :: c_Flat_isBetter_13
def c_Flat_isBetter_11 : List eg_I := .inl (11, 1, .laload, 0, 0) :: c_Flat_isBetter_12
def c_Flat_isBetter_10 : List eg_I := .inl (10, 1, .iconst (0), 0, 0) :: c_Flat_isBetter_11
def c_Flat_isBetter_7 : List eg_I := .inl (7, 3, .getfield 18, 3, 1) :: c_Flat_isBetter_10
def c_Flat_isBetter_6 : List eg_I := .inl (6, 1, .aload 0, 0, 0) :: c_Flat_isBetter_7
def c_Flat_isBetter_5 : List eg_I := .inl (5, 1, .laload, 0, 0) :: c_Flat_isBetter_6
def c_Flat_isBetter_4 : List eg_I := .inl (4, 1, .iconst (0), 0, 0) :: c_Flat_isBetter_5
def c_Flat_isBetter_1 : List eg_I := .inl (1, 3, .getfield 18, 3, 1) :: c_Flat_isBetter_4
def c_Flat_isBetter_0 : List eg_I := .inl (0, 1, .aload 0, 0, 0) :: c_Flat_isBetter_1
section
variable {rm : Room} {K : Nat → Nat → Nat → eg_Lo → List Value → List eg_E → Prop} {Q : Option Value → List eg_E → Prop} {kc ks : Nat} {loc : eg_Lo} {st : List Value} {h : List eg_E}
theorem s_Flat_isBetter_0 {x : Nat} {l : eg_Lo} : wps rm K Q c_Flat_isBetter_0 kc ks (some (.ref x) :: l) (st) h = wps rm K Q c_Flat_isBetter_1 kc ks (some (.ref x) :: l) (.ref x :: st) h := gk_aload rfl
theorem s_Flat_isBetter_1 {x : Nat} : wps rm K Q c_Flat_isBetter_1 kc ks loc (.ref (x + 1) :: st) h = eg_gf h x 3 1 (fun v => wps rm K Q c_Flat_isBetter_4 kc ks loc (v :: st) h) := gk_gf
theorem s_Flat_isBetter_4  : wps rm K Q c_Flat_isBetter_4 kc ks loc (st) h = wps rm K Q c_Flat_isBetter_5 kc ks loc (.int (0) :: st) h := gk_ic (by decide)
theorem s_Flat_isBetter_5 {x : Nat} {i : Int32} : wps rm K Q c_Flat_isBetter_5 kc ks loc (.int i :: .ref (x + 1) :: st) h = eg_la h x i (fun v => wps rm K Q c_Flat_isBetter_6 kc ks loc (.long v :: st) h) := gk_laload
theorem s_Flat_isBetter_6 {x : Nat} {l : eg_Lo} : wps rm K Q c_Flat_isBetter_6 kc ks (some (.ref x) :: l) (st) h = wps rm K Q c_Flat_isBetter_7 kc ks (some (.ref x) :: l) (.ref x :: st) h := gk_aload rfl
theorem s_Flat_isBetter_7 {x : Nat} : wps rm K Q c_Flat_isBetter_7 kc ks loc (.ref (x + 1) :: st) h = eg_gf h x 3 1 (fun v => wps rm K Q c_Flat_isBetter_10 kc ks loc (v :: st) h) := gk_gf
theorem s_Flat_isBetter_10  : wps rm K Q c_Flat_isBetter_10 kc ks loc (st) h = wps rm K Q c_Flat_isBetter_11 kc ks loc (.int (0) :: st) h := gk_ic (by decide)
theorem s_Flat_isBetter_11 {x : Nat} {i : Int32} : wps rm K Q c_Flat_isBetter_11 kc ks loc (.int i :: .ref (x + 1) :: st) h = eg_la h x i (fun v => wps rm K Q c_Flat_isBetter_12 kc ks loc (.long v :: st) h) := gk_laload
theorem s_Flat_isBetter_12 {x y : Int64} : wps rm K Q c_Flat_isBetter_12 kc ks loc (.long y :: .long x :: st) h = wps rm K Q c_Flat_isBetter_13 kc ks loc (.long (x * y) :: st) h := gk_lmul
theorem s_Flat_isBetter_13 {x : Nat} {l : eg_Lo} : wps rm K Q c_Flat_isBetter_13 kc ks (some (.ref x) :: l) (st) h = wps rm K Q c_Flat_isBetter_14 kc ks (some (.ref x) :: l) (.ref x :: st) h := gk_aload rfl
theorem s_Flat_isBetter_14 {x : Nat} : wps rm K Q c_Flat_isBetter_14 kc ks loc (.ref (x + 1) :: st) h = eg_gf h x 3 1 (fun v => wps rm K Q c_Flat_isBetter_17 kc ks loc (v :: st) h) := gk_gf
theorem s_Flat_isBetter_17  : wps rm K Q c_Flat_isBetter_17 kc ks loc (st) h = wps rm K Q c_Flat_isBetter_18 kc ks loc (.int (1) :: st) h := gk_ic (by decide)
theorem s_Flat_isBetter_18 {x : Nat} {i : Int32} : wps rm K Q c_Flat_isBetter_18 kc ks loc (.int i :: .ref (x + 1) :: st) h = eg_la h x i (fun v => wps rm K Q c_Flat_isBetter_19 kc ks loc (.long v :: st) h) := gk_laload
theorem s_Flat_isBetter_19 {x : Nat} {l : eg_Lo} : wps rm K Q c_Flat_isBetter_19 kc ks (some (.ref x) :: l) (st) h = wps rm K Q c_Flat_isBetter_20 kc ks (some (.ref x) :: l) (.ref x :: st) h := gk_aload rfl
theorem s_Flat_isBetter_20 {x : Nat} : wps rm K Q c_Flat_isBetter_20 kc ks loc (.ref (x + 1) :: st) h = eg_gf h x 3 1 (fun v => wps rm K Q c_Flat_isBetter_23 kc ks loc (v :: st) h) := gk_gf
theorem s_Flat_isBetter_23  : wps rm K Q c_Flat_isBetter_23 kc ks loc (st) h = wps rm K Q c_Flat_isBetter_24 kc ks loc (.int (1) :: st) h := gk_ic (by decide)
theorem s_Flat_isBetter_24 {x : Nat} {i : Int32} : wps rm K Q c_Flat_isBetter_24 kc ks loc (.int i :: .ref (x + 1) :: st) h = eg_la h x i (fun v => wps rm K Q c_Flat_isBetter_25 kc ks loc (.long v :: st) h) := gk_laload
theorem s_Flat_isBetter_25 {x y : Int64} : wps rm K Q c_Flat_isBetter_25 kc ks loc (.long y :: .long x :: st) h = wps rm K Q c_Flat_isBetter_26 kc ks loc (.long (x * y) :: st) h := gk_lmul
theorem s_Flat_isBetter_26 {x y : Int64} : wps rm K Q c_Flat_isBetter_26 kc ks loc (.long y :: .long x :: st) h = wps rm K Q c_Flat_isBetter_27 kc ks loc (.long (x + y) :: st) h := gk_ladd
theorem s_Flat_isBetter_27 {x : Nat} {l : eg_Lo} : wps rm K Q c_Flat_isBetter_27 kc ks (some (.ref x) :: l) (st) h = wps rm K Q c_Flat_isBetter_28 kc ks (some (.ref x) :: l) (.ref x :: st) h := gk_aload rfl
theorem s_Flat_isBetter_28 {x : Nat} : wps rm K Q c_Flat_isBetter_28 kc ks loc (.ref (x + 1) :: st) h = eg_gf h x 3 1 (fun v => wps rm K Q c_Flat_isBetter_31 kc ks loc (v :: st) h) := gk_gf
theorem s_Flat_isBetter_31  : wps rm K Q c_Flat_isBetter_31 kc ks loc (st) h = wps rm K Q c_Flat_isBetter_32 kc ks loc (.int (2) :: st) h := gk_ic (by decide)
theorem s_Flat_isBetter_32 {x : Nat} {i : Int32} : wps rm K Q c_Flat_isBetter_32 kc ks loc (.int i :: .ref (x + 1) :: st) h = eg_la h x i (fun v => wps rm K Q c_Flat_isBetter_33 kc ks loc (.long v :: st) h) := gk_laload
theorem s_Flat_isBetter_33 {x : Nat} {l : eg_Lo} : wps rm K Q c_Flat_isBetter_33 kc ks (some (.ref x) :: l) (st) h = wps rm K Q c_Flat_isBetter_34 kc ks (some (.ref x) :: l) (.ref x :: st) h := gk_aload rfl
theorem s_Flat_isBetter_34 {x : Nat} : wps rm K Q c_Flat_isBetter_34 kc ks loc (.ref (x + 1) :: st) h = eg_gf h x 3 1 (fun v => wps rm K Q c_Flat_isBetter_37 kc ks loc (v :: st) h) := gk_gf
theorem s_Flat_isBetter_37  : wps rm K Q c_Flat_isBetter_37 kc ks loc (st) h = wps rm K Q c_Flat_isBetter_38 kc ks loc (.int (2) :: st) h := gk_ic (by decide)
theorem s_Flat_isBetter_38 {x : Nat} {i : Int32} : wps rm K Q c_Flat_isBetter_38 kc ks loc (.int i :: .ref (x + 1) :: st) h = eg_la h x i (fun v => wps rm K Q c_Flat_isBetter_39 kc ks loc (.long v :: st) h) := gk_laload
theorem s_Flat_isBetter_39 {x y : Int64} : wps rm K Q c_Flat_isBetter_39 kc ks loc (.long y :: .long x :: st) h = wps rm K Q c_Flat_isBetter_40 kc ks loc (.long (x * y) :: st) h := gk_lmul
theorem s_Flat_isBetter_40 {x y : Int64} : wps rm K Q c_Flat_isBetter_40 kc ks loc (.long y :: .long x :: st) h = wps rm K Q c_Flat_isBetter_41 kc ks loc (.long (x + y) :: st) h := gk_ladd
theorem s_Flat_isBetter_41 {x : Int64} : wps rm K Q c_Flat_isBetter_41 kc ks loc (.long x :: st) h = wps rm K Q c_Flat_isBetter_42 kc ks (eg_set2 loc 2 (.long x)) (st) h := gk_lstore
theorem s_Flat_isBetter_42 {x : Int64} {l0 l1 : Option Value} {l : eg_Lo} : wps rm K Q c_Flat_isBetter_42 kc ks (l0 :: l1 :: some (.long x) :: l) (st) h = wps rm K Q c_Flat_isBetter_43 kc ks (l0 :: l1 :: some (.long x) :: l) (.long x :: st) h := gk_lload rfl
theorem s_Flat_isBetter_43  : wps rm K Q c_Flat_isBetter_43 kc ks loc (st) h = wps rm K Q c_Flat_isBetter_44 kc ks loc (.long (0) :: st) h := gk_lc (by decide)
theorem s_Flat_isBetter_44 {x y : Int64} : wps rm K Q c_Flat_isBetter_44 kc ks loc (.long y :: .long x :: st) h = wps rm K Q c_Flat_isBetter_45 kc ks loc (.int (lg_cmp x y) :: st) h := gk_lcmp
theorem s_Flat_isBetter_45 {x : Int32} : wps rm K Q c_Flat_isBetter_45 kc ks loc (.int x :: st) h = ((¬ x = 0 → K 50 kc ks loc st h) ∧ (x = 0 → wps rm K Q c_Flat_isBetter_48 kc ks loc (st) h)) := gk_if1_ne
theorem s_Flat_isBetter_48  : wps rm K Q c_Flat_isBetter_48 kc ks loc (st) h = wps rm K Q c_Flat_isBetter_49 kc ks loc (.int (0) :: st) h := gk_ic (by decide)
theorem s_Flat_isBetter_49 {x : Int32} : wps rm K Q c_Flat_isBetter_49 kc ks loc ([.int x]) h = (kc = rm.cells ∧ ((1 : Nat) = 1 → x = 0 ∨ x = 1) ∧ Q (some (.int x)) h) := gk_iret
theorem s_Flat_isBetter_50  : wps rm K Q c_Flat_isBetter_50 kc ks loc (st) h = wps rm K Q c_Flat_isBetter_51 kc ks loc (.int (0) :: st) h := gk_ic (by decide)
theorem s_Flat_isBetter_51 {x : Int32} : wps rm K Q c_Flat_isBetter_51 kc ks loc (.int x :: st) h = wps rm K Q c_Flat_isBetter_53 kc ks (eg_set1 loc 4 (.int x)) (st) h := gk_istore
theorem s_Flat_isBetter_53  : wps rm K Q c_Flat_isBetter_53 kc ks loc (st) h = wps rm K Q c_Flat_isBetter_54 kc ks loc (.int (0) :: st) h := gk_ic (by decide)
theorem s_Flat_isBetter_54 {x : Int32} : wps rm K Q c_Flat_isBetter_54 kc ks loc (.int x :: st) h = wps rm K Q c_Flat_isBetter_56 kc ks (eg_set1 loc 5 (.int x)) (st) h := gk_istore
theorem s_Flat_isBetter_56 {x : Nat} {l : eg_Lo} : wps rm K Q c_Flat_isBetter_56 kc ks (some (.ref x) :: l) (st) h = wps rm K Q c_Flat_isBetter_57 kc ks (some (.ref x) :: l) (.ref x :: st) h := gk_aload rfl
theorem s_Flat_isBetter_57 {x : Int32} {l0 : Option Value} {l : eg_Lo} : wps rm K Q c_Flat_isBetter_57 kc ks (l0 :: some (.int x) :: l) (st) h = wps rm K Q c_Flat_isBetter_58 kc ks (l0 :: some (.int x) :: l) (.int x :: st) h := gk_iload rfl
theorem s_Flat_isBetter_58  : wps rm K Q c_Flat_isBetter_58 kc ks loc (st) h = wps rm K Q c_Flat_isBetter_59 kc ks loc (.int (0) :: st) h := gk_ic (by decide)
theorem s_Flat_isBetter_59  {a1 : Value} {a2 : Value} {x : Nat} : wps rm K Q c_Flat_isBetter_59 kc ks loc (a2 :: a1 :: .ref (x + 1) :: st) h = (eg_cls h x 3 ∧ st.length ≤ 4 ∧ eg_Cs n_Flat_crossOf (.ref (x + 1) :: [a1, a2]) h (fun v h9 => wps rm K Q c_Flat_isBetter_62 kc ks loc (v.toList ++ st) h9)) := eg_c1_2
theorem s_Flat_isBetter_62 {x : Int64} : wps rm K Q c_Flat_isBetter_62 kc ks loc (.long x :: st) h = wps rm K Q c_Flat_isBetter_64 kc ks (eg_set2 loc 6 (.long x)) (st) h := gk_lstore
theorem s_Flat_isBetter_64 {x : Int64} {l0 l1 l2 l3 l4 l5 : Option Value} {l : eg_Lo} : wps rm K Q c_Flat_isBetter_64 kc ks (l0 :: l1 :: l2 :: l3 :: l4 :: l5 :: some (.long x) :: l) (st) h = wps rm K Q c_Flat_isBetter_66 kc ks (l0 :: l1 :: l2 :: l3 :: l4 :: l5 :: some (.long x) :: l) (.long x :: st) h := gk_lload rfl
theorem s_Flat_isBetter_66 {x : Int64} : wps rm K Q c_Flat_isBetter_66 kc ks loc (.long x :: st) h = wps rm K Q c_Flat_isBetter_68 kc ks (eg_set2 loc 8 (.long x)) (st) h := gk_lstore
theorem s_Flat_isBetter_68 {x : Nat} {l : eg_Lo} : wps rm K Q c_Flat_isBetter_68 kc ks (some (.ref x) :: l) (st) h = wps rm K Q c_Flat_isBetter_69 kc ks (some (.ref x) :: l) (.ref x :: st) h := gk_aload rfl
theorem s_Flat_isBetter_69  : wps rm K Q c_Flat_isBetter_69 kc ks loc (st) h = wps rm K Q c_Flat_isBetter_70 kc ks loc (.long (0) :: st) h := gk_lc (by decide)
theorem s_Flat_isBetter_70 {x : Int64} {l0 l1 : Option Value} {l : eg_Lo} : wps rm K Q c_Flat_isBetter_70 kc ks (l0 :: l1 :: some (.long x) :: l) (st) h = wps rm K Q c_Flat_isBetter_71 kc ks (l0 :: l1 :: some (.long x) :: l) (.long x :: st) h := gk_lload rfl
theorem s_Flat_isBetter_71  {a1 : Value} {a2 : Value} {x : Nat} : wps rm K Q c_Flat_isBetter_71 kc ks loc (a2 :: a1 :: .ref (x + 1) :: st) h = (eg_cls h x 3 ∧ st.length ≤ 4 ∧ eg_Cs n_Flat_isBeaten (.ref (x + 1) :: [a1, a2]) h (fun v h9 => wps rm K Q c_Flat_isBetter_74 kc ks loc (v.toList ++ st) h9)) := eg_c1_2
theorem s_Flat_isBetter_74 {x : Int32} : wps rm K Q c_Flat_isBetter_74 kc ks loc (.int x :: st) h = wps rm K Q c_Flat_isBetter_76 kc ks (eg_set1 loc 10 (.int x)) (st) h := gk_istore
theorem s_Flat_isBetter_76  : wps rm K Q c_Flat_isBetter_76 kc ks loc (st) h = wps rm K Q c_Flat_isBetter_77 kc ks loc (.int (1) :: st) h := gk_ic (by decide)
theorem s_Flat_isBetter_77 {x : Int32} : wps rm K Q c_Flat_isBetter_77 kc ks loc (.int x :: st) h = wps rm K Q z_Flat_isBetter_79 kc ks (eg_set1 loc 11 (.int x)) (st) h := gk_istore
theorem s_Flat_isBetter_79 {x : Int32} {l0 l1 l2 l3 l4 l5 l6 l7 l8 l9 l10 : Option Value} {l : eg_Lo} : wps rm K Q c_Flat_isBetter_79 kc ks (l0 :: l1 :: l2 :: l3 :: l4 :: l5 :: l6 :: l7 :: l8 :: l9 :: l10 :: some (.int x) :: l) (st) h = wps rm K Q c_Flat_isBetter_81 kc ks (l0 :: l1 :: l2 :: l3 :: l4 :: l5 :: l6 :: l7 :: l8 :: l9 :: l10 :: some (.int x) :: l) (.int x :: st) h := gk_iload rfl
theorem s_Flat_isBetter_81 {x : Nat} {l : eg_Lo} : wps rm K Q c_Flat_isBetter_81 kc ks (some (.ref x) :: l) (st) h = wps rm K Q c_Flat_isBetter_82 kc ks (some (.ref x) :: l) (.ref x :: st) h := gk_aload rfl
theorem s_Flat_isBetter_82 {x : Nat} : wps rm K Q c_Flat_isBetter_82 kc ks loc (.ref (x + 1) :: st) h = eg_gf h x 3 0 (fun v => wps rm K Q c_Flat_isBetter_85 kc ks loc (v :: st) h) := gk_gf
theorem s_Flat_isBetter_85 {x : Nat} : wps rm K Q c_Flat_isBetter_85 kc ks loc (.ref (x + 1) :: st) h = eg_gf h x 10 4 (fun v => wps rm K Q c_Flat_isBetter_88 kc ks loc (v :: st) h) := gk_gf
theorem s_Flat_isBetter_88 {x y : Int32} : wps rm K Q c_Flat_isBetter_88 kc ks loc (.int y :: .int x :: st) h = ((y ≤ x → K 170 kc ks loc st h) ∧ (¬ y ≤ x → wps rm K Q c_Flat_isBetter_91 kc ks loc (st) h)) := gk_if2_ge
theorem s_Flat_isBetter_91 {x : Int32} {l0 l1 l2 l3 l4 l5 l6 l7 l8 l9 : Option Value} {l : eg_Lo} : wps rm K Q c_Flat_isBetter_91 kc ks (l0 :: l1 :: l2 :: l3 :: l4 :: l5 :: l6 :: l7 :: l8 :: l9 :: some (.int x) :: l) (st) h = wps rm K Q c_Flat_isBetter_93 kc ks (l0 :: l1 :: l2 :: l3 :: l4 :: l5 :: l6 :: l7 :: l8 :: l9 :: some (.int x) :: l) (.int x :: st) h := gk_iload rfl
theorem s_Flat_isBetter_93 {x : Int32} : wps rm K Q c_Flat_isBetter_93 kc ks loc (.int x :: st) h = ((¬ x = 0 → K 170 kc ks loc st h) ∧ (x = 0 → wps rm K Q c_Flat_isBetter_96 kc ks loc (st) h)) := gk_if1_ne
theorem s_Flat_isBetter_96 {x : Nat} {l : eg_Lo} : wps rm K Q c_Flat_isBetter_96 kc ks (some (.ref x) :: l) (st) h = wps rm K Q c_Flat_isBetter_97 kc ks (some (.ref x) :: l) (.ref x :: st) h := gk_aload rfl
theorem s_Flat_isBetter_97 {x : Int32} {l0 : Option Value} {l : eg_Lo} : wps rm K Q c_Flat_isBetter_97 kc ks (l0 :: some (.int x) :: l) (st) h = wps rm K Q c_Flat_isBetter_98 kc ks (l0 :: some (.int x) :: l) (.int x :: st) h := gk_iload rfl
theorem s_Flat_isBetter_98 {x : Int32} {l0 l1 l2 l3 l4 l5 l6 l7 l8 l9 l10 : Option Value} {l : eg_Lo} : wps rm K Q c_Flat_isBetter_98 kc ks (l0 :: l1 :: l2 :: l3 :: l4 :: l5 :: l6 :: l7 :: l8 :: l9 :: l10 :: some (.int x) :: l) (st) h = wps rm K Q c_Flat_isBetter_100 kc ks (l0 :: l1 :: l2 :: l3 :: l4 :: l5 :: l6 :: l7 :: l8 :: l9 :: l10 :: some (.int x) :: l) (.int x :: st) h := gk_iload rfl
theorem s_Flat_isBetter_100  {a1 : Value} {a2 : Value} {x : Nat} : wps rm K Q c_Flat_isBetter_100 kc ks loc (a2 :: a1 :: .ref (x + 1) :: st) h = (eg_cls h x 3 ∧ st.length ≤ 4 ∧ eg_Cs n_Flat_crossOf (.ref (x + 1) :: [a1, a2]) h (fun v h9 => wps rm K Q c_Flat_isBetter_103 kc ks loc (v.toList ++ st) h9)) := eg_c1_2
theorem s_Flat_isBetter_103 {x : Int64} : wps rm K Q c_Flat_isBetter_103 kc ks loc (.long x :: st) h = wps rm K Q c_Flat_isBetter_105 kc ks (eg_set2 loc 12 (.long x)) (st) h := gk_lstore
theorem s_Flat_isBetter_105 {x : Int64} {l0 l1 l2 l3 l4 l5 l6 l7 l8 l9 l10 l11 : Option Value} {l : eg_Lo} : wps rm K Q c_Flat_isBetter_105 kc ks (l0 :: l1 :: l2 :: l3 :: l4 :: l5 :: l6 :: l7 :: l8 :: l9 :: l10 :: l11 :: some (.long x) :: l) (st) h = wps rm K Q c_Flat_isBetter_107 kc ks (l0 :: l1 :: l2 :: l3 :: l4 :: l5 :: l6 :: l7 :: l8 :: l9 :: l10 :: l11 :: some (.long x) :: l) (.long x :: st) h := gk_lload rfl
theorem s_Flat_isBetter_107 {x : Int64} {l0 l1 l2 l3 l4 l5 : Option Value} {l : eg_Lo} : wps rm K Q c_Flat_isBetter_107 kc ks (l0 :: l1 :: l2 :: l3 :: l4 :: l5 :: some (.long x) :: l) (st) h = wps rm K Q c_Flat_isBetter_109 kc ks (l0 :: l1 :: l2 :: l3 :: l4 :: l5 :: some (.long x) :: l) (.long x :: st) h := gk_lload rfl
theorem s_Flat_isBetter_109 {x y : Int64} : wps rm K Q c_Flat_isBetter_109 kc ks loc (.long y :: .long x :: st) h = wps rm K Q c_Flat_isBetter_110 kc ks loc (.int (lg_cmp x y) :: st) h := gk_lcmp
theorem s_Flat_isBetter_110 {x : Int32} : wps rm K Q c_Flat_isBetter_110 kc ks loc (.int x :: st) h = ((x ≤ 0 → K 136 kc ks loc st h) ∧ (¬ x ≤ 0 → wps rm K Q c_Flat_isBetter_113 kc ks loc (st) h)) := gk_if1_le
theorem s_Flat_isBetter_113 {x : Int64} {l0 l1 l2 l3 l4 l5 l6 l7 l8 l9 l10 l11 : Option Value} {l : eg_Lo} : wps rm K Q c_Flat_isBetter_113 kc ks (l0 :: l1 :: l2 :: l3 :: l4 :: l5 :: l6 :: l7 :: l8 :: l9 :: l10 :: l11 :: some (.long x) :: l) (st) h = wps rm K Q c_Flat_isBetter_115 kc ks (l0 :: l1 :: l2 :: l3 :: l4 :: l5 :: l6 :: l7 :: l8 :: l9 :: l10 :: l11 :: some (.long x) :: l) (.long x :: st) h := gk_lload rfl
theorem s_Flat_isBetter_115 {x : Int64} : wps rm K Q c_Flat_isBetter_115 kc ks loc (.long x :: st) h = wps rm K Q c_Flat_isBetter_117 kc ks (eg_set2 loc 6 (.long x)) (st) h := gk_lstore
theorem s_Flat_isBetter_117 {x : Int32} {l0 l1 l2 l3 l4 l5 l6 l7 l8 l9 l10 : Option Value} {l : eg_Lo} : wps rm K Q c_Flat_isBetter_117 kc ks (l0 :: l1 :: l2 :: l3 :: l4 :: l5 :: l6 :: l7 :: l8 :: l9 :: l10 :: some (.int x) :: l) (st) h = wps rm K Q c_Flat_isBetter_119 kc ks (l0 :: l1 :: l2 :: l3 :: l4 :: l5 :: l6 :: l7 :: l8 :: l9 :: l10 :: some (.int x) :: l) (.int x :: st) h := gk_iload rfl
theorem s_Flat_isBetter_119 {x : Int32} : wps rm K Q c_Flat_isBetter_119 kc ks loc (.int x :: st) h = wps rm K Q c_Flat_isBetter_121 kc ks (eg_set1 loc 4 (.int x)) (st) h := gk_istore
theorem s_Flat_isBetter_121 {x : Nat} {l : eg_Lo} : wps rm K Q c_Flat_isBetter_121 kc ks (some (.ref x) :: l) (st) h = wps rm K Q c_Flat_isBetter_122 kc ks (some (.ref x) :: l) (.ref x :: st) h := gk_aload rfl
theorem s_Flat_isBetter_122 {x : Int64} {l0 l1 l2 l3 l4 l5 : Option Value} {l : eg_Lo} : wps rm K Q c_Flat_isBetter_122 kc ks (l0 :: l1 :: l2 :: l3 :: l4 :: l5 :: some (.long x) :: l) (st) h = wps rm K Q c_Flat_isBetter_124 kc ks (l0 :: l1 :: l2 :: l3 :: l4 :: l5 :: some (.long x) :: l) (.long x :: st) h := gk_lload rfl
theorem s_Flat_isBetter_124 {x : Int64} {l0 l1 l2 l3 l4 l5 l6 l7 : Option Value} {l : eg_Lo} : wps rm K Q c_Flat_isBetter_124 kc ks (l0 :: l1 :: l2 :: l3 :: l4 :: l5 :: l6 :: l7 :: some (.long x) :: l) (st) h = wps rm K Q c_Flat_isBetter_126 kc ks (l0 :: l1 :: l2 :: l3 :: l4 :: l5 :: l6 :: l7 :: some (.long x) :: l) (.long x :: st) h := gk_lload rfl
theorem s_Flat_isBetter_126 {x y : Int64} : wps rm K Q c_Flat_isBetter_126 kc ks loc (.long y :: .long x :: st) h = wps rm K Q c_Flat_isBetter_127 kc ks loc (.long (x - y) :: st) h := gk_lsub
theorem s_Flat_isBetter_127 {x : Int64} {l0 l1 : Option Value} {l : eg_Lo} : wps rm K Q c_Flat_isBetter_127 kc ks (l0 :: l1 :: some (.long x) :: l) (st) h = wps rm K Q c_Flat_isBetter_128 kc ks (l0 :: l1 :: some (.long x) :: l) (.long x :: st) h := gk_lload rfl
theorem s_Flat_isBetter_128  {a1 : Value} {a2 : Value} {x : Nat} : wps rm K Q c_Flat_isBetter_128 kc ks loc (a2 :: a1 :: .ref (x + 1) :: st) h = (eg_cls h x 3 ∧ st.length ≤ 4 ∧ eg_Cs n_Flat_isBeaten (.ref (x + 1) :: [a1, a2]) h (fun v h9 => wps rm K Q c_Flat_isBetter_131 kc ks loc (v.toList ++ st) h9)) := eg_c1_2
theorem s_Flat_isBetter_131 {x : Int32} : wps rm K Q c_Flat_isBetter_131 kc ks loc (.int x :: st) h = wps rm K Q c_Flat_isBetter_133 kc ks (eg_set1 loc 10 (.int x)) (st) h := gk_istore
theorem s_Flat_isBetter_133  : wps rm K Q c_Flat_isBetter_133 kc ks loc (st) h = K 164 kc ks loc st h := gk_goto
theorem s_Flat_isBetter_136 {x : Int64} {l0 l1 l2 l3 l4 l5 l6 l7 l8 l9 l10 l11 : Option Value} {l : eg_Lo} : wps rm K Q c_Flat_isBetter_136 kc ks (l0 :: l1 :: l2 :: l3 :: l4 :: l5 :: l6 :: l7 :: l8 :: l9 :: l10 :: l11 :: some (.long x) :: l) (st) h = wps rm K Q c_Flat_isBetter_138 kc ks (l0 :: l1 :: l2 :: l3 :: l4 :: l5 :: l6 :: l7 :: l8 :: l9 :: l10 :: l11 :: some (.long x) :: l) (.long x :: st) h := gk_lload rfl
theorem s_Flat_isBetter_138 {x : Int64} {l0 l1 l2 l3 l4 l5 l6 l7 : Option Value} {l : eg_Lo} : wps rm K Q c_Flat_isBetter_138 kc ks (l0 :: l1 :: l2 :: l3 :: l4 :: l5 :: l6 :: l7 :: some (.long x) :: l) (st) h = wps rm K Q c_Flat_isBetter_140 kc ks (l0 :: l1 :: l2 :: l3 :: l4 :: l5 :: l6 :: l7 :: some (.long x) :: l) (.long x :: st) h := gk_lload rfl
theorem s_Flat_isBetter_140 {x y : Int64} : wps rm K Q c_Flat_isBetter_140 kc ks loc (.long y :: .long x :: st) h = wps rm K Q c_Flat_isBetter_141 kc ks loc (.int (lg_cmp x y) :: st) h := gk_lcmp
theorem s_Flat_isBetter_141 {x : Int32} : wps rm K Q c_Flat_isBetter_141 kc ks loc (.int x :: st) h = ((0 ≤ x → K 164 kc ks loc st h) ∧ (¬ 0 ≤ x → wps rm K Q c_Flat_isBetter_144 kc ks loc (st) h)) := gk_if1_ge
theorem s_Flat_isBetter_144 {x : Int64} {l0 l1 l2 l3 l4 l5 l6 l7 l8 l9 l10 l11 : Option Value} {l : eg_Lo} : wps rm K Q c_Flat_isBetter_144 kc ks (l0 :: l1 :: l2 :: l3 :: l4 :: l5 :: l6 :: l7 :: l8 :: l9 :: l10 :: l11 :: some (.long x) :: l) (st) h = wps rm K Q c_Flat_isBetter_146 kc ks (l0 :: l1 :: l2 :: l3 :: l4 :: l5 :: l6 :: l7 :: l8 :: l9 :: l10 :: l11 :: some (.long x) :: l) (.long x :: st) h := gk_lload rfl
theorem s_Flat_isBetter_146 {x : Int64} : wps rm K Q c_Flat_isBetter_146 kc ks loc (.long x :: st) h = wps rm K Q c_Flat_isBetter_148 kc ks (eg_set2 loc 8 (.long x)) (st) h := gk_lstore
theorem s_Flat_isBetter_148 {x : Int32} {l0 l1 l2 l3 l4 l5 l6 l7 l8 l9 l10 : Option Value} {l : eg_Lo} : wps rm K Q c_Flat_isBetter_148 kc ks (l0 :: l1 :: l2 :: l3 :: l4 :: l5 :: l6 :: l7 :: l8 :: l9 :: l10 :: some (.int x) :: l) (st) h = wps rm K Q c_Flat_isBetter_150 kc ks (l0 :: l1 :: l2 :: l3 :: l4 :: l5 :: l6 :: l7 :: l8 :: l9 :: l10 :: some (.int x) :: l) (.int x :: st) h := gk_iload rfl
theorem s_Flat_isBetter_150 {x : Int32} : wps rm K Q c_Flat_isBetter_150 kc ks loc (.int x :: st) h = wps rm K Q c_Flat_isBetter_152 kc ks (eg_set1 loc 5 (.int x)) (st) h := gk_istore
theorem s_Flat_isBetter_152 {x : Nat} {l : eg_Lo} : wps rm K Q c_Flat_isBetter_152 kc ks (some (.ref x) :: l) (st) h = wps rm K Q c_Flat_isBetter_153 kc ks (some (.ref x) :: l) (.ref x :: st) h := gk_aload rfl
theorem s_Flat_isBetter_153 {x : Int64} {l0 l1 l2 l3 l4 l5 : Option Value} {l : eg_Lo} : wps rm K Q c_Flat_isBetter_153 kc ks (l0 :: l1 :: l2 :: l3 :: l4 :: l5 :: some (.long x) :: l) (st) h = wps rm K Q c_Flat_isBetter_155 kc ks (l0 :: l1 :: l2 :: l3 :: l4 :: l5 :: some (.long x) :: l) (.long x :: st) h := gk_lload rfl
theorem s_Flat_isBetter_155 {x : Int64} {l0 l1 l2 l3 l4 l5 l6 l7 : Option Value} {l : eg_Lo} : wps rm K Q c_Flat_isBetter_155 kc ks (l0 :: l1 :: l2 :: l3 :: l4 :: l5 :: l6 :: l7 :: some (.long x) :: l) (st) h = wps rm K Q c_Flat_isBetter_157 kc ks (l0 :: l1 :: l2 :: l3 :: l4 :: l5 :: l6 :: l7 :: some (.long x) :: l) (.long x :: st) h := gk_lload rfl
theorem s_Flat_isBetter_157 {x y : Int64} : wps rm K Q c_Flat_isBetter_157 kc ks loc (.long y :: .long x :: st) h = wps rm K Q c_Flat_isBetter_158 kc ks loc (.long (x - y) :: st) h := gk_lsub
theorem s_Flat_isBetter_158 {x : Int64} {l0 l1 : Option Value} {l : eg_Lo} : wps rm K Q c_Flat_isBetter_158 kc ks (l0 :: l1 :: some (.long x) :: l) (st) h = wps rm K Q c_Flat_isBetter_159 kc ks (l0 :: l1 :: some (.long x) :: l) (.long x :: st) h := gk_lload rfl
theorem s_Flat_isBetter_159  {a1 : Value} {a2 : Value} {x : Nat} : wps rm K Q c_Flat_isBetter_159 kc ks loc (a2 :: a1 :: .ref (x + 1) :: st) h = (eg_cls h x 3 ∧ st.length ≤ 4 ∧ eg_Cs n_Flat_isBeaten (.ref (x + 1) :: [a1, a2]) h (fun v h9 => wps rm K Q c_Flat_isBetter_162 kc ks loc (v.toList ++ st) h9)) := eg_c1_2
theorem s_Flat_isBetter_162 {x : Int32} : wps rm K Q c_Flat_isBetter_162 kc ks loc (.int x :: st) h = wps rm K Q c_Flat_isBetter_164 kc ks (eg_set1 loc 10 (.int x)) (st) h := gk_istore
theorem s_Flat_isBetter_164 {x : Int32} {l0 l1 l2 l3 l4 l5 l6 l7 l8 l9 l10 : Option Value} {lz : eg_Lo} : wps rm K Q c_Flat_isBetter_164 kc ks (l0 :: l1 :: l2 :: l3 :: l4 :: l5 :: l6 :: l7 :: l8 :: l9 :: l10 :: some (.int x) :: lz) (st) h = wps rm K Q c_Flat_isBetter_167 kc ks (eg_set1 (l0 :: l1 :: l2 :: l3 :: l4 :: l5 :: l6 :: l7 :: l8 :: l9 :: l10 :: some (.int x) :: lz) 11 (.int (x + (1)))) (st) h := gk_iinc rfl (by decide)
theorem s_Flat_isBetter_167  : wps rm K Q c_Flat_isBetter_167 kc ks loc (st) h = K 79 kc ks loc st h := gk_goto
theorem s_Flat_isBetter_170 {x : Int32} {l0 l1 l2 l3 l4 l5 l6 l7 l8 l9 : Option Value} {l : eg_Lo} : wps rm K Q c_Flat_isBetter_170 kc ks (l0 :: l1 :: l2 :: l3 :: l4 :: l5 :: l6 :: l7 :: l8 :: l9 :: some (.int x) :: l) (st) h = wps rm K Q c_Flat_isBetter_172 kc ks (l0 :: l1 :: l2 :: l3 :: l4 :: l5 :: l6 :: l7 :: l8 :: l9 :: some (.int x) :: l) (.int x :: st) h := gk_iload rfl
theorem s_Flat_isBetter_172 {x : Int32} : wps rm K Q c_Flat_isBetter_172 kc ks loc (.int x :: st) h = ((¬ x = 0 → K 189 kc ks loc st h) ∧ (x = 0 → wps rm K Q c_Flat_isBetter_175 kc ks loc (st) h)) := gk_if1_ne
theorem s_Flat_isBetter_175 {x : Nat} {l : eg_Lo} : wps rm K Q c_Flat_isBetter_175 kc ks (some (.ref x) :: l) (st) h = wps rm K Q c_Flat_isBetter_176 kc ks (some (.ref x) :: l) (.ref x :: st) h := gk_aload rfl
theorem s_Flat_isBetter_176 {x : Int64} {l0 l1 l2 l3 l4 l5 : Option Value} {l : eg_Lo} : wps rm K Q c_Flat_isBetter_176 kc ks (l0 :: l1 :: l2 :: l3 :: l4 :: l5 :: some (.long x) :: l) (st) h = wps rm K Q c_Flat_isBetter_178 kc ks (l0 :: l1 :: l2 :: l3 :: l4 :: l5 :: some (.long x) :: l) (.long x :: st) h := gk_lload rfl
theorem s_Flat_isBetter_178 {x : Int64} {l0 l1 l2 l3 l4 l5 l6 l7 : Option Value} {l : eg_Lo} : wps rm K Q c_Flat_isBetter_178 kc ks (l0 :: l1 :: l2 :: l3 :: l4 :: l5 :: l6 :: l7 :: some (.long x) :: l) (st) h = wps rm K Q c_Flat_isBetter_180 kc ks (l0 :: l1 :: l2 :: l3 :: l4 :: l5 :: l6 :: l7 :: some (.long x) :: l) (.long x :: st) h := gk_lload rfl
theorem s_Flat_isBetter_180 {x y : Int64} : wps rm K Q c_Flat_isBetter_180 kc ks loc (.long y :: .long x :: st) h = wps rm K Q c_Flat_isBetter_181 kc ks loc (.long (x - y) :: st) h := gk_lsub
theorem s_Flat_isBetter_181 {x : Int64} {l0 l1 : Option Value} {l : eg_Lo} : wps rm K Q c_Flat_isBetter_181 kc ks (l0 :: l1 :: some (.long x) :: l) (st) h = wps rm K Q c_Flat_isBetter_182 kc ks (l0 :: l1 :: some (.long x) :: l) (.long x :: st) h := gk_lload rfl
theorem s_Flat_isBetter_182 {x : Int32} {l0 l1 l2 l3 : Option Value} {l : eg_Lo} : wps rm K Q c_Flat_isBetter_182 kc ks (l0 :: l1 :: l2 :: l3 :: some (.int x) :: l) (st) h = wps rm K Q c_Flat_isBetter_184 kc ks (l0 :: l1 :: l2 :: l3 :: some (.int x) :: l) (.int x :: st) h := gk_iload rfl
theorem s_Flat_isBetter_184 {x : Int32} {l0 l1 l2 l3 l4 : Option Value} {l : eg_Lo} : wps rm K Q c_Flat_isBetter_184 kc ks (l0 :: l1 :: l2 :: l3 :: l4 :: some (.int x) :: l) (st) h = wps rm K Q c_Flat_isBetter_186 kc ks (l0 :: l1 :: l2 :: l3 :: l4 :: some (.int x) :: l) (.int x :: st) h := gk_iload rfl
theorem s_Flat_isBetter_186  {a1 : Value} {a2 : Value} {a3 : Value} {a4 : Value} {x : Nat} : wps rm K Q c_Flat_isBetter_186 kc ks loc (a4 :: a3 :: a2 :: a1 :: .ref (x + 1) :: st) h = (eg_cls h x 3 ∧ st.length ≤ 4 ∧ eg_Cs n_Flat_keepBest (.ref (x + 1) :: [a1, a2, a3, a4]) h (fun v h9 => wps rm K Q c_Flat_isBetter_189 kc ks loc (v.toList ++ st) h9)) := eg_c1_4
theorem s_Flat_isBetter_189 {x : Int32} {l0 l1 l2 l3 l4 l5 l6 l7 l8 l9 : Option Value} {l : eg_Lo} : wps rm K Q c_Flat_isBetter_189 kc ks (l0 :: l1 :: l2 :: l3 :: l4 :: l5 :: l6 :: l7 :: l8 :: l9 :: some (.int x) :: l) (st) h = wps rm K Q c_Flat_isBetter_191 kc ks (l0 :: l1 :: l2 :: l3 :: l4 :: l5 :: l6 :: l7 :: l8 :: l9 :: some (.int x) :: l) (.int x :: st) h := gk_iload rfl
theorem s_Flat_isBetter_191 {x : Int32} : wps rm K Q c_Flat_isBetter_191 kc ks loc (.int x :: st) h = ((¬ x = 0 → K 198 kc ks loc st h) ∧ (x = 0 → wps rm K Q c_Flat_isBetter_194 kc ks loc (st) h)) := gk_if1_ne
theorem s_Flat_isBetter_194  : wps rm K Q c_Flat_isBetter_194 kc ks loc (st) h = wps rm K Q c_Flat_isBetter_195 kc ks loc (.int (1) :: st) h := gk_ic (by decide)
theorem s_Flat_isBetter_195  : wps rm K Q c_Flat_isBetter_195 kc ks loc (st) h = K 199 kc ks loc st h := gk_goto
theorem s_Flat_isBetter_198  : wps rm K Q c_Flat_isBetter_198 kc ks loc (st) h = wps rm K Q c_Flat_isBetter_199 kc ks loc (.int (0) :: st) h := gk_ic (by decide)
theorem s_Flat_isBetter_199 {x : Int32} : wps rm K Q c_Flat_isBetter_199 kc ks loc ([.int x]) h = (kc = rm.cells ∧ ((1 : Nat) = 1 → x = 0 ∨ x = 1) ∧ Q (some (.int x)) h) := gk_iret
theorem sz_Flat_isBetter_79 : wps rm K Q z_Flat_isBetter_79 kc ks loc st h = K 79 kc ks loc st h := gk_nop
def T_Flat_isBetter : List (Nat × List eg_I) := [(50, c_Flat_isBetter_50), (136, c_Flat_isBetter_136), (164, c_Flat_isBetter_164), (170, c_Flat_isBetter_170), (189, c_Flat_isBetter_189), (198, c_Flat_isBetter_198), (199, c_Flat_isBetter_199)]
theorem j_Flat_isBetter_50 {R : Nat → Nat → Nat → eg_Lo → List Value → List eg_E → Prop} {f pc0 : Nat} : eg_run rm R Q T_Flat_isBetter (f + 1) 50 kc ks loc st h = wps rm (eg_run rm R Q T_Flat_isBetter f) Q c_Flat_isBetter_50 kc ks loc st h := rfl
theorem j_Flat_isBetter_136 {R : Nat → Nat → Nat → eg_Lo → List Value → List eg_E → Prop} {f pc0 : Nat} : eg_run rm R Q T_Flat_isBetter (f + 1) 136 kc ks loc st h = wps rm (eg_run rm R Q T_Flat_isBetter f) Q c_Flat_isBetter_136 kc ks loc st h := rfl
theorem j_Flat_isBetter_164 {R : Nat → Nat → Nat → eg_Lo → List Value → List eg_E → Prop} {f pc0 : Nat} : eg_run rm R Q T_Flat_isBetter (f + 1) 164 kc ks loc st h = wps rm (eg_run rm R Q T_Flat_isBetter f) Q c_Flat_isBetter_164 kc ks loc st h := rfl
theorem j_Flat_isBetter_170 {R : Nat → Nat → Nat → eg_Lo → List Value → List eg_E → Prop} {f pc0 : Nat} : eg_run rm R Q T_Flat_isBetter (f + 1) 170 kc ks loc st h = wps rm (eg_run rm R Q T_Flat_isBetter f) Q c_Flat_isBetter_170 kc ks loc st h := rfl
theorem j_Flat_isBetter_189 {R : Nat → Nat → Nat → eg_Lo → List Value → List eg_E → Prop} {f pc0 : Nat} : eg_run rm R Q T_Flat_isBetter (f + 1) 189 kc ks loc st h = wps rm (eg_run rm R Q T_Flat_isBetter f) Q c_Flat_isBetter_189 kc ks loc st h := rfl
theorem j_Flat_isBetter_198 {R : Nat → Nat → Nat → eg_Lo → List Value → List eg_E → Prop} {f pc0 : Nat} : eg_run rm R Q T_Flat_isBetter (f + 1) 198 kc ks loc st h = wps rm (eg_run rm R Q T_Flat_isBetter f) Q c_Flat_isBetter_198 kc ks loc st h := rfl
theorem j_Flat_isBetter_199 {R : Nat → Nat → Nat → eg_Lo → List Value → List eg_E → Prop} {f pc0 : Nat} : eg_run rm R Q T_Flat_isBetter (f + 1) 199 kc ks loc st h = wps rm (eg_run rm R Q T_Flat_isBetter f) Q c_Flat_isBetter_199 kc ks loc st h := rfl
theorem j_Flat_isBetter_79 {R : Nat → Nat → Nat → eg_Lo → List Value → List eg_E → Prop} {f pc0 : Nat} : eg_run rm R Q T_Flat_isBetter (f + 1) 79 kc ks loc st h = R 79 kc ks loc st h := rfl
end
theorem y_Flat_isBetter_0 : eg_seq m_Flat_isBetter 0 c_Flat_isBetter_0 = true := by decide +kernel
theorem y_Flat_isBetter_50 : eg_seq m_Flat_isBetter 50 c_Flat_isBetter_50 = true := by decide +kernel
theorem y_Flat_isBetter_79 : eg_seq m_Flat_isBetter 79 c_Flat_isBetter_79 = true := by decide +kernel
theorem y_Flat_isBetter_136 : eg_seq m_Flat_isBetter 136 c_Flat_isBetter_136 = true := by decide +kernel
theorem y_Flat_isBetter_170 : eg_seq m_Flat_isBetter 170 c_Flat_isBetter_170 = true := by decide +kernel
theorem y_Flat_isBetter_198 : eg_seq m_Flat_isBetter 198 c_Flat_isBetter_198 = true := by decide +kernel
theorem q_Flat_isBetter : ∀ q ∈ T_Flat_isBetter, eg_seq m_Flat_isBetter q.1 q.2 = true := by
  intro q hq
  simp only [T_Flat_isBetter, List.mem_cons, List.not_mem_nil, or_false] at hq
  rcases hq with rfl | rfl | rfl | rfl | rfl | rfl | rfl
  · exact y_Flat_isBetter_50
  · exact y_Flat_isBetter_136
  · exact (eg_seq_drop y_Flat_isBetter_136 15 : eg_seq m_Flat_isBetter 164 c_Flat_isBetter_164 = true)
  · exact y_Flat_isBetter_170
  · exact (eg_seq_drop y_Flat_isBetter_170 10 : eg_seq m_Flat_isBetter 189 c_Flat_isBetter_189 = true)
  · exact y_Flat_isBetter_198
  · exact (eg_seq_drop y_Flat_isBetter_198 1 : eg_seq m_Flat_isBetter 199 c_Flat_isBetter_199 = true)
theorem b_Flat_isBetter {as : List Value} {h : List eg_E} {Q : Option Value → List eg_E → Prop} (hf : (eg_fl as).length ≤ 14) (hw : wps (eg_rm m_Flat_isBetter) (eg_run (eg_rm m_Flat_isBetter) (eg_R m_Flat_isBetter Q (h.length + 0)) Q T_Flat_isBetter 9) Q c_Flat_isBetter_0 0 0 (eg_entry 14 as) [] h) : eg_Runs n_Flat_isBetter as h Q := eg_begin2 (d := m_Flat_isBetter) rfl (by decide) y_Flat_isBetter_0 q_Flat_isBetter hf hw
theorem p_Flat_isBetter_79 {Q : Option Value → List eg_E → Prop} {n0 kc ks : Nat} {loc : eg_Lo} {st : List Value} {h : List eg_E} (hw : wps (eg_rm m_Flat_isBetter) (eg_run (eg_rm m_Flat_isBetter) (eg_R m_Flat_isBetter Q n0) Q T_Flat_isBetter 9) Q c_Flat_isBetter_79 kc ks loc st h) : eg_R m_Flat_isBetter Q n0 79 kc ks loc st h := eg_go2 y_Flat_isBetter_79 q_Flat_isBetter hw
/-! ===== Flat_keepBest ===== -/
def c_Flat_keepBest_43 : List eg_I := .inl (43, 1, .return_, 0, 0) :: []
def c_Flat_keepBest_40 : List eg_I := .inl (40, 3, .putstatic 51, 3, 4) :: c_Flat_keepBest_43
def c_Flat_keepBest_39 : List eg_I := .inl (39, 1, .iconst (1), 0, 0) :: c_Flat_keepBest_40
def c_Flat_keepBest_38 : List eg_I := .inl (38, 1, .aload 0, 0, 0) :: c_Flat_keepBest_39
def c_Flat_keepBest_35 : List eg_I := .inl (35, 3, .monitorexit, 104, 0) :: c_Flat_keepBest_38
def c_Flat_keepBest_34 : List eg_I := .inl (34, 1, .iconst (3), 0, 0) :: c_Flat_keepBest_35
def c_Flat_keepBest_33 : List eg_I := .inl (33, 1, .iconst (0), 0, 0) :: c_Flat_keepBest_34
def c_Flat_keepBest_30 : List eg_I := .inl (30, 3, .getfield 22, 3, 2) :: c_Flat_keepBest_33
def c_Flat_keepBest_29 : List eg_I := .inl (29, 1, .aload 0, 0, 0) :: c_Flat_keepBest_30
def c_Flat_keepBest_28 : List eg_I := .inl (28, 1, .iconst (0), 0, 0) :: c_Flat_keepBest_29
def c_Flat_keepBest_25 : List eg_I := .inl (25, 3, .getfield 18, 3, 1) :: c_Flat_keepBest_28
def c_Flat_keepBest_24 : List eg_I := .inl (24, 1, .aload 0, 0, 0) :: c_Flat_keepBest_25
def c_Flat_keepBest_21 : List eg_I := .inl (21, 3, .putfield 101, 3, 8) :: c_Flat_keepBest_24
def c_Flat_keepBest_19 : List eg_I := .inl (19, 2, .iload 6, 0, 0) :: c_Flat_keepBest_21
def c_Flat_keepBest_18 : List eg_I := .inl (18, 1, .aload 0, 0, 0) :: c_Flat_keepBest_19
def c_Flat_keepBest_15 : List eg_I := .inl (15, 3, .putfield 98, 3, 7) :: c_Flat_keepBest_18
def c_Flat_keepBest_13 : List eg_I := .inl (13, 2, .iload 5, 0, 0) :: c_Flat_keepBest_15
def c_Flat_keepBest_12 : List eg_I := .inl (12, 1, .aload 0, 0, 0) :: c_Flat_keepBest_13
def c_Flat_keepBest_9 : List eg_I := .inl (9, 3, .putfield 95, 3, 6) :: c_Flat_keepBest_12
def c_Flat_keepBest_8 : List eg_I := .inl (8, 1, .lload 3, 0, 0) :: c_Flat_keepBest_9
def c_Flat_keepBest_7 : List eg_I := .inl (7, 1, .aload 0, 0, 0) :: c_Flat_keepBest_8
def c_Flat_keepBest_4 : List eg_I := .inl (4, 3, .putfield 91, 3, 5) :: c_Flat_keepBest_7
def c_Flat_keepBest_3 : List eg_I := .inl (3, 1, .lmul, 0, 0) :: c_Flat_keepBest_4
def c_Flat_keepBest_2 : List eg_I := .inl (2, 1, .lload 1, 0, 0) :: c_Flat_keepBest_3
def c_Flat_keepBest_1 : List eg_I := .inl (1, 1, .lload 1, 0, 0) :: c_Flat_keepBest_2
def c_Flat_keepBest_0 : List eg_I := .inl (0, 1, .aload 0, 0, 0) :: c_Flat_keepBest_1
section
variable {rm : Room} {K : Nat → Nat → Nat → eg_Lo → List Value → List eg_E → Prop} {Q : Option Value → List eg_E → Prop} {kc ks : Nat} {loc : eg_Lo} {st : List Value} {h : List eg_E}
theorem s_Flat_keepBest_0 {x : Nat} {l : eg_Lo} : wps rm K Q c_Flat_keepBest_0 kc ks (some (.ref x) :: l) (st) h = wps rm K Q c_Flat_keepBest_1 kc ks (some (.ref x) :: l) (.ref x :: st) h := gk_aload rfl
theorem s_Flat_keepBest_1 {x : Int64} {l0 : Option Value} {l : eg_Lo} : wps rm K Q c_Flat_keepBest_1 kc ks (l0 :: some (.long x) :: l) (st) h = wps rm K Q c_Flat_keepBest_2 kc ks (l0 :: some (.long x) :: l) (.long x :: st) h := gk_lload rfl
theorem s_Flat_keepBest_2 {x : Int64} {l0 : Option Value} {l : eg_Lo} : wps rm K Q c_Flat_keepBest_2 kc ks (l0 :: some (.long x) :: l) (st) h = wps rm K Q c_Flat_keepBest_3 kc ks (l0 :: some (.long x) :: l) (.long x :: st) h := gk_lload rfl
theorem s_Flat_keepBest_3 {x y : Int64} : wps rm K Q c_Flat_keepBest_3 kc ks loc (.long y :: .long x :: st) h = wps rm K Q c_Flat_keepBest_4 kc ks loc (.long (x * y) :: st) h := gk_lmul
theorem s_Flat_keepBest_4 {x : Nat} {v : Value} : wps rm K Q c_Flat_keepBest_4 kc ks loc (v :: .ref (x + 1) :: st) h = eg_pf h x 3 5 v (fun h9 => wps rm K Q c_Flat_keepBest_7 kc ks loc (st) h9) := gk_pf
theorem s_Flat_keepBest_7 {x : Nat} {l : eg_Lo} : wps rm K Q c_Flat_keepBest_7 kc ks (some (.ref x) :: l) (st) h = wps rm K Q c_Flat_keepBest_8 kc ks (some (.ref x) :: l) (.ref x :: st) h := gk_aload rfl
theorem s_Flat_keepBest_8 {x : Int64} {l0 l1 l2 : Option Value} {l : eg_Lo} : wps rm K Q c_Flat_keepBest_8 kc ks (l0 :: l1 :: l2 :: some (.long x) :: l) (st) h = wps rm K Q c_Flat_keepBest_9 kc ks (l0 :: l1 :: l2 :: some (.long x) :: l) (.long x :: st) h := gk_lload rfl
theorem s_Flat_keepBest_9 {x : Nat} {v : Value} : wps rm K Q c_Flat_keepBest_9 kc ks loc (v :: .ref (x + 1) :: st) h = eg_pf h x 3 6 v (fun h9 => wps rm K Q c_Flat_keepBest_12 kc ks loc (st) h9) := gk_pf
theorem s_Flat_keepBest_12 {x : Nat} {l : eg_Lo} : wps rm K Q c_Flat_keepBest_12 kc ks (some (.ref x) :: l) (st) h = wps rm K Q c_Flat_keepBest_13 kc ks (some (.ref x) :: l) (.ref x :: st) h := gk_aload rfl
theorem s_Flat_keepBest_13 {x : Int32} {l0 l1 l2 l3 l4 : Option Value} {l : eg_Lo} : wps rm K Q c_Flat_keepBest_13 kc ks (l0 :: l1 :: l2 :: l3 :: l4 :: some (.int x) :: l) (st) h = wps rm K Q c_Flat_keepBest_15 kc ks (l0 :: l1 :: l2 :: l3 :: l4 :: some (.int x) :: l) (.int x :: st) h := gk_iload rfl
theorem s_Flat_keepBest_15 {x : Nat} {v : Value} : wps rm K Q c_Flat_keepBest_15 kc ks loc (v :: .ref (x + 1) :: st) h = eg_pf h x 3 7 v (fun h9 => wps rm K Q c_Flat_keepBest_18 kc ks loc (st) h9) := gk_pf
theorem s_Flat_keepBest_18 {x : Nat} {l : eg_Lo} : wps rm K Q c_Flat_keepBest_18 kc ks (some (.ref x) :: l) (st) h = wps rm K Q c_Flat_keepBest_19 kc ks (some (.ref x) :: l) (.ref x :: st) h := gk_aload rfl
theorem s_Flat_keepBest_19 {x : Int32} {l0 l1 l2 l3 l4 l5 : Option Value} {l : eg_Lo} : wps rm K Q c_Flat_keepBest_19 kc ks (l0 :: l1 :: l2 :: l3 :: l4 :: l5 :: some (.int x) :: l) (st) h = wps rm K Q c_Flat_keepBest_21 kc ks (l0 :: l1 :: l2 :: l3 :: l4 :: l5 :: some (.int x) :: l) (.int x :: st) h := gk_iload rfl
theorem s_Flat_keepBest_21 {x : Nat} {v : Value} : wps rm K Q c_Flat_keepBest_21 kc ks loc (v :: .ref (x + 1) :: st) h = eg_pf h x 3 8 v (fun h9 => wps rm K Q c_Flat_keepBest_24 kc ks loc (st) h9) := gk_pf
theorem s_Flat_keepBest_24 {x : Nat} {l : eg_Lo} : wps rm K Q c_Flat_keepBest_24 kc ks (some (.ref x) :: l) (st) h = wps rm K Q c_Flat_keepBest_25 kc ks (some (.ref x) :: l) (.ref x :: st) h := gk_aload rfl
theorem s_Flat_keepBest_25 {x : Nat} : wps rm K Q c_Flat_keepBest_25 kc ks loc (.ref (x + 1) :: st) h = eg_gf h x 3 1 (fun v => wps rm K Q c_Flat_keepBest_28 kc ks loc (v :: st) h) := gk_gf
theorem s_Flat_keepBest_28  : wps rm K Q c_Flat_keepBest_28 kc ks loc (st) h = wps rm K Q c_Flat_keepBest_29 kc ks loc (.int (0) :: st) h := gk_ic (by decide)
theorem s_Flat_keepBest_29 {x : Nat} {l : eg_Lo} : wps rm K Q c_Flat_keepBest_29 kc ks (some (.ref x) :: l) (st) h = wps rm K Q c_Flat_keepBest_30 kc ks (some (.ref x) :: l) (.ref x :: st) h := gk_aload rfl
theorem s_Flat_keepBest_30 {x : Nat} : wps rm K Q c_Flat_keepBest_30 kc ks loc (.ref (x + 1) :: st) h = eg_gf h x 3 2 (fun v => wps rm K Q c_Flat_keepBest_33 kc ks loc (v :: st) h) := gk_gf
theorem s_Flat_keepBest_33  : wps rm K Q c_Flat_keepBest_33 kc ks loc (st) h = wps rm K Q c_Flat_keepBest_34 kc ks loc (.int (0) :: st) h := gk_ic (by decide)
theorem s_Flat_keepBest_34  : wps rm K Q c_Flat_keepBest_34 kc ks loc (st) h = wps rm K Q c_Flat_keepBest_35 kc ks loc (.int (3) :: st) h := gk_ic (by decide)
theorem s_Flat_keepBest_35 {x y : Nat} {sp dp z : Int32} : wps rm K Q c_Flat_keepBest_35 kc ks loc (.int z :: .int dp :: .ref (y + 1) :: .int sp :: .ref (x + 1) :: []) h = eg_cpl h x y sp dp z (fun h9 => wps rm K Q c_Flat_keepBest_38 kc ks loc ([]) h9) := eg_cp_l
theorem s_Flat_keepBest_38 {x : Nat} {l : eg_Lo} : wps rm K Q c_Flat_keepBest_38 kc ks (some (.ref x) :: l) (st) h = wps rm K Q c_Flat_keepBest_39 kc ks (some (.ref x) :: l) (.ref x :: st) h := gk_aload rfl
theorem s_Flat_keepBest_39  : wps rm K Q c_Flat_keepBest_39 kc ks loc (st) h = wps rm K Q c_Flat_keepBest_40 kc ks loc (.int (1) :: st) h := gk_ic (by decide)
theorem s_Flat_keepBest_40 {x : Nat} {v : Int32} : wps rm K Q c_Flat_keepBest_40 kc ks loc (.int v :: .ref (x + 1) :: st) h = eg_pb h x 3 4 v (fun h9 => wps rm K Q c_Flat_keepBest_43 kc ks loc (st) h9) := gk_pb
theorem s_Flat_keepBest_43  : wps rm K Q c_Flat_keepBest_43 kc ks loc ([]) h = (kc = rm.cells ∧ Q none h) := gk_vret
def T_Flat_keepBest : List (Nat × List eg_I) := []
end
theorem y_Flat_keepBest_0 : eg_seq m_Flat_keepBest 0 c_Flat_keepBest_0 = true := by decide +kernel
theorem q_Flat_keepBest : ∀ q ∈ T_Flat_keepBest, eg_seq m_Flat_keepBest q.1 q.2 = true := by
  intro q hq
  cases hq
theorem b_Flat_keepBest {as : List Value} {h : List eg_E} {Q : Option Value → List eg_E → Prop} (hf : (eg_fl as).length ≤ 7) (hw : wps (eg_rm m_Flat_keepBest) (eg_run (eg_rm m_Flat_keepBest) (eg_R m_Flat_keepBest Q (h.length + 0)) Q T_Flat_keepBest 2) Q c_Flat_keepBest_0 0 0 (eg_entry 7 as) [] h) : eg_Runs n_Flat_keepBest as h Q := eg_begin2 (d := m_Flat_keepBest) rfl (by decide) y_Flat_keepBest_0 q_Flat_keepBest hf hw
