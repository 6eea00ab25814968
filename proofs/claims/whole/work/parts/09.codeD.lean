/-! ===== Outl_add ===== -/
def c_Outl_add_43 : List eg_I := .inl (43, 1, .ireturn, 0, 0) :: []
def c_Outl_add_40 : List eg_I := .inl (40, 3, .getfield 25, 7, 1) :: c_Outl_add_43
def c_Outl_add_39 : List eg_I := .inl (39, 1, .aload 0, 0, 0) :: c_Outl_add_40
def c_Outl_add_36 : List eg_I := .inl (36, 3, .putfield 25, 7, 1) :: c_Outl_add_39
def c_Outl_add_35 : List eg_I := .inl (35, 1, .iadd, 0, 0) :: c_Outl_add_36
def c_Outl_add_34 : List eg_I := .inl (34, 1, .iconst (1), 0, 0) :: c_Outl_add_35
def c_Outl_add_31 : List eg_I := .inl (31, 3, .getfield 25, 7, 1) :: c_Outl_add_34
def c_Outl_add_30 : List eg_I := .inl (30, 1, .dup, 0, 0) :: c_Outl_add_31
def c_Outl_add_29 : List eg_I := .inl (29, 1, .aload 0, 0, 0) :: c_Outl_add_30
def c_Outl_add_28 : List eg_I := .inl (28, 1, .iastore, 0, 0) :: c_Outl_add_29
def c_Outl_add_27 : List eg_I := .inl (27, 1, .iload 2, 0, 0) :: c_Outl_add_28
def c_Outl_add_24 : List eg_I := .inl (24, 3, .getfield 25, 7, 1) :: c_Outl_add_27
def c_Outl_add_23 : List eg_I := .inl (23, 1, .aload 0, 0, 0) :: c_Outl_add_24
def c_Outl_add_20 : List eg_I := .inl (20, 3, .getfield 22, 7, 3) :: c_Outl_add_23
def c_Outl_add_19 : List eg_I := .inl (19, 1, .aload 0, 0, 0) :: c_Outl_add_20
def c_Outl_add_18 : List eg_I := .inl (18, 1, .iastore, 0, 0) :: c_Outl_add_19
def c_Outl_add_17 : List eg_I := .inl (17, 1, .iload 1, 0, 0) :: c_Outl_add_18
def c_Outl_add_14 : List eg_I := .inl (14, 3, .getfield 25, 7, 1) :: c_Outl_add_17
def c_Outl_add_13 : List eg_I := .inl (13, 1, .aload 0, 0, 0) :: c_Outl_add_14
def c_Outl_add_10 : List eg_I := .inl (10, 3, .getfield 18, 7, 2) :: c_Outl_add_13
def c_Outl_add_9 : List eg_I := .inl (9, 1, .aload 0, 0, 0) :: c_Outl_add_10
def c_Outl_add_6 : List eg_I := .inl (6, 3, .if_icmp .ge (33), 39, 0) :: c_Outl_add_9
def c_Outl_add_4 : List eg_I := .inl (4, 2, .iconst (10), 0, 0) :: c_Outl_add_6
def c_Outl_add_1 : List eg_I := .inl (1, 3, .getfield 25, 7, 1) :: c_Outl_add_4
def c_Outl_add_0 : List eg_I := .inl (0, 1, .aload 0, 0, 0) :: c_Outl_add_1
section
variable {rm : Room} {K : Nat → Nat → Nat → eg_Lo → List Value → List eg_E → Prop} {Q : Option Value → List eg_E → Prop} {kc ks : Nat} {loc : eg_Lo} {st : List Value} {h : List eg_E}
theorem s_Outl_add_0 {x : Nat} {l : eg_Lo} : wps rm K Q c_Outl_add_0 kc ks (some (.ref x) :: l) (st) h = wps rm K Q c_Outl_add_1 kc ks (some (.ref x) :: l) (.ref x :: st) h := gk_aload rfl
theorem s_Outl_add_1 {x : Nat} : wps rm K Q c_Outl_add_1 kc ks loc (.ref (x + 1) :: st) h = eg_gf h x 7 1 (fun v => wps rm K Q c_Outl_add_4 kc ks loc (v :: st) h) := gk_gf
theorem s_Outl_add_4  : wps rm K Q c_Outl_add_4 kc ks loc (st) h = wps rm K Q c_Outl_add_6 kc ks loc (.int (10) :: st) h := gk_ic (by decide)
theorem s_Outl_add_6 {x y : Int32} : wps rm K Q c_Outl_add_6 kc ks loc (.int y :: .int x :: st) h = ((y ≤ x → K 39 kc ks loc st h) ∧ (¬ y ≤ x → wps rm K Q c_Outl_add_9 kc ks loc (st) h)) := gk_if2_ge
theorem s_Outl_add_9 {x : Nat} {l : eg_Lo} : wps rm K Q c_Outl_add_9 kc ks (some (.ref x) :: l) (st) h = wps rm K Q c_Outl_add_10 kc ks (some (.ref x) :: l) (.ref x :: st) h := gk_aload rfl
theorem s_Outl_add_10 {x : Nat} : wps rm K Q c_Outl_add_10 kc ks loc (.ref (x + 1) :: st) h = eg_gf h x 7 2 (fun v => wps rm K Q c_Outl_add_13 kc ks loc (v :: st) h) := gk_gf
theorem s_Outl_add_13 {x : Nat} {l : eg_Lo} : wps rm K Q c_Outl_add_13 kc ks (some (.ref x) :: l) (st) h = wps rm K Q c_Outl_add_14 kc ks (some (.ref x) :: l) (.ref x :: st) h := gk_aload rfl
theorem s_Outl_add_14 {x : Nat} : wps rm K Q c_Outl_add_14 kc ks loc (.ref (x + 1) :: st) h = eg_gf h x 7 1 (fun v => wps rm K Q c_Outl_add_17 kc ks loc (v :: st) h) := gk_gf
theorem s_Outl_add_17 {x : Int32} {l0 : Option Value} {l : eg_Lo} : wps rm K Q c_Outl_add_17 kc ks (l0 :: some (.int x) :: l) (st) h = wps rm K Q c_Outl_add_18 kc ks (l0 :: some (.int x) :: l) (.int x :: st) h := gk_iload rfl
theorem s_Outl_add_18 {x : Nat} {i : Int32} {v : Int32} : wps rm K Q c_Outl_add_18 kc ks loc (.int v :: .int i :: .ref (x + 1) :: st) h = eg_is h x i v (fun h9 => wps rm K Q c_Outl_add_19 kc ks loc (st) h9) := gk_iastore
theorem s_Outl_add_19 {x : Nat} {l : eg_Lo} : wps rm K Q c_Outl_add_19 kc ks (some (.ref x) :: l) (st) h = wps rm K Q c_Outl_add_20 kc ks (some (.ref x) :: l) (.ref x :: st) h := gk_aload rfl
theorem s_Outl_add_20 {x : Nat} : wps rm K Q c_Outl_add_20 kc ks loc (.ref (x + 1) :: st) h = eg_gf h x 7 3 (fun v => wps rm K Q c_Outl_add_23 kc ks loc (v :: st) h) := gk_gf
theorem s_Outl_add_23 {x : Nat} {l : eg_Lo} : wps rm K Q c_Outl_add_23 kc ks (some (.ref x) :: l) (st) h = wps rm K Q c_Outl_add_24 kc ks (some (.ref x) :: l) (.ref x :: st) h := gk_aload rfl
theorem s_Outl_add_24 {x : Nat} : wps rm K Q c_Outl_add_24 kc ks loc (.ref (x + 1) :: st) h = eg_gf h x 7 1 (fun v => wps rm K Q c_Outl_add_27 kc ks loc (v :: st) h) := gk_gf
theorem s_Outl_add_27 {x : Int32} {l0 l1 : Option Value} {l : eg_Lo} : wps rm K Q c_Outl_add_27 kc ks (l0 :: l1 :: some (.int x) :: l) (st) h = wps rm K Q c_Outl_add_28 kc ks (l0 :: l1 :: some (.int x) :: l) (.int x :: st) h := gk_iload rfl
theorem s_Outl_add_28 {x : Nat} {i : Int32} {v : Int32} : wps rm K Q c_Outl_add_28 kc ks loc (.int v :: .int i :: .ref (x + 1) :: st) h = eg_is h x i v (fun h9 => wps rm K Q c_Outl_add_29 kc ks loc (st) h9) := gk_iastore
theorem s_Outl_add_29 {x : Nat} {l : eg_Lo} : wps rm K Q c_Outl_add_29 kc ks (some (.ref x) :: l) (st) h = wps rm K Q c_Outl_add_30 kc ks (some (.ref x) :: l) (.ref x :: st) h := gk_aload rfl
theorem s_Outl_add_30 {x : Nat} : wps rm K Q c_Outl_add_30 kc ks loc (.ref x :: st) h = wps rm K Q c_Outl_add_31 kc ks loc (.ref x :: .ref x :: st) h := gk_dup
theorem s_Outl_add_31 {x : Nat} : wps rm K Q c_Outl_add_31 kc ks loc (.ref (x + 1) :: st) h = eg_gf h x 7 1 (fun v => wps rm K Q c_Outl_add_34 kc ks loc (v :: st) h) := gk_gf
theorem s_Outl_add_34  : wps rm K Q c_Outl_add_34 kc ks loc (st) h = wps rm K Q c_Outl_add_35 kc ks loc (.int (1) :: st) h := gk_ic (by decide)
theorem s_Outl_add_35 {x y : Int32} : wps rm K Q c_Outl_add_35 kc ks loc (.int y :: .int x :: st) h = wps rm K Q c_Outl_add_36 kc ks loc (.int (x + y) :: st) h := gk_iadd
theorem s_Outl_add_36 {x : Nat} {v : Value} : wps rm K Q c_Outl_add_36 kc ks loc (v :: .ref (x + 1) :: st) h = eg_pf h x 7 1 v (fun h9 => wps rm K Q c_Outl_add_39 kc ks loc (st) h9) := gk_pf
theorem s_Outl_add_39 {x : Nat} {l : eg_Lo} : wps rm K Q c_Outl_add_39 kc ks (some (.ref x) :: l) (st) h = wps rm K Q c_Outl_add_40 kc ks (some (.ref x) :: l) (.ref x :: st) h := gk_aload rfl
theorem s_Outl_add_40 {x : Nat} : wps rm K Q c_Outl_add_40 kc ks loc (.ref (x + 1) :: st) h = eg_gf h x 7 1 (fun v => wps rm K Q c_Outl_add_43 kc ks loc (v :: st) h) := gk_gf
theorem s_Outl_add_43 {x : Int32} : wps rm K Q c_Outl_add_43 kc ks loc ([.int x]) h = (kc = rm.cells ∧ (0 = 1 → x = 0 ∨ x = 1) ∧ Q (some (.int x)) h) := gk_iret
def T_Outl_add : List (Nat × List eg_I) := [(39, c_Outl_add_39)]
theorem j_Outl_add_39 {R : Nat → Nat → Nat → eg_Lo → List Value → List eg_E → Prop} {f pc0 : Nat} : eg_run rm R Q T_Outl_add (f + 1) 39 kc ks loc st h = wps rm (eg_run rm R Q T_Outl_add f) Q c_Outl_add_39 kc ks loc st h := rfl
end
theorem y_Outl_add_0 : eg_seq m_Outl_add 0 c_Outl_add_0 = true := by decide +kernel
theorem q_Outl_add : ∀ q ∈ T_Outl_add, eg_seq m_Outl_add q.1 q.2 = true := by
  intro q hq
  simp only [T_Outl_add, List.mem_cons, List.not_mem_nil, or_false] at hq
  rcases hq with rfl
  · exact (eg_seq_drop y_Outl_add_0 22 : eg_seq m_Outl_add 39 c_Outl_add_39 = true)
theorem b_Outl_add {as : List Value} {h : List eg_E} {Q : Option Value → List eg_E → Prop} (hf : (eg_fl as).length ≤ 3) (hw : wps (eg_rm m_Outl_add) (eg_run (eg_rm m_Outl_add) (eg_R m_Outl_add Q (h.length + 0)) Q T_Outl_add 3) Q c_Outl_add_0 0 0 (eg_entry 3 as) [] h) : eg_Runs n_Outl_add as h Q := eg_begin2 (d := m_Outl_add) rfl (by decide) y_Outl_add_0 q_Outl_add hf hw
/-! ===== Outl_findNearest ===== -/
def z_Outl_findNearest_24 : List eg_I := [.inl (24, 0, .nop, 0, 0)]
def c_Outl_findNearest_92 : List eg_I := .inl (92, 1, .ireturn, 0, 0) :: []
def c_Outl_findNearest_91 : List eg_I := .inl (91, 1, .iload 3, 0, 0) :: c_Outl_findNearest_92
def c_Outl_findNearest_88 : List eg_I := .inr (88, 1, 44, n_Frac_become, 2, 4, 0, 0) :: c_Outl_findNearest_91
def c_Outl_findNearest_86 : List eg_I := .inl (86, 2, .lload 6, 0, 0) :: c_Outl_findNearest_88
def c_Outl_findNearest_84 : List eg_I := .inl (84, 2, .lload 4, 0, 0) :: c_Outl_findNearest_86
def c_Outl_findNearest_81 : List eg_I := .inl (81, 3, .getfield 12, 7, 0) :: c_Outl_findNearest_84
def c_Outl_findNearest_80 : List eg_I := .inl (80, 1, .aload 0, 0, 0) :: c_Outl_findNearest_81
def c_Outl_findNearest_77 : List eg_I := .inl (77, 3, .goto (-53), 24, 0) :: []
def c_Outl_findNearest_74 : List eg_I := .inl (74, 3, .iinc 8 (1), 0, 0) :: c_Outl_findNearest_77
def c_Outl_findNearest_72 : List eg_I := .inl (72, 2, .lstore 6, 0, 0) :: c_Outl_findNearest_74
def c_Outl_findNearest_69 : List eg_I := .inl (69, 3, .getfield 37, 7, 5) :: c_Outl_findNearest_72
def c_Outl_findNearest_68 : List eg_I := .inl (68, 1, .aload 0, 0, 0) :: c_Outl_findNearest_69
def c_Outl_findNearest_66 : List eg_I := .inl (66, 2, .lstore 4, 0, 0) :: c_Outl_findNearest_68
def c_Outl_findNearest_63 : List eg_I := .inl (63, 3, .getfield 33, 7, 4) :: c_Outl_findNearest_66
def c_Outl_findNearest_62 : List eg_I := .inl (62, 1, .aload 0, 0, 0) :: c_Outl_findNearest_63
def c_Outl_findNearest_61 : List eg_I := .inl (61, 1, .istore 3, 0, 0) :: c_Outl_findNearest_62
def c_Outl_findNearest_59 : List eg_I := .inl (59, 2, .iload 8, 0, 0) :: c_Outl_findNearest_61
def c_Outl_findNearest_56 : List eg_I := .inl (56, 3, .ifCond .eq (18), 74, 0) :: c_Outl_findNearest_59
def c_Outl_findNearest_53 : List eg_I := .inr (53, 0, 40, n_Frac_isLess, 4, 4, 0, 0) :: c_Outl_findNearest_56
def c_Outl_findNearest_51 : List eg_I := .inl (51, 2, .lload 6, 0, 0) :: c_Outl_findNearest_53
def c_Outl_findNearest_49 : List eg_I := .inl (49, 2, .lload 4, 0, 0) :: c_Outl_findNearest_51
def c_Outl_findNearest_46 : List eg_I := .inl (46, 3, .getfield 37, 7, 5) :: c_Outl_findNearest_49
def c_Outl_findNearest_45 : List eg_I := .inl (45, 1, .aload 0, 0, 0) :: c_Outl_findNearest_46
def c_Outl_findNearest_42 : List eg_I := .inl (42, 3, .getfield 33, 7, 4) :: c_Outl_findNearest_45
def c_Outl_findNearest_41 : List eg_I := .inl (41, 1, .aload 0, 0, 0) :: c_Outl_findNearest_42
def c_Outl_findNearest_38 : List eg_I := .inr (38, 1, 29, n_Outl_measure, 3, 7, 0, 0) :: c_Outl_findNearest_41
def c_Outl_findNearest_37 : List eg_I := .inl (37, 1, .iload 2, 0, 0) :: c_Outl_findNearest_38
def c_Outl_findNearest_36 : List eg_I := .inl (36, 1, .iload 1, 0, 0) :: c_Outl_findNearest_37
def c_Outl_findNearest_34 : List eg_I := .inl (34, 2, .iload 8, 0, 0) :: c_Outl_findNearest_36
def c_Outl_findNearest_33 : List eg_I := .inl (33, 1, .aload 0, 0, 0) :: c_Outl_findNearest_34
def c_Outl_findNearest_30 : List eg_I := .inl (30, 3, .if_icmp .ge (50), 80, 0) :: c_Outl_findNearest_33
def c_Outl_findNearest_27 : List eg_I := .inl (27, 3, .getfield 25, 7, 1) :: c_Outl_findNearest_30
def c_Outl_findNearest_26 : List eg_I := .inl (26, 1, .aload 0, 0, 0) :: c_Outl_findNearest_27
def c_Outl_findNearest_24 : List eg_I := .inl (24, 2, .iload 8, 0, 0) :: c_Outl_findNearest_26
def c_Outl_findNearest_22 : List eg_I := .inl (22, 2, .istore 8, 0, 0) :: z_Outl_findNearest_24
def c_Outl_findNearest_21 : List eg_I := .inl (21, 1, .iconst (1), 0, 0) :: c_Outl_findNearest_22
def c_Outl_findNearest_19 : List eg_I := .inl (19, 2, .lstore 6, 0, 0) :: c_Outl_findNearest_21
def c_Outl_findNearest_16 : List eg_I := .inl (16, 3, .getfield 37, 7, 5) :: c_Outl_findNearest_19
def c_Outl_findNearest_15 : List eg_I := .inl (15, 1, .aload 0, 0, 0) :: c_Outl_findNearest_16
def c_Outl_findNearest_13 : List eg_I := .inl (13, 2, .lstore 4, 0, 0) :: c_Outl_findNearest_15
def c_Outl_findNearest_10 : List eg_I := .inl (10, 3, .getfield 33, 7, 4) :: c_Outl_findNearest_13
def c_Outl_findNearest_9 : List eg_I := .inl (9, 1, .aload 0, 0, 0) :: c_Outl_findNearest_10
def c_Outl_findNearest_6 : List eg_I := .inr (6, 1, 29, n_Outl_measure, 3, 7, 0, 0) :: c_Outl_findNearest_9
def c_Outl_findNearest_5 : List eg_I := .inl (5, 1, .iload 2, 0, 0) :: c_Outl_findNearest_6
def c_Outl_findNearest_4 : List eg_I := .inl (4, 1, .iload 1, 0, 0) :: c_Outl_findNearest_5
def c_Outl_findNearest_3 : List eg_I := .inl (3, 1, .iconst (0), 0, 0) :: c_Outl_findNearest_4
def c_Outl_findNearest_2 : List eg_I := .inl (2, 1, .aload 0, 0, 0) :: c_Outl_findNearest_3
def c_Outl_findNearest_1 : List eg_I := .inl (1, 1, .istore 3, 0, 0) :: c_Outl_findNearest_2
def c_Outl_findNearest_0 : List eg_I := .inl (0, 1, .iconst (0), 0, 0) :: c_Outl_findNearest_1
section
variable {rm : Room} {K : Nat → Nat → Nat → eg_Lo → List Value → List eg_E → Prop} {Q : Option Value → List eg_E → Prop} {kc ks : Nat} {loc : eg_Lo} {st : List Value} {h : List eg_E}
theorem s_Outl_findNearest_0  : wps rm K Q c_Outl_findNearest_0 kc ks loc (st) h = wps rm K Q c_Outl_findNearest_1 kc ks loc (.int (0) :: st) h := gk_ic (by decide)
theorem s_Outl_findNearest_1 {x : Int32} : wps rm K Q c_Outl_findNearest_1 kc ks loc (.int x :: st) h = wps rm K Q c_Outl_findNearest_2 kc ks (eg_set1 loc 3 (.int x)) (st) h := gk_istore
theorem s_Outl_findNearest_2 {x : Nat} {l : eg_Lo} : wps rm K Q c_Outl_findNearest_2 kc ks (some (.ref x) :: l) (st) h = wps rm K Q c_Outl_findNearest_3 kc ks (some (.ref x) :: l) (.ref x :: st) h := gk_aload rfl
theorem s_Outl_findNearest_3  : wps rm K Q c_Outl_findNearest_3 kc ks loc (st) h = wps rm K Q c_Outl_findNearest_4 kc ks loc (.int (0) :: st) h := gk_ic (by decide)
theorem s_Outl_findNearest_4 {x : Int32} {l0 : Option Value} {l : eg_Lo} : wps rm K Q c_Outl_findNearest_4 kc ks (l0 :: some (.int x) :: l) (st) h = wps rm K Q c_Outl_findNearest_5 kc ks (l0 :: some (.int x) :: l) (.int x :: st) h := gk_iload rfl
theorem s_Outl_findNearest_5 {x : Int32} {l0 l1 : Option Value} {l : eg_Lo} : wps rm K Q c_Outl_findNearest_5 kc ks (l0 :: l1 :: some (.int x) :: l) (st) h = wps rm K Q c_Outl_findNearest_6 kc ks (l0 :: l1 :: some (.int x) :: l) (.int x :: st) h := gk_iload rfl
theorem s_Outl_findNearest_6  {a1 : Value} {a2 : Value} {a3 : Value} {x : Nat} : wps rm K Q c_Outl_findNearest_6 kc ks loc (a3 :: a2 :: a1 :: .ref (x + 1) :: st) h = (eg_cls h x 7 ∧ st.length ≤ 4 ∧ eg_Cs n_Outl_measure (.ref (x + 1) :: [a1, a2, a3]) h (fun v h9 => wps rm K Q c_Outl_findNearest_9 kc ks loc (v.toList ++ st) h9)) := eg_c1_3
theorem s_Outl_findNearest_9 {x : Nat} {l : eg_Lo} : wps rm K Q c_Outl_findNearest_9 kc ks (some (.ref x) :: l) (st) h = wps rm K Q c_Outl_findNearest_10 kc ks (some (.ref x) :: l) (.ref x :: st) h := gk_aload rfl
theorem s_Outl_findNearest_10 {x : Nat} : wps rm K Q c_Outl_findNearest_10 kc ks loc (.ref (x + 1) :: st) h = eg_gf h x 7 4 (fun v => wps rm K Q c_Outl_findNearest_13 kc ks loc (v :: st) h) := gk_gf
theorem s_Outl_findNearest_13 {x : Int64} : wps rm K Q c_Outl_findNearest_13 kc ks loc (.long x :: st) h = wps rm K Q c_Outl_findNearest_15 kc ks (eg_set2 loc 4 (.long x)) (st) h := gk_lstore
theorem s_Outl_findNearest_15 {x : Nat} {l : eg_Lo} : wps rm K Q c_Outl_findNearest_15 kc ks (some (.ref x) :: l) (st) h = wps rm K Q c_Outl_findNearest_16 kc ks (some (.ref x) :: l) (.ref x :: st) h := gk_aload rfl
theorem s_Outl_findNearest_16 {x : Nat} : wps rm K Q c_Outl_findNearest_16 kc ks loc (.ref (x + 1) :: st) h = eg_gf h x 7 5 (fun v => wps rm K Q c_Outl_findNearest_19 kc ks loc (v :: st) h) := gk_gf
theorem s_Outl_findNearest_19 {x : Int64} : wps rm K Q c_Outl_findNearest_19 kc ks loc (.long x :: st) h = wps rm K Q c_Outl_findNearest_21 kc ks (eg_set2 loc 6 (.long x)) (st) h := gk_lstore
theorem s_Outl_findNearest_21  : wps rm K Q c_Outl_findNearest_21 kc ks loc (st) h = wps rm K Q c_Outl_findNearest_22 kc ks loc (.int (1) :: st) h := gk_ic (by decide)
theorem s_Outl_findNearest_22 {x : Int32} : wps rm K Q c_Outl_findNearest_22 kc ks loc (.int x :: st) h = wps rm K Q z_Outl_findNearest_24 kc ks (eg_set1 loc 8 (.int x)) (st) h := gk_istore
theorem s_Outl_findNearest_24 {x : Int32} {l0 l1 l2 l3 l4 l5 l6 l7 : Option Value} {l : eg_Lo} : wps rm K Q c_Outl_findNearest_24 kc ks (l0 :: l1 :: l2 :: l3 :: l4 :: l5 :: l6 :: l7 :: some (.int x) :: l) (st) h = wps rm K Q c_Outl_findNearest_26 kc ks (l0 :: l1 :: l2 :: l3 :: l4 :: l5 :: l6 :: l7 :: some (.int x) :: l) (.int x :: st) h := gk_iload rfl
theorem s_Outl_findNearest_26 {x : Nat} {l : eg_Lo} : wps rm K Q c_Outl_findNearest_26 kc ks (some (.ref x) :: l) (st) h = wps rm K Q c_Outl_findNearest_27 kc ks (some (.ref x) :: l) (.ref x :: st) h := gk_aload rfl
theorem s_Outl_findNearest_27 {x : Nat} : wps rm K Q c_Outl_findNearest_27 kc ks loc (.ref (x + 1) :: st) h = eg_gf h x 7 1 (fun v => wps rm K Q c_Outl_findNearest_30 kc ks loc (v :: st) h) := gk_gf
theorem s_Outl_findNearest_30 {x y : Int32} : wps rm K Q c_Outl_findNearest_30 kc ks loc (.int y :: .int x :: st) h = ((y ≤ x → K 80 kc ks loc st h) ∧ (¬ y ≤ x → wps rm K Q c_Outl_findNearest_33 kc ks loc (st) h)) := gk_if2_ge
theorem s_Outl_findNearest_33 {x : Nat} {l : eg_Lo} : wps rm K Q c_Outl_findNearest_33 kc ks (some (.ref x) :: l) (st) h = wps rm K Q c_Outl_findNearest_34 kc ks (some (.ref x) :: l) (.ref x :: st) h := gk_aload rfl
theorem s_Outl_findNearest_34 {x : Int32} {l0 l1 l2 l3 l4 l5 l6 l7 : Option Value} {l : eg_Lo} : wps rm K Q c_Outl_findNearest_34 kc ks (l0 :: l1 :: l2 :: l3 :: l4 :: l5 :: l6 :: l7 :: some (.int x) :: l) (st) h = wps rm K Q c_Outl_findNearest_36 kc ks (l0 :: l1 :: l2 :: l3 :: l4 :: l5 :: l6 :: l7 :: some (.int x) :: l) (.int x :: st) h := gk_iload rfl
theorem s_Outl_findNearest_36 {x : Int32} {l0 : Option Value} {l : eg_Lo} : wps rm K Q c_Outl_findNearest_36 kc ks (l0 :: some (.int x) :: l) (st) h = wps rm K Q c_Outl_findNearest_37 kc ks (l0 :: some (.int x) :: l) (.int x :: st) h := gk_iload rfl
theorem s_Outl_findNearest_37 {x : Int32} {l0 l1 : Option Value} {l : eg_Lo} : wps rm K Q c_Outl_findNearest_37 kc ks (l0 :: l1 :: some (.int x) :: l) (st) h = wps rm K Q c_Outl_findNearest_38 kc ks (l0 :: l1 :: some (.int x) :: l) (.int x :: st) h := gk_iload rfl
theorem s_Outl_findNearest_38  {a1 : Value} {a2 : Value} {a3 : Value} {x : Nat} : wps rm K Q c_Outl_findNearest_38 kc ks loc (a3 :: a2 :: a1 :: .ref (x + 1) :: st) h = (eg_cls h x 7 ∧ st.length ≤ 4 ∧ eg_Cs n_Outl_measure (.ref (x + 1) :: [a1, a2, a3]) h (fun v h9 => wps rm K Q c_Outl_findNearest_41 kc ks loc (v.toList ++ st) h9)) := eg_c1_3
theorem s_Outl_findNearest_41 {x : Nat} {l : eg_Lo} : wps rm K Q c_Outl_findNearest_41 kc ks (some (.ref x) :: l) (st) h = wps rm K Q c_Outl_findNearest_42 kc ks (some (.ref x) :: l) (.ref x :: st) h := gk_aload rfl
theorem s_Outl_findNearest_42 {x : Nat} : wps rm K Q c_Outl_findNearest_42 kc ks loc (.ref (x + 1) :: st) h = eg_gf h x 7 4 (fun v => wps rm K Q c_Outl_findNearest_45 kc ks loc (v :: st) h) := gk_gf
theorem s_Outl_findNearest_45 {x : Nat} {l : eg_Lo} : wps rm K Q c_Outl_findNearest_45 kc ks (some (.ref x) :: l) (st) h = wps rm K Q c_Outl_findNearest_46 kc ks (some (.ref x) :: l) (.ref x :: st) h := gk_aload rfl
theorem s_Outl_findNearest_46 {x : Nat} : wps rm K Q c_Outl_findNearest_46 kc ks loc (.ref (x + 1) :: st) h = eg_gf h x 7 5 (fun v => wps rm K Q c_Outl_findNearest_49 kc ks loc (v :: st) h) := gk_gf
theorem s_Outl_findNearest_49 {x : Int64} {l0 l1 l2 l3 : Option Value} {l : eg_Lo} : wps rm K Q c_Outl_findNearest_49 kc ks (l0 :: l1 :: l2 :: l3 :: some (.long x) :: l) (st) h = wps rm K Q c_Outl_findNearest_51 kc ks (l0 :: l1 :: l2 :: l3 :: some (.long x) :: l) (.long x :: st) h := gk_lload rfl
theorem s_Outl_findNearest_51 {x : Int64} {l0 l1 l2 l3 l4 l5 : Option Value} {l : eg_Lo} : wps rm K Q c_Outl_findNearest_51 kc ks (l0 :: l1 :: l2 :: l3 :: l4 :: l5 :: some (.long x) :: l) (st) h = wps rm K Q c_Outl_findNearest_53 kc ks (l0 :: l1 :: l2 :: l3 :: l4 :: l5 :: some (.long x) :: l) (.long x :: st) h := gk_lload rfl
theorem s_Outl_findNearest_53  {a1 : Value} {a2 : Value} {a3 : Value} {a4 : Value} : wps rm K Q c_Outl_findNearest_53 kc ks loc (a4 :: a3 :: a2 :: a1 :: st) h = (st.length ≤ 4 ∧ eg_Cs n_Frac_isLess [a1, a2, a3, a4] h (fun v h9 => wps rm K Q c_Outl_findNearest_56 kc ks loc (v.toList ++ st) h9)) := eg_c0_4
theorem s_Outl_findNearest_56 {x : Int32} : wps rm K Q c_Outl_findNearest_56 kc ks loc (.int x :: st) h = ((x = 0 → K 74 kc ks loc st h) ∧ (¬ x = 0 → wps rm K Q c_Outl_findNearest_59 kc ks loc (st) h)) := gk_if1_eq
theorem s_Outl_findNearest_59 {x : Int32} {l0 l1 l2 l3 l4 l5 l6 l7 : Option Value} {l : eg_Lo} : wps rm K Q c_Outl_findNearest_59 kc ks (l0 :: l1 :: l2 :: l3 :: l4 :: l5 :: l6 :: l7 :: some (.int x) :: l) (st) h = wps rm K Q c_Outl_findNearest_61 kc ks (l0 :: l1 :: l2 :: l3 :: l4 :: l5 :: l6 :: l7 :: some (.int x) :: l) (.int x :: st) h := gk_iload rfl
theorem s_Outl_findNearest_61 {x : Int32} : wps rm K Q c_Outl_findNearest_61 kc ks loc (.int x :: st) h = wps rm K Q c_Outl_findNearest_62 kc ks (eg_set1 loc 3 (.int x)) (st) h := gk_istore
theorem s_Outl_findNearest_62 {x : Nat} {l : eg_Lo} : wps rm K Q c_Outl_findNearest_62 kc ks (some (.ref x) :: l) (st) h = wps rm K Q c_Outl_findNearest_63 kc ks (some (.ref x) :: l) (.ref x :: st) h := gk_aload rfl
theorem s_Outl_findNearest_63 {x : Nat} : wps rm K Q c_Outl_findNearest_63 kc ks loc (.ref (x + 1) :: st) h = eg_gf h x 7 4 (fun v => wps rm K Q c_Outl_findNearest_66 kc ks loc (v :: st) h) := gk_gf
theorem s_Outl_findNearest_66 {x : Int64} : wps rm K Q c_Outl_findNearest_66 kc ks loc (.long x :: st) h = wps rm K Q c_Outl_findNearest_68 kc ks (eg_set2 loc 4 (.long x)) (st) h := gk_lstore
theorem s_Outl_findNearest_68 {x : Nat} {l : eg_Lo} : wps rm K Q c_Outl_findNearest_68 kc ks (some (.ref x) :: l) (st) h = wps rm K Q c_Outl_findNearest_69 kc ks (some (.ref x) :: l) (.ref x :: st) h := gk_aload rfl
theorem s_Outl_findNearest_69 {x : Nat} : wps rm K Q c_Outl_findNearest_69 kc ks loc (.ref (x + 1) :: st) h = eg_gf h x 7 5 (fun v => wps rm K Q c_Outl_findNearest_72 kc ks loc (v :: st) h) := gk_gf
theorem s_Outl_findNearest_72 {x : Int64} : wps rm K Q c_Outl_findNearest_72 kc ks loc (.long x :: st) h = wps rm K Q c_Outl_findNearest_74 kc ks (eg_set2 loc 6 (.long x)) (st) h := gk_lstore
theorem s_Outl_findNearest_74 {x : Int32} {l0 l1 l2 l3 l4 l5 l6 l7 : Option Value} {lz : eg_Lo} : wps rm K Q c_Outl_findNearest_74 kc ks (l0 :: l1 :: l2 :: l3 :: l4 :: l5 :: l6 :: l7 :: some (.int x) :: lz) (st) h = wps rm K Q c_Outl_findNearest_77 kc ks (eg_set1 (l0 :: l1 :: l2 :: l3 :: l4 :: l5 :: l6 :: l7 :: some (.int x) :: lz) 8 (.int (x + (1)))) (st) h := gk_iinc rfl (by decide)
theorem s_Outl_findNearest_77  : wps rm K Q c_Outl_findNearest_77 kc ks loc (st) h = K 24 kc ks loc st h := gk_goto
theorem s_Outl_findNearest_80 {x : Nat} {l : eg_Lo} : wps rm K Q c_Outl_findNearest_80 kc ks (some (.ref x) :: l) (st) h = wps rm K Q c_Outl_findNearest_81 kc ks (some (.ref x) :: l) (.ref x :: st) h := gk_aload rfl
theorem s_Outl_findNearest_81 {x : Nat} : wps rm K Q c_Outl_findNearest_81 kc ks loc (.ref (x + 1) :: st) h = eg_gf h x 7 0 (fun v => wps rm K Q c_Outl_findNearest_84 kc ks loc (v :: st) h) := gk_gf
theorem s_Outl_findNearest_84 {x : Int64} {l0 l1 l2 l3 : Option Value} {l : eg_Lo} : wps rm K Q c_Outl_findNearest_84 kc ks (l0 :: l1 :: l2 :: l3 :: some (.long x) :: l) (st) h = wps rm K Q c_Outl_findNearest_86 kc ks (l0 :: l1 :: l2 :: l3 :: some (.long x) :: l) (.long x :: st) h := gk_lload rfl
theorem s_Outl_findNearest_86 {x : Int64} {l0 l1 l2 l3 l4 l5 : Option Value} {l : eg_Lo} : wps rm K Q c_Outl_findNearest_86 kc ks (l0 :: l1 :: l2 :: l3 :: l4 :: l5 :: some (.long x) :: l) (st) h = wps rm K Q c_Outl_findNearest_88 kc ks (l0 :: l1 :: l2 :: l3 :: l4 :: l5 :: some (.long x) :: l) (.long x :: st) h := gk_lload rfl
theorem s_Outl_findNearest_88  {a1 : Value} {a2 : Value} {x : Nat} : wps rm K Q c_Outl_findNearest_88 kc ks loc (a2 :: a1 :: .ref (x + 1) :: st) h = (eg_cls h x 4 ∧ st.length ≤ 4 ∧ eg_Cs n_Frac_become (.ref (x + 1) :: [a1, a2]) h (fun v h9 => wps rm K Q c_Outl_findNearest_91 kc ks loc (v.toList ++ st) h9)) := eg_c1_2
theorem s_Outl_findNearest_91 {x : Int32} {l0 l1 l2 : Option Value} {l : eg_Lo} : wps rm K Q c_Outl_findNearest_91 kc ks (l0 :: l1 :: l2 :: some (.int x) :: l) (st) h = wps rm K Q c_Outl_findNearest_92 kc ks (l0 :: l1 :: l2 :: some (.int x) :: l) (.int x :: st) h := gk_iload rfl
theorem s_Outl_findNearest_92 {x : Int32} : wps rm K Q c_Outl_findNearest_92 kc ks loc ([.int x]) h = (kc = rm.cells ∧ (0 = 1 → x = 0 ∨ x = 1) ∧ Q (some (.int x)) h) := gk_iret
theorem sz_Outl_findNearest_24 : wps rm K Q z_Outl_findNearest_24 kc ks loc st h = K 24 kc ks loc st h := gk_nop
def T_Outl_findNearest : List (Nat × List eg_I) := [(74, c_Outl_findNearest_74), (80, c_Outl_findNearest_80)]
theorem j_Outl_findNearest_74 {R : Nat → Nat → Nat → eg_Lo → List Value → List eg_E → Prop} {f pc0 : Nat} : eg_run rm R Q T_Outl_findNearest (f + 1) 74 kc ks loc st h = wps rm (eg_run rm R Q T_Outl_findNearest f) Q c_Outl_findNearest_74 kc ks loc st h := rfl
theorem j_Outl_findNearest_80 {R : Nat → Nat → Nat → eg_Lo → List Value → List eg_E → Prop} {f pc0 : Nat} : eg_run rm R Q T_Outl_findNearest (f + 1) 80 kc ks loc st h = wps rm (eg_run rm R Q T_Outl_findNearest f) Q c_Outl_findNearest_80 kc ks loc st h := rfl
theorem j_Outl_findNearest_24 {R : Nat → Nat → Nat → eg_Lo → List Value → List eg_E → Prop} {f pc0 : Nat} : eg_run rm R Q T_Outl_findNearest (f + 1) 24 kc ks loc st h = R 24 kc ks loc st h := rfl
end
theorem y_Outl_findNearest_0 : eg_seq m_Outl_findNearest 0 c_Outl_findNearest_0 = true := by decide +kernel
theorem y_Outl_findNearest_24 : eg_seq m_Outl_findNearest 24 c_Outl_findNearest_24 = true := by decide +kernel
theorem y_Outl_findNearest_80 : eg_seq m_Outl_findNearest 80 c_Outl_findNearest_80 = true := by decide +kernel
theorem q_Outl_findNearest : ∀ q ∈ T_Outl_findNearest, eg_seq m_Outl_findNearest q.1 q.2 = true := by
  intro q hq
  simp only [T_Outl_findNearest, List.mem_cons, List.not_mem_nil, or_false] at hq
  rcases hq with rfl | rfl
  · exact (eg_seq_drop y_Outl_findNearest_24 25 : eg_seq m_Outl_findNearest 74 c_Outl_findNearest_74 = true)
  · exact y_Outl_findNearest_80
theorem b_Outl_findNearest {as : List Value} {h : List eg_E} {Q : Option Value → List eg_E → Prop} (hf : (eg_fl as).length ≤ 9) (hw : wps (eg_rm m_Outl_findNearest) (eg_run (eg_rm m_Outl_findNearest) (eg_R m_Outl_findNearest Q (h.length + 0)) Q T_Outl_findNearest 4) Q c_Outl_findNearest_0 0 0 (eg_entry 9 as) [] h) : eg_Runs n_Outl_findNearest as h Q := eg_begin2 (d := m_Outl_findNearest) rfl (by decide) y_Outl_findNearest_0 q_Outl_findNearest hf hw
theorem p_Outl_findNearest_24 {Q : Option Value → List eg_E → Prop} {n0 kc ks : Nat} {loc : eg_Lo} {st : List Value} {h : List eg_E} (hw : wps (eg_rm m_Outl_findNearest) (eg_run (eg_rm m_Outl_findNearest) (eg_R m_Outl_findNearest Q n0) Q T_Outl_findNearest 4) Q c_Outl_findNearest_24 kc ks loc st h) : eg_R m_Outl_findNearest Q n0 24 kc ks loc st h := eg_go2 y_Outl_findNearest_24 q_Outl_findNearest hw
/-! ===== Outl_measure ===== -/
def c_Outl_measure_197 : List eg_I := .inl (197, 1, .return_, 0, 0) :: []
def c_Outl_measure_194 : List eg_I := .inl (194, 3, .putfield 37, 7, 5) :: c_Outl_measure_197
def c_Outl_measure_192 : List eg_I := .inl (192, 2, .lload 13, 0, 0) :: c_Outl_measure_194
def c_Outl_measure_191 : List eg_I := .inl (191, 1, .aload 0, 0, 0) :: c_Outl_measure_192
def c_Outl_measure_188 : List eg_I := .inl (188, 3, .putfield 33, 7, 4) :: c_Outl_measure_191
def c_Outl_measure_187 : List eg_I := .inl (187, 1, .lmul, 0, 0) :: c_Outl_measure_188
def c_Outl_measure_185 : List eg_I := .inl (185, 2, .lload 17, 0, 0) :: c_Outl_measure_187
def c_Outl_measure_183 : List eg_I := .inl (183, 2, .lload 17, 0, 0) :: c_Outl_measure_185
def c_Outl_measure_182 : List eg_I := .inl (182, 1, .aload 0, 0, 0) :: c_Outl_measure_183
def c_Outl_measure_180 : List eg_I := .inl (180, 2, .lstore 17, 0, 0) :: c_Outl_measure_182
def c_Outl_measure_179 : List eg_I := .inl (179, 1, .lsub, 0, 0) :: c_Outl_measure_180
def c_Outl_measure_178 : List eg_I := .inl (178, 1, .lmul, 0, 0) :: c_Outl_measure_179
def c_Outl_measure_176 : List eg_I := .inl (176, 2, .lload 9, 0, 0) :: c_Outl_measure_178
def c_Outl_measure_174 : List eg_I := .inl (174, 2, .lload 7, 0, 0) :: c_Outl_measure_176
def c_Outl_measure_173 : List eg_I := .inl (173, 1, .lmul, 0, 0) :: c_Outl_measure_174
def c_Outl_measure_171 : List eg_I := .inl (171, 2, .lload 11, 0, 0) :: c_Outl_measure_173
def c_Outl_measure_169 : List eg_I := .inl (169, 2, .lload 5, 0, 0) :: c_Outl_measure_171
def c_Outl_measure_166 : List eg_I := .inl (166, 3, .goto (31), 197, 0) :: []
def c_Outl_measure_163 : List eg_I := .inl (163, 3, .putfield 33, 7, 4) :: c_Outl_measure_166
def c_Outl_measure_162 : List eg_I := .inl (162, 1, .ladd, 0, 0) :: c_Outl_measure_163
def c_Outl_measure_161 : List eg_I := .inl (161, 1, .lmul, 0, 0) :: c_Outl_measure_162
def c_Outl_measure_160 : List eg_I := .inl (160, 1, .lsub, 0, 0) :: c_Outl_measure_161
def c_Outl_measure_158 : List eg_I := .inl (158, 2, .lload 7, 0, 0) :: c_Outl_measure_160
def c_Outl_measure_156 : List eg_I := .inl (156, 2, .lload 11, 0, 0) :: c_Outl_measure_158
def c_Outl_measure_155 : List eg_I := .inl (155, 1, .lsub, 0, 0) :: c_Outl_measure_156
def c_Outl_measure_153 : List eg_I := .inl (153, 2, .lload 7, 0, 0) :: c_Outl_measure_155
def c_Outl_measure_151 : List eg_I := .inl (151, 2, .lload 11, 0, 0) :: c_Outl_measure_153
def c_Outl_measure_150 : List eg_I := .inl (150, 1, .lmul, 0, 0) :: c_Outl_measure_151
def c_Outl_measure_149 : List eg_I := .inl (149, 1, .lsub, 0, 0) :: c_Outl_measure_150
def c_Outl_measure_147 : List eg_I := .inl (147, 2, .lload 5, 0, 0) :: c_Outl_measure_149
def c_Outl_measure_145 : List eg_I := .inl (145, 2, .lload 9, 0, 0) :: c_Outl_measure_147
def c_Outl_measure_144 : List eg_I := .inl (144, 1, .lsub, 0, 0) :: c_Outl_measure_145
def c_Outl_measure_142 : List eg_I := .inl (142, 2, .lload 5, 0, 0) :: c_Outl_measure_144
def c_Outl_measure_140 : List eg_I := .inl (140, 2, .lload 9, 0, 0) :: c_Outl_measure_142
def c_Outl_measure_139 : List eg_I := .inl (139, 1, .aload 0, 0, 0) :: c_Outl_measure_140
def c_Outl_measure_136 : List eg_I := .inl (136, 3, .ifCond .lt (33), 169, 0) :: c_Outl_measure_139
def c_Outl_measure_135 : List eg_I := .inl (135, 1, .lcmp, 0, 0) :: c_Outl_measure_136
def c_Outl_measure_133 : List eg_I := .inl (133, 2, .lload 13, 0, 0) :: c_Outl_measure_135
def c_Outl_measure_131 : List eg_I := .inl (131, 2, .lload 15, 0, 0) :: c_Outl_measure_133
def c_Outl_measure_128 : List eg_I := .inl (128, 3, .goto (69), 197, 0) :: []
def c_Outl_measure_125 : List eg_I := .inl (125, 3, .putfield 33, 7, 4) :: c_Outl_measure_128
def c_Outl_measure_124 : List eg_I := .inl (124, 1, .ladd, 0, 0) :: c_Outl_measure_125
def c_Outl_measure_123 : List eg_I := .inl (123, 1, .lmul, 0, 0) :: c_Outl_measure_124
def c_Outl_measure_121 : List eg_I := .inl (121, 2, .lload 11, 0, 0) :: c_Outl_measure_123
def c_Outl_measure_119 : List eg_I := .inl (119, 2, .lload 11, 0, 0) :: c_Outl_measure_121
def c_Outl_measure_118 : List eg_I := .inl (118, 1, .lmul, 0, 0) :: c_Outl_measure_119
def c_Outl_measure_116 : List eg_I := .inl (116, 2, .lload 9, 0, 0) :: c_Outl_measure_118
def c_Outl_measure_114 : List eg_I := .inl (114, 2, .lload 9, 0, 0) :: c_Outl_measure_116
def c_Outl_measure_113 : List eg_I := .inl (113, 1, .aload 0, 0, 0) :: c_Outl_measure_114
def c_Outl_measure_110 : List eg_I := .inl (110, 3, .ifCond .gt (21), 131, 0) :: c_Outl_measure_113
def c_Outl_measure_109 : List eg_I := .inl (109, 1, .lcmp, 0, 0) :: c_Outl_measure_110
def c_Outl_measure_108 : List eg_I := .inl (108, 1, .sipush (0), 0, 0) :: c_Outl_measure_109
def c_Outl_measure_106 : List eg_I := .inl (106, 2, .lload 15, 0, 0) :: c_Outl_measure_108
def c_Outl_measure_103 : List eg_I := .inl (103, 3, .putfield 37, 7, 5) :: c_Outl_measure_106
def c_Outl_measure_102 : List eg_I := .inl (102, 1, .sipush (1), 0, 0) :: c_Outl_measure_103
def c_Outl_measure_101 : List eg_I := .inl (101, 1, .aload 0, 0, 0) :: c_Outl_measure_102
def c_Outl_measure_99 : List eg_I := .inl (99, 2, .lstore 15, 0, 0) :: c_Outl_measure_101
def c_Outl_measure_98 : List eg_I := .inl (98, 1, .ladd, 0, 0) :: c_Outl_measure_99
def c_Outl_measure_97 : List eg_I := .inl (97, 1, .lmul, 0, 0) :: c_Outl_measure_98
def c_Outl_measure_95 : List eg_I := .inl (95, 2, .lload 11, 0, 0) :: c_Outl_measure_97
def c_Outl_measure_93 : List eg_I := .inl (93, 2, .lload 7, 0, 0) :: c_Outl_measure_95
def c_Outl_measure_92 : List eg_I := .inl (92, 1, .lmul, 0, 0) :: c_Outl_measure_93
def c_Outl_measure_90 : List eg_I := .inl (90, 2, .lload 9, 0, 0) :: c_Outl_measure_92
def c_Outl_measure_88 : List eg_I := .inl (88, 2, .lload 5, 0, 0) :: c_Outl_measure_90
def c_Outl_measure_86 : List eg_I := .inl (86, 2, .lstore 13, 0, 0) :: c_Outl_measure_88
def c_Outl_measure_85 : List eg_I := .inl (85, 1, .ladd, 0, 0) :: c_Outl_measure_86
def c_Outl_measure_84 : List eg_I := .inl (84, 1, .lmul, 0, 0) :: c_Outl_measure_85
def c_Outl_measure_82 : List eg_I := .inl (82, 2, .lload 7, 0, 0) :: c_Outl_measure_84
def c_Outl_measure_80 : List eg_I := .inl (80, 2, .lload 7, 0, 0) :: c_Outl_measure_82
def c_Outl_measure_79 : List eg_I := .inl (79, 1, .lmul, 0, 0) :: c_Outl_measure_80
def c_Outl_measure_77 : List eg_I := .inl (77, 2, .lload 5, 0, 0) :: c_Outl_measure_79
def c_Outl_measure_75 : List eg_I := .inl (75, 2, .lload 5, 0, 0) :: c_Outl_measure_77
def c_Outl_measure_73 : List eg_I := .inl (73, 2, .lstore 11, 0, 0) :: c_Outl_measure_75
def c_Outl_measure_72 : List eg_I := .inl (72, 1, .i2l, 0, 0) :: c_Outl_measure_73
def c_Outl_measure_71 : List eg_I := .inl (71, 1, .isub, 0, 0) :: c_Outl_measure_72
def c_Outl_measure_70 : List eg_I := .inl (70, 1, .iaload, 0, 0) :: c_Outl_measure_71
def c_Outl_measure_69 : List eg_I := .inl (69, 1, .iload 1, 0, 0) :: c_Outl_measure_70
def c_Outl_measure_66 : List eg_I := .inl (66, 3, .getfield 22, 7, 3) :: c_Outl_measure_69
def c_Outl_measure_65 : List eg_I := .inl (65, 1, .aload 0, 0, 0) :: c_Outl_measure_66
def c_Outl_measure_64 : List eg_I := .inl (64, 1, .iload 3, 0, 0) :: c_Outl_measure_65
def c_Outl_measure_62 : List eg_I := .inl (62, 2, .lstore 9, 0, 0) :: c_Outl_measure_64
def c_Outl_measure_61 : List eg_I := .inl (61, 1, .i2l, 0, 0) :: c_Outl_measure_62
def c_Outl_measure_60 : List eg_I := .inl (60, 1, .isub, 0, 0) :: c_Outl_measure_61
def c_Outl_measure_59 : List eg_I := .inl (59, 1, .iaload, 0, 0) :: c_Outl_measure_60
def c_Outl_measure_58 : List eg_I := .inl (58, 1, .iload 1, 0, 0) :: c_Outl_measure_59
def c_Outl_measure_55 : List eg_I := .inl (55, 3, .getfield 18, 7, 2) :: c_Outl_measure_58
def c_Outl_measure_54 : List eg_I := .inl (54, 1, .aload 0, 0, 0) :: c_Outl_measure_55
def c_Outl_measure_53 : List eg_I := .inl (53, 1, .iload 2, 0, 0) :: c_Outl_measure_54
def c_Outl_measure_51 : List eg_I := .inl (51, 2, .lstore 7, 0, 0) :: c_Outl_measure_53
def c_Outl_measure_50 : List eg_I := .inl (50, 1, .i2l, 0, 0) :: c_Outl_measure_51
def c_Outl_measure_49 : List eg_I := .inl (49, 1, .isub, 0, 0) :: c_Outl_measure_50
def c_Outl_measure_48 : List eg_I := .inl (48, 1, .iaload, 0, 0) :: c_Outl_measure_49
def c_Outl_measure_47 : List eg_I := .inl (47, 1, .iload 1, 0, 0) :: c_Outl_measure_48
def c_Outl_measure_44 : List eg_I := .inl (44, 3, .getfield 22, 7, 3) :: c_Outl_measure_47
def c_Outl_measure_43 : List eg_I := .inl (43, 1, .aload 0, 0, 0) :: c_Outl_measure_44
def c_Outl_measure_42 : List eg_I := .inl (42, 1, .iaload, 0, 0) :: c_Outl_measure_43
def c_Outl_measure_40 : List eg_I := .inl (40, 2, .iload 4, 0, 0) :: c_Outl_measure_42
def c_Outl_measure_37 : List eg_I := .inl (37, 3, .getfield 22, 7, 3) :: c_Outl_measure_40
def c_Outl_measure_36 : List eg_I := .inl (36, 1, .aload 0, 0, 0) :: c_Outl_measure_37
def c_Outl_measure_34 : List eg_I := .inl (34, 2, .lstore 5, 0, 0) :: c_Outl_measure_36
def c_Outl_measure_33 : List eg_I := .inl (33, 1, .i2l, 0, 0) :: c_Outl_measure_34
def c_Outl_measure_32 : List eg_I := .inl (32, 1, .isub, 0, 0) :: c_Outl_measure_33
def c_Outl_measure_31 : List eg_I := .inl (31, 1, .iaload, 0, 0) :: c_Outl_measure_32
def c_Outl_measure_30 : List eg_I := .inl (30, 1, .iload 1, 0, 0) :: c_Outl_measure_31
def c_Outl_measure_27 : List eg_I := .inl (27, 3, .getfield 18, 7, 2) :: c_Outl_measure_30
def c_Outl_measure_26 : List eg_I := .inl (26, 1, .aload 0, 0, 0) :: c_Outl_measure_27
def c_Outl_measure_25 : List eg_I := .inl (25, 1, .iaload, 0, 0) :: c_Outl_measure_26
def c_Outl_measure_23 : List eg_I := .inl (23, 2, .iload 4, 0, 0) :: c_Outl_measure_25
def c_Outl_measure_20 : List eg_I := .inl (20, 3, .getfield 18, 7, 2) :: c_Outl_measure_23
def c_Outl_measure_19 : List eg_I := .inl (19, 1, .aload 0, 0, 0) :: c_Outl_measure_20
def c_Outl_measure_17 : List eg_I := .inl (17, 2, .istore 4, 0, 0) :: c_Outl_measure_19
def c_Outl_measure_16 : List eg_I := .inl (16, 1, .iconst (0), 0, 0) :: c_Outl_measure_17
def c_Outl_measure_13 : List eg_I := .inl (13, 3, .goto (4), 17, 0) :: []
def c_Outl_measure_12 : List eg_I := .inl (12, 1, .iadd, 0, 0) :: c_Outl_measure_13
def c_Outl_measure_11 : List eg_I := .inl (11, 1, .iconst (1), 0, 0) :: c_Outl_measure_12
def c_Outl_measure_10 : List eg_I := .inl (10, 1, .iload 1, 0, 0) :: c_Outl_measure_11
def c_Outl_measure_7 : List eg_I := .inl (7, 3, .if_icmp .ge (9), 16, 0) :: c_Outl_measure_10
def c_Outl_measure_4 : List eg_I := .inl (4, 3, .getfield 25, 7, 1) :: c_Outl_measure_7
def c_Outl_measure_3 : List eg_I := .inl (3, 1, .aload 0, 0, 0) :: c_Outl_measure_4
def c_Outl_measure_2 : List eg_I := .inl (2, 1, .iadd, 0, 0) :: c_Outl_measure_3
def c_Outl_measure_1 : List eg_I := .inl (1, 1, .iconst (1), 0, 0) :: c_Outl_measure_2
def c_Outl_measure_0 : List eg_I := .inl (0, 1, .iload 1, 0, 0) :: c_Outl_measure_1
section
variable {rm : Room} {K : Nat → Nat → Nat → eg_Lo → List Value → List eg_E → Prop} {Q : Option Value → List eg_E → Prop} {kc ks : Nat} {loc : eg_Lo} {st : List Value} {h : List eg_E}
theorem s_Outl_measure_0 {x : Int32} {l0 : Option Value} {l : eg_Lo} : wps rm K Q c_Outl_measure_0 kc ks (l0 :: some (.int x) :: l) (st) h = wps rm K Q c_Outl_measure_1 kc ks (l0 :: some (.int x) :: l) (.int x :: st) h := gk_iload rfl
theorem s_Outl_measure_1  : wps rm K Q c_Outl_measure_1 kc ks loc (st) h = wps rm K Q c_Outl_measure_2 kc ks loc (.int (1) :: st) h := gk_ic (by decide)
theorem s_Outl_measure_2 {x y : Int32} : wps rm K Q c_Outl_measure_2 kc ks loc (.int y :: .int x :: st) h = wps rm K Q c_Outl_measure_3 kc ks loc (.int (x + y) :: st) h := gk_iadd
theorem s_Outl_measure_3 {x : Nat} {l : eg_Lo} : wps rm K Q c_Outl_measure_3 kc ks (some (.ref x) :: l) (st) h = wps rm K Q c_Outl_measure_4 kc ks (some (.ref x) :: l) (.ref x :: st) h := gk_aload rfl
theorem s_Outl_measure_4 {x : Nat} : wps rm K Q c_Outl_measure_4 kc ks loc (.ref (x + 1) :: st) h = eg_gf h x 7 1 (fun v => wps rm K Q c_Outl_measure_7 kc ks loc (v :: st) h) := gk_gf
theorem s_Outl_measure_7 {x y : Int32} : wps rm K Q c_Outl_measure_7 kc ks loc (.int y :: .int x :: st) h = ((y ≤ x → K 16 kc ks loc st h) ∧ (¬ y ≤ x → wps rm K Q c_Outl_measure_10 kc ks loc (st) h)) := gk_if2_ge
theorem s_Outl_measure_10 {x : Int32} {l0 : Option Value} {l : eg_Lo} : wps rm K Q c_Outl_measure_10 kc ks (l0 :: some (.int x) :: l) (st) h = wps rm K Q c_Outl_measure_11 kc ks (l0 :: some (.int x) :: l) (.int x :: st) h := gk_iload rfl
theorem s_Outl_measure_11  : wps rm K Q c_Outl_measure_11 kc ks loc (st) h = wps rm K Q c_Outl_measure_12 kc ks loc (.int (1) :: st) h := gk_ic (by decide)
theorem s_Outl_measure_12 {x y : Int32} : wps rm K Q c_Outl_measure_12 kc ks loc (.int y :: .int x :: st) h = wps rm K Q c_Outl_measure_13 kc ks loc (.int (x + y) :: st) h := gk_iadd
theorem s_Outl_measure_13  : wps rm K Q c_Outl_measure_13 kc ks loc (st) h = K 17 kc ks loc st h := gk_goto
theorem s_Outl_measure_16  : wps rm K Q c_Outl_measure_16 kc ks loc (st) h = wps rm K Q c_Outl_measure_17 kc ks loc (.int (0) :: st) h := gk_ic (by decide)
theorem s_Outl_measure_17 {x : Int32} : wps rm K Q c_Outl_measure_17 kc ks loc (.int x :: st) h = wps rm K Q c_Outl_measure_19 kc ks (eg_set1 loc 4 (.int x)) (st) h := gk_istore
theorem s_Outl_measure_19 {x : Nat} {l : eg_Lo} : wps rm K Q c_Outl_measure_19 kc ks (some (.ref x) :: l) (st) h = wps rm K Q c_Outl_measure_20 kc ks (some (.ref x) :: l) (.ref x :: st) h := gk_aload rfl
theorem s_Outl_measure_20 {x : Nat} : wps rm K Q c_Outl_measure_20 kc ks loc (.ref (x + 1) :: st) h = eg_gf h x 7 2 (fun v => wps rm K Q c_Outl_measure_23 kc ks loc (v :: st) h) := gk_gf
theorem s_Outl_measure_23 {x : Int32} {l0 l1 l2 l3 : Option Value} {l : eg_Lo} : wps rm K Q c_Outl_measure_23 kc ks (l0 :: l1 :: l2 :: l3 :: some (.int x) :: l) (st) h = wps rm K Q c_Outl_measure_25 kc ks (l0 :: l1 :: l2 :: l3 :: some (.int x) :: l) (.int x :: st) h := gk_iload rfl
theorem s_Outl_measure_25 {x : Nat} {i : Int32} : wps rm K Q c_Outl_measure_25 kc ks loc (.int i :: .ref (x + 1) :: st) h = eg_ia h x i (fun v => wps rm K Q c_Outl_measure_26 kc ks loc (.int v :: st) h) := gk_iaload
theorem s_Outl_measure_26 {x : Nat} {l : eg_Lo} : wps rm K Q c_Outl_measure_26 kc ks (some (.ref x) :: l) (st) h = wps rm K Q c_Outl_measure_27 kc ks (some (.ref x) :: l) (.ref x :: st) h := gk_aload rfl
theorem s_Outl_measure_27 {x : Nat} : wps rm K Q c_Outl_measure_27 kc ks loc (.ref (x + 1) :: st) h = eg_gf h x 7 2 (fun v => wps rm K Q c_Outl_measure_30 kc ks loc (v :: st) h) := gk_gf
theorem s_Outl_measure_30 {x : Int32} {l0 : Option Value} {l : eg_Lo} : wps rm K Q c_Outl_measure_30 kc ks (l0 :: some (.int x) :: l) (st) h = wps rm K Q c_Outl_measure_31 kc ks (l0 :: some (.int x) :: l) (.int x :: st) h := gk_iload rfl
theorem s_Outl_measure_31 {x : Nat} {i : Int32} : wps rm K Q c_Outl_measure_31 kc ks loc (.int i :: .ref (x + 1) :: st) h = eg_ia h x i (fun v => wps rm K Q c_Outl_measure_32 kc ks loc (.int v :: st) h) := gk_iaload
theorem s_Outl_measure_32 {x y : Int32} : wps rm K Q c_Outl_measure_32 kc ks loc (.int y :: .int x :: st) h = wps rm K Q c_Outl_measure_33 kc ks loc (.int (x - y) :: st) h := gk_isub
theorem s_Outl_measure_33 {x : Int32} : wps rm K Q c_Outl_measure_33 kc ks loc (.int x :: st) h = wps rm K Q c_Outl_measure_34 kc ks loc (.long (x.toInt64) :: st) h := gk_i2l
theorem s_Outl_measure_34 {x : Int64} : wps rm K Q c_Outl_measure_34 kc ks loc (.long x :: st) h = wps rm K Q c_Outl_measure_36 kc ks (eg_set2 loc 5 (.long x)) (st) h := gk_lstore
theorem s_Outl_measure_36 {x : Nat} {l : eg_Lo} : wps rm K Q c_Outl_measure_36 kc ks (some (.ref x) :: l) (st) h = wps rm K Q c_Outl_measure_37 kc ks (some (.ref x) :: l) (.ref x :: st) h := gk_aload rfl
theorem s_Outl_measure_37 {x : Nat} : wps rm K Q c_Outl_measure_37 kc ks loc (.ref (x + 1) :: st) h = eg_gf h x 7 3 (fun v => wps rm K Q c_Outl_measure_40 kc ks loc (v :: st) h) := gk_gf
theorem s_Outl_measure_40 {x : Int32} {l0 l1 l2 l3 : Option Value} {l : eg_Lo} : wps rm K Q c_Outl_measure_40 kc ks (l0 :: l1 :: l2 :: l3 :: some (.int x) :: l) (st) h = wps rm K Q c_Outl_measure_42 kc ks (l0 :: l1 :: l2 :: l3 :: some (.int x) :: l) (.int x :: st) h := gk_iload rfl
theorem s_Outl_measure_42 {x : Nat} {i : Int32} : wps rm K Q c_Outl_measure_42 kc ks loc (.int i :: .ref (x + 1) :: st) h = eg_ia h x i (fun v => wps rm K Q c_Outl_measure_43 kc ks loc (.int v :: st) h) := gk_iaload
theorem s_Outl_measure_43 {x : Nat} {l : eg_Lo} : wps rm K Q c_Outl_measure_43 kc ks (some (.ref x) :: l) (st) h = wps rm K Q c_Outl_measure_44 kc ks (some (.ref x) :: l) (.ref x :: st) h := gk_aload rfl
theorem s_Outl_measure_44 {x : Nat} : wps rm K Q c_Outl_measure_44 kc ks loc (.ref (x + 1) :: st) h = eg_gf h x 7 3 (fun v => wps rm K Q c_Outl_measure_47 kc ks loc (v :: st) h) := gk_gf
theorem s_Outl_measure_47 {x : Int32} {l0 : Option Value} {l : eg_Lo} : wps rm K Q c_Outl_measure_47 kc ks (l0 :: some (.int x) :: l) (st) h = wps rm K Q c_Outl_measure_48 kc ks (l0 :: some (.int x) :: l) (.int x :: st) h := gk_iload rfl
theorem s_Outl_measure_48 {x : Nat} {i : Int32} : wps rm K Q c_Outl_measure_48 kc ks loc (.int i :: .ref (x + 1) :: st) h = eg_ia h x i (fun v => wps rm K Q c_Outl_measure_49 kc ks loc (.int v :: st) h) := gk_iaload
theorem s_Outl_measure_49 {x y : Int32} : wps rm K Q c_Outl_measure_49 kc ks loc (.int y :: .int x :: st) h = wps rm K Q c_Outl_measure_50 kc ks loc (.int (x - y) :: st) h := gk_isub
theorem s_Outl_measure_50 {x : Int32} : wps rm K Q c_Outl_measure_50 kc ks loc (.int x :: st) h = wps rm K Q c_Outl_measure_51 kc ks loc (.long (x.toInt64) :: st) h := gk_i2l
theorem s_Outl_measure_51 {x : Int64} : wps rm K Q c_Outl_measure_51 kc ks loc (.long x :: st) h = wps rm K Q c_Outl_measure_53 kc ks (eg_set2 loc 7 (.long x)) (st) h := gk_lstore
theorem s_Outl_measure_53 {x : Int32} {l0 l1 : Option Value} {l : eg_Lo} : wps rm K Q c_Outl_measure_53 kc ks (l0 :: l1 :: some (.int x) :: l) (st) h = wps rm K Q c_Outl_measure_54 kc ks (l0 :: l1 :: some (.int x) :: l) (.int x :: st) h := gk_iload rfl
theorem s_Outl_measure_54 {x : Nat} {l : eg_Lo} : wps rm K Q c_Outl_measure_54 kc ks (some (.ref x) :: l) (st) h = wps rm K Q c_Outl_measure_55 kc ks (some (.ref x) :: l) (.ref x :: st) h := gk_aload rfl
theorem s_Outl_measure_55 {x : Nat} : wps rm K Q c_Outl_measure_55 kc ks loc (.ref (x + 1) :: st) h = eg_gf h x 7 2 (fun v => wps rm K Q c_Outl_measure_58 kc ks loc (v :: st) h) := gk_gf
theorem s_Outl_measure_58 {x : Int32} {l0 : Option Value} {l : eg_Lo} : wps rm K Q c_Outl_measure_58 kc ks (l0 :: some (.int x) :: l) (st) h = wps rm K Q c_Outl_measure_59 kc ks (l0 :: some (.int x) :: l) (.int x :: st) h := gk_iload rfl
theorem s_Outl_measure_59 {x : Nat} {i : Int32} : wps rm K Q c_Outl_measure_59 kc ks loc (.int i :: .ref (x + 1) :: st) h = eg_ia h x i (fun v => wps rm K Q c_Outl_measure_60 kc ks loc (.int v :: st) h) := gk_iaload
theorem s_Outl_measure_60 {x y : Int32} : wps rm K Q c_Outl_measure_60 kc ks loc (.int y :: .int x :: st) h = wps rm K Q c_Outl_measure_61 kc ks loc (.int (x - y) :: st) h := gk_isub
theorem s_Outl_measure_61 {x : Int32} : wps rm K Q c_Outl_measure_61 kc ks loc (.int x :: st) h = wps rm K Q c_Outl_measure_62 kc ks loc (.long (x.toInt64) :: st) h := gk_i2l
theorem s_Outl_measure_62 {x : Int64} : wps rm K Q c_Outl_measure_62 kc ks loc (.long x :: st) h = wps rm K Q c_Outl_measure_64 kc ks (eg_set2 loc 9 (.long x)) (st) h := gk_lstore
theorem s_Outl_measure_64 {x : Int32} {l0 l1 l2 : Option Value} {l : eg_Lo} : wps rm K Q c_Outl_measure_64 kc ks (l0 :: l1 :: l2 :: some (.int x) :: l) (st) h = wps rm K Q c_Outl_measure_65 kc ks (l0 :: l1 :: l2 :: some (.int x) :: l) (.int x :: st) h := gk_iload rfl
theorem s_Outl_measure_65 {x : Nat} {l : eg_Lo} : wps rm K Q c_Outl_measure_65 kc ks (some (.ref x) :: l) (st) h = wps rm K Q c_Outl_measure_66 kc ks (some (.ref x) :: l) (.ref x :: st) h := gk_aload rfl
theorem s_Outl_measure_66 {x : Nat} : wps rm K Q c_Outl_measure_66 kc ks loc (.ref (x + 1) :: st) h = eg_gf h x 7 3 (fun v => wps rm K Q c_Outl_measure_69 kc ks loc (v :: st) h) := gk_gf
theorem s_Outl_measure_69 {x : Int32} {l0 : Option Value} {l : eg_Lo} : wps rm K Q c_Outl_measure_69 kc ks (l0 :: some (.int x) :: l) (st) h = wps rm K Q c_Outl_measure_70 kc ks (l0 :: some (.int x) :: l) (.int x :: st) h := gk_iload rfl
theorem s_Outl_measure_70 {x : Nat} {i : Int32} : wps rm K Q c_Outl_measure_70 kc ks loc (.int i :: .ref (x + 1) :: st) h = eg_ia h x i (fun v => wps rm K Q c_Outl_measure_71 kc ks loc (.int v :: st) h) := gk_iaload
theorem s_Outl_measure_71 {x y : Int32} : wps rm K Q c_Outl_measure_71 kc ks loc (.int y :: .int x :: st) h = wps rm K Q c_Outl_measure_72 kc ks loc (.int (x - y) :: st) h := gk_isub
theorem s_Outl_measure_72 {x : Int32} : wps rm K Q c_Outl_measure_72 kc ks loc (.int x :: st) h = wps rm K Q c_Outl_measure_73 kc ks loc (.long (x.toInt64) :: st) h := gk_i2l
theorem s_Outl_measure_73 {x : Int64} : wps rm K Q c_Outl_measure_73 kc ks loc (.long x :: st) h = wps rm K Q c_Outl_measure_75 kc ks (eg_set2 loc 11 (.long x)) (st) h := gk_lstore
theorem s_Outl_measure_75 {x : Int64} {l0 l1 l2 l3 l4 : Option Value} {l : eg_Lo} : wps rm K Q c_Outl_measure_75 kc ks (l0 :: l1 :: l2 :: l3 :: l4 :: some (.long x) :: l) (st) h = wps rm K Q c_Outl_measure_77 kc ks (l0 :: l1 :: l2 :: l3 :: l4 :: some (.long x) :: l) (.long x :: st) h := gk_lload rfl
theorem s_Outl_measure_77 {x : Int64} {l0 l1 l2 l3 l4 : Option Value} {l : eg_Lo} : wps rm K Q c_Outl_measure_77 kc ks (l0 :: l1 :: l2 :: l3 :: l4 :: some (.long x) :: l) (st) h = wps rm K Q c_Outl_measure_79 kc ks (l0 :: l1 :: l2 :: l3 :: l4 :: some (.long x) :: l) (.long x :: st) h := gk_lload rfl
theorem s_Outl_measure_79 {x y : Int64} : wps rm K Q c_Outl_measure_79 kc ks loc (.long y :: .long x :: st) h = wps rm K Q c_Outl_measure_80 kc ks loc (.long (x * y) :: st) h := gk_lmul
theorem s_Outl_measure_80 {x : Int64} {l0 l1 l2 l3 l4 l5 l6 : Option Value} {l : eg_Lo} : wps rm K Q c_Outl_measure_80 kc ks (l0 :: l1 :: l2 :: l3 :: l4 :: l5 :: l6 :: some (.long x) :: l) (st) h = wps rm K Q c_Outl_measure_82 kc ks (l0 :: l1 :: l2 :: l3 :: l4 :: l5 :: l6 :: some (.long x) :: l) (.long x :: st) h := gk_lload rfl
theorem s_Outl_measure_82 {x : Int64} {l0 l1 l2 l3 l4 l5 l6 : Option Value} {l : eg_Lo} : wps rm K Q c_Outl_measure_82 kc ks (l0 :: l1 :: l2 :: l3 :: l4 :: l5 :: l6 :: some (.long x) :: l) (st) h = wps rm K Q c_Outl_measure_84 kc ks (l0 :: l1 :: l2 :: l3 :: l4 :: l5 :: l6 :: some (.long x) :: l) (.long x :: st) h := gk_lload rfl
theorem s_Outl_measure_84 {x y : Int64} : wps rm K Q c_Outl_measure_84 kc ks loc (.long y :: .long x :: st) h = wps rm K Q c_Outl_measure_85 kc ks loc (.long (x * y) :: st) h := gk_lmul
theorem s_Outl_measure_85 {x y : Int64} : wps rm K Q c_Outl_measure_85 kc ks loc (.long y :: .long x :: st) h = wps rm K Q c_Outl_measure_86 kc ks loc (.long (x + y) :: st) h := gk_ladd
theorem s_Outl_measure_86 {x : Int64} : wps rm K Q c_Outl_measure_86 kc ks loc (.long x :: st) h = wps rm K Q c_Outl_measure_88 kc ks (eg_set2 loc 13 (.long x)) (st) h := gk_lstore
theorem s_Outl_measure_88 {x : Int64} {l0 l1 l2 l3 l4 : Option Value} {l : eg_Lo} : wps rm K Q c_Outl_measure_88 kc ks (l0 :: l1 :: l2 :: l3 :: l4 :: some (.long x) :: l) (st) h = wps rm K Q c_Outl_measure_90 kc ks (l0 :: l1 :: l2 :: l3 :: l4 :: some (.long x) :: l) (.long x :: st) h := gk_lload rfl
theorem s_Outl_measure_90 {x : Int64} {l0 l1 l2 l3 l4 l5 l6 l7 l8 : Option Value} {l : eg_Lo} : wps rm K Q c_Outl_measure_90 kc ks (l0 :: l1 :: l2 :: l3 :: l4 :: l5 :: l6 :: l7 :: l8 :: some (.long x) :: l) (st) h = wps rm K Q c_Outl_measure_92 kc ks (l0 :: l1 :: l2 :: l3 :: l4 :: l5 :: l6 :: l7 :: l8 :: some (.long x) :: l) (.long x :: st) h := gk_lload rfl
theorem s_Outl_measure_92 {x y : Int64} : wps rm K Q c_Outl_measure_92 kc ks loc (.long y :: .long x :: st) h = wps rm K Q c_Outl_measure_93 kc ks loc (.long (x * y) :: st) h := gk_lmul
theorem s_Outl_measure_93 {x : Int64} {l0 l1 l2 l3 l4 l5 l6 : Option Value} {l : eg_Lo} : wps rm K Q c_Outl_measure_93 kc ks (l0 :: l1 :: l2 :: l3 :: l4 :: l5 :: l6 :: some (.long x) :: l) (st) h = wps rm K Q c_Outl_measure_95 kc ks (l0 :: l1 :: l2 :: l3 :: l4 :: l5 :: l6 :: some (.long x) :: l) (.long x :: st) h := gk_lload rfl
theorem s_Outl_measure_95 {x : Int64} {l0 l1 l2 l3 l4 l5 l6 l7 l8 l9 l10 : Option Value} {l : eg_Lo} : wps rm K Q c_Outl_measure_95 kc ks (l0 :: l1 :: l2 :: l3 :: l4 :: l5 :: l6 :: l7 :: l8 :: l9 :: l10 :: some (.long x) :: l) (st) h = wps rm K Q c_Outl_measure_97 kc ks (l0 :: l1 :: l2 :: l3 :: l4 :: l5 :: l6 :: l7 :: l8 :: l9 :: l10 :: some (.long x) :: l) (.long x :: st) h := gk_lload rfl
theorem s_Outl_measure_97 {x y : Int64} : wps rm K Q c_Outl_measure_97 kc ks loc (.long y :: .long x :: st) h = wps rm K Q c_Outl_measure_98 kc ks loc (.long (x * y) :: st) h := gk_lmul
theorem s_Outl_measure_98 {x y : Int64} : wps rm K Q c_Outl_measure_98 kc ks loc (.long y :: .long x :: st) h = wps rm K Q c_Outl_measure_99 kc ks loc (.long (x + y) :: st) h := gk_ladd
theorem s_Outl_measure_99 {x : Int64} : wps rm K Q c_Outl_measure_99 kc ks loc (.long x :: st) h = wps rm K Q c_Outl_measure_101 kc ks (eg_set2 loc 15 (.long x)) (st) h := gk_lstore
theorem s_Outl_measure_101 {x : Nat} {l : eg_Lo} : wps rm K Q c_Outl_measure_101 kc ks (some (.ref x) :: l) (st) h = wps rm K Q c_Outl_measure_102 kc ks (some (.ref x) :: l) (.ref x :: st) h := gk_aload rfl
theorem s_Outl_measure_102  : wps rm K Q c_Outl_measure_102 kc ks loc (st) h = wps rm K Q c_Outl_measure_103 kc ks loc (.long (1) :: st) h := gk_lc (by decide)
theorem s_Outl_measure_103 {x : Nat} {v : Value} : wps rm K Q c_Outl_measure_103 kc ks loc (v :: .ref (x + 1) :: st) h = eg_pf h x 7 5 v (fun h9 => wps rm K Q c_Outl_measure_106 kc ks loc (st) h9) := gk_pf
theorem s_Outl_measure_106 {x : Int64} {l0 l1 l2 l3 l4 l5 l6 l7 l8 l9 l10 l11 l12 l13 l14 : Option Value} {l : eg_Lo} : wps rm K Q c_Outl_measure_106 kc ks (l0 :: l1 :: l2 :: l3 :: l4 :: l5 :: l6 :: l7 :: l8 :: l9 :: l10 :: l11 :: l12 :: l13 :: l14 :: some (.long x) :: l) (st) h = wps rm K Q c_Outl_measure_108 kc ks (l0 :: l1 :: l2 :: l3 :: l4 :: l5 :: l6 :: l7 :: l8 :: l9 :: l10 :: l11 :: l12 :: l13 :: l14 :: some (.long x) :: l) (.long x :: st) h := gk_lload rfl
theorem s_Outl_measure_108  : wps rm K Q c_Outl_measure_108 kc ks loc (st) h = wps rm K Q c_Outl_measure_109 kc ks loc (.long (0) :: st) h := gk_lc (by decide)
theorem s_Outl_measure_109 {x y : Int64} : wps rm K Q c_Outl_measure_109 kc ks loc (.long y :: .long x :: st) h = wps rm K Q c_Outl_measure_110 kc ks loc (.int (lg_cmp x y) :: st) h := gk_lcmp
theorem s_Outl_measure_110 {x : Int32} : wps rm K Q c_Outl_measure_110 kc ks loc (.int x :: st) h = ((0 < x → K 131 kc ks loc st h) ∧ (¬ 0 < x → wps rm K Q c_Outl_measure_113 kc ks loc (st) h)) := gk_if1_gt
theorem s_Outl_measure_113 {x : Nat} {l : eg_Lo} : wps rm K Q c_Outl_measure_113 kc ks (some (.ref x) :: l) (st) h = wps rm K Q c_Outl_measure_114 kc ks (some (.ref x) :: l) (.ref x :: st) h := gk_aload rfl
theorem s_Outl_measure_114 {x : Int64} {l0 l1 l2 l3 l4 l5 l6 l7 l8 : Option Value} {l : eg_Lo} : wps rm K Q c_Outl_measure_114 kc ks (l0 :: l1 :: l2 :: l3 :: l4 :: l5 :: l6 :: l7 :: l8 :: some (.long x) :: l) (st) h = wps rm K Q c_Outl_measure_116 kc ks (l0 :: l1 :: l2 :: l3 :: l4 :: l5 :: l6 :: l7 :: l8 :: some (.long x) :: l) (.long x :: st) h := gk_lload rfl
theorem s_Outl_measure_116 {x : Int64} {l0 l1 l2 l3 l4 l5 l6 l7 l8 : Option Value} {l : eg_Lo} : wps rm K Q c_Outl_measure_116 kc ks (l0 :: l1 :: l2 :: l3 :: l4 :: l5 :: l6 :: l7 :: l8 :: some (.long x) :: l) (st) h = wps rm K Q c_Outl_measure_118 kc ks (l0 :: l1 :: l2 :: l3 :: l4 :: l5 :: l6 :: l7 :: l8 :: some (.long x) :: l) (.long x :: st) h := gk_lload rfl
theorem s_Outl_measure_118 {x y : Int64} : wps rm K Q c_Outl_measure_118 kc ks loc (.long y :: .long x :: st) h = wps rm K Q c_Outl_measure_119 kc ks loc (.long (x * y) :: st) h := gk_lmul
theorem s_Outl_measure_119 {x : Int64} {l0 l1 l2 l3 l4 l5 l6 l7 l8 l9 l10 : Option Value} {l : eg_Lo} : wps rm K Q c_Outl_measure_119 kc ks (l0 :: l1 :: l2 :: l3 :: l4 :: l5 :: l6 :: l7 :: l8 :: l9 :: l10 :: some (.long x) :: l) (st) h = wps rm K Q c_Outl_measure_121 kc ks (l0 :: l1 :: l2 :: l3 :: l4 :: l5 :: l6 :: l7 :: l8 :: l9 :: l10 :: some (.long x) :: l) (.long x :: st) h := gk_lload rfl
theorem s_Outl_measure_121 {x : Int64} {l0 l1 l2 l3 l4 l5 l6 l7 l8 l9 l10 : Option Value} {l : eg_Lo} : wps rm K Q c_Outl_measure_121 kc ks (l0 :: l1 :: l2 :: l3 :: l4 :: l5 :: l6 :: l7 :: l8 :: l9 :: l10 :: some (.long x) :: l) (st) h = wps rm K Q c_Outl_measure_123 kc ks (l0 :: l1 :: l2 :: l3 :: l4 :: l5 :: l6 :: l7 :: l8 :: l9 :: l10 :: some (.long x) :: l) (.long x :: st) h := gk_lload rfl
theorem s_Outl_measure_123 {x y : Int64} : wps rm K Q c_Outl_measure_123 kc ks loc (.long y :: .long x :: st) h = wps rm K Q c_Outl_measure_124 kc ks loc (.long (x * y) :: st) h := gk_lmul
theorem s_Outl_measure_124 {x y : Int64} : wps rm K Q c_Outl_measure_124 kc ks loc (.long y :: .long x :: st) h = wps rm K Q c_Outl_measure_125 kc ks loc (.long (x + y) :: st) h := gk_ladd
theorem s_Outl_measure_125 {x : Nat} {v : Value} : wps rm K Q c_Outl_measure_125 kc ks loc (v :: .ref (x + 1) :: st) h = eg_pf h x 7 4 v (fun h9 => wps rm K Q c_Outl_measure_128 kc ks loc (st) h9) := gk_pf
theorem s_Outl_measure_128  : wps rm K Q c_Outl_measure_128 kc ks loc (st) h = K 197 kc ks loc st h := gk_goto
theorem s_Outl_measure_131 {x : Int64} {l0 l1 l2 l3 l4 l5 l6 l7 l8 l9 l10 l11 l12 l13 l14 : Option Value} {l : eg_Lo} : wps rm K Q c_Outl_measure_131 kc ks (l0 :: l1 :: l2 :: l3 :: l4 :: l5 :: l6 :: l7 :: l8 :: l9 :: l10 :: l11 :: l12 :: l13 :: l14 :: some (.long x) :: l) (st) h = wps rm K Q c_Outl_measure_133 kc ks (l0 :: l1 :: l2 :: l3 :: l4 :: l5 :: l6 :: l7 :: l8 :: l9 :: l10 :: l11 :: l12 :: l13 :: l14 :: some (.long x) :: l) (.long x :: st) h := gk_lload rfl
theorem s_Outl_measure_133 {x : Int64} {l0 l1 l2 l3 l4 l5 l6 l7 l8 l9 l10 l11 l12 : Option Value} {l : eg_Lo} : wps rm K Q c_Outl_measure_133 kc ks (l0 :: l1 :: l2 :: l3 :: l4 :: l5 :: l6 :: l7 :: l8 :: l9 :: l10 :: l11 :: l12 :: some (.long x) :: l) (st) h = wps rm K Q c_Outl_measure_135 kc ks (l0 :: l1 :: l2 :: l3 :: l4 :: l5 :: l6 :: l7 :: l8 :: l9 :: l10 :: l11 :: l12 :: some (.long x) :: l) (.long x :: st) h := gk_lload rfl
theorem s_Outl_measure_135 {x y : Int64} : wps rm K Q c_Outl_measure_135 kc ks loc (.long y :: .long x :: st) h = wps rm K Q c_Outl_measure_136 kc ks loc (.int (lg_cmp x y) :: st) h := gk_lcmp
theorem s_Outl_measure_136 {x : Int32} : wps rm K Q c_Outl_measure_136 kc ks loc (.int x :: st) h = ((x < 0 → K 169 kc ks loc st h) ∧ (¬ x < 0 → wps rm K Q c_Outl_measure_139 kc ks loc (st) h)) := gk_if1_lt
theorem s_Outl_measure_139 {x : Nat} {l : eg_Lo} : wps rm K Q c_Outl_measure_139 kc ks (some (.ref x) :: l) (st) h = wps rm K Q c_Outl_measure_140 kc ks (some (.ref x) :: l) (.ref x :: st) h := gk_aload rfl
theorem s_Outl_measure_140 {x : Int64} {l0 l1 l2 l3 l4 l5 l6 l7 l8 : Option Value} {l : eg_Lo} : wps rm K Q c_Outl_measure_140 kc ks (l0 :: l1 :: l2 :: l3 :: l4 :: l5 :: l6 :: l7 :: l8 :: some (.long x) :: l) (st) h = wps rm K Q c_Outl_measure_142 kc ks (l0 :: l1 :: l2 :: l3 :: l4 :: l5 :: l6 :: l7 :: l8 :: some (.long x) :: l) (.long x :: st) h := gk_lload rfl
theorem s_Outl_measure_142 {x : Int64} {l0 l1 l2 l3 l4 : Option Value} {l : eg_Lo} : wps rm K Q c_Outl_measure_142 kc ks (l0 :: l1 :: l2 :: l3 :: l4 :: some (.long x) :: l) (st) h = wps rm K Q c_Outl_measure_144 kc ks (l0 :: l1 :: l2 :: l3 :: l4 :: some (.long x) :: l) (.long x :: st) h := gk_lload rfl
theorem s_Outl_measure_144 {x y : Int64} : wps rm K Q c_Outl_measure_144 kc ks loc (.long y :: .long x :: st) h = wps rm K Q c_Outl_measure_145 kc ks loc (.long (x - y) :: st) h := gk_lsub
theorem s_Outl_measure_145 {x : Int64} {l0 l1 l2 l3 l4 l5 l6 l7 l8 : Option Value} {l : eg_Lo} : wps rm K Q c_Outl_measure_145 kc ks (l0 :: l1 :: l2 :: l3 :: l4 :: l5 :: l6 :: l7 :: l8 :: some (.long x) :: l) (st) h = wps rm K Q c_Outl_measure_147 kc ks (l0 :: l1 :: l2 :: l3 :: l4 :: l5 :: l6 :: l7 :: l8 :: some (.long x) :: l) (.long x :: st) h := gk_lload rfl
theorem s_Outl_measure_147 {x : Int64} {l0 l1 l2 l3 l4 : Option Value} {l : eg_Lo} : wps rm K Q c_Outl_measure_147 kc ks (l0 :: l1 :: l2 :: l3 :: l4 :: some (.long x) :: l) (st) h = wps rm K Q c_Outl_measure_149 kc ks (l0 :: l1 :: l2 :: l3 :: l4 :: some (.long x) :: l) (.long x :: st) h := gk_lload rfl
theorem s_Outl_measure_149 {x y : Int64} : wps rm K Q c_Outl_measure_149 kc ks loc (.long y :: .long x :: st) h = wps rm K Q c_Outl_measure_150 kc ks loc (.long (x - y) :: st) h := gk_lsub
theorem s_Outl_measure_150 {x y : Int64} : wps rm K Q c_Outl_measure_150 kc ks loc (.long y :: .long x :: st) h = wps rm K Q c_Outl_measure_151 kc ks loc (.long (x * y) :: st) h := gk_lmul
theorem s_Outl_measure_151 {x : Int64} {l0 l1 l2 l3 l4 l5 l6 l7 l8 l9 l10 : Option Value} {l : eg_Lo} : wps rm K Q c_Outl_measure_151 kc ks (l0 :: l1 :: l2 :: l3 :: l4 :: l5 :: l6 :: l7 :: l8 :: l9 :: l10 :: some (.long x) :: l) (st) h = wps rm K Q c_Outl_measure_153 kc ks (l0 :: l1 :: l2 :: l3 :: l4 :: l5 :: l6 :: l7 :: l8 :: l9 :: l10 :: some (.long x) :: l) (.long x :: st) h := gk_lload rfl
theorem s_Outl_measure_153 {x : Int64} {l0 l1 l2 l3 l4 l5 l6 : Option Value} {l : eg_Lo} : wps rm K Q c_Outl_measure_153 kc ks (l0 :: l1 :: l2 :: l3 :: l4 :: l5 :: l6 :: some (.long x) :: l) (st) h = wps rm K Q c_Outl_measure_155 kc ks (l0 :: l1 :: l2 :: l3 :: l4 :: l5 :: l6 :: some (.long x) :: l) (.long x :: st) h := gk_lload rfl
theorem s_Outl_measure_155 {x y : Int64} : wps rm K Q c_Outl_measure_155 kc ks loc (.long y :: .long x :: st) h = wps rm K Q c_Outl_measure_156 kc ks loc (.long (x - y) :: st) h := gk_lsub
theorem s_Outl_measure_156 {x : Int64} {l0 l1 l2 l3 l4 l5 l6 l7 l8 l9 l10 : Option Value} {l : eg_Lo} : wps rm K Q c_Outl_measure_156 kc ks (l0 :: l1 :: l2 :: l3 :: l4 :: l5 :: l6 :: l7 :: l8 :: l9 :: l10 :: some (.long x) :: l) (st) h = wps rm K Q c_Outl_measure_158 kc ks (l0 :: l1 :: l2 :: l3 :: l4 :: l5 :: l6 :: l7 :: l8 :: l9 :: l10 :: some (.long x) :: l) (.long x :: st) h := gk_lload rfl
theorem s_Outl_measure_158 {x : Int64} {l0 l1 l2 l3 l4 l5 l6 : Option Value} {l : eg_Lo} : wps rm K Q c_Outl_measure_158 kc ks (l0 :: l1 :: l2 :: l3 :: l4 :: l5 :: l6 :: some (.long x) :: l) (st) h = wps rm K Q c_Outl_measure_160 kc ks (l0 :: l1 :: l2 :: l3 :: l4 :: l5 :: l6 :: some (.long x) :: l) (.long x :: st) h := gk_lload rfl
theorem s_Outl_measure_160 {x y : Int64} : wps rm K Q c_Outl_measure_160 kc ks loc (.long y :: .long x :: st) h = wps rm K Q c_Outl_measure_161 kc ks loc (.long (x - y) :: st) h := gk_lsub
theorem s_Outl_measure_161 {x y : Int64} : wps rm K Q c_Outl_measure_161 kc ks loc (.long y :: .long x :: st) h = wps rm K Q c_Outl_measure_162 kc ks loc (.long (x * y) :: st) h := gk_lmul
theorem s_Outl_measure_162 {x y : Int64} : wps rm K Q c_Outl_measure_162 kc ks loc (.long y :: .long x :: st) h = wps rm K Q c_Outl_measure_163 kc ks loc (.long (x + y) :: st) h := gk_ladd
theorem s_Outl_measure_163 {x : Nat} {v : Value} : wps rm K Q c_Outl_measure_163 kc ks loc (v :: .ref (x + 1) :: st) h = eg_pf h x 7 4 v (fun h9 => wps rm K Q c_Outl_measure_166 kc ks loc (st) h9) := gk_pf
theorem s_Outl_measure_166  : wps rm K Q c_Outl_measure_166 kc ks loc (st) h = K 197 kc ks loc st h := gk_goto
theorem s_Outl_measure_169 {x : Int64} {l0 l1 l2 l3 l4 : Option Value} {l : eg_Lo} : wps rm K Q c_Outl_measure_169 kc ks (l0 :: l1 :: l2 :: l3 :: l4 :: some (.long x) :: l) (st) h = wps rm K Q c_Outl_measure_171 kc ks (l0 :: l1 :: l2 :: l3 :: l4 :: some (.long x) :: l) (.long x :: st) h := gk_lload rfl
theorem s_Outl_measure_171 {x : Int64} {l0 l1 l2 l3 l4 l5 l6 l7 l8 l9 l10 : Option Value} {l : eg_Lo} : wps rm K Q c_Outl_measure_171 kc ks (l0 :: l1 :: l2 :: l3 :: l4 :: l5 :: l6 :: l7 :: l8 :: l9 :: l10 :: some (.long x) :: l) (st) h = wps rm K Q c_Outl_measure_173 kc ks (l0 :: l1 :: l2 :: l3 :: l4 :: l5 :: l6 :: l7 :: l8 :: l9 :: l10 :: some (.long x) :: l) (.long x :: st) h := gk_lload rfl
theorem s_Outl_measure_173 {x y : Int64} : wps rm K Q c_Outl_measure_173 kc ks loc (.long y :: .long x :: st) h = wps rm K Q c_Outl_measure_174 kc ks loc (.long (x * y) :: st) h := gk_lmul
theorem s_Outl_measure_174 {x : Int64} {l0 l1 l2 l3 l4 l5 l6 : Option Value} {l : eg_Lo} : wps rm K Q c_Outl_measure_174 kc ks (l0 :: l1 :: l2 :: l3 :: l4 :: l5 :: l6 :: some (.long x) :: l) (st) h = wps rm K Q c_Outl_measure_176 kc ks (l0 :: l1 :: l2 :: l3 :: l4 :: l5 :: l6 :: some (.long x) :: l) (.long x :: st) h := gk_lload rfl
theorem s_Outl_measure_176 {x : Int64} {l0 l1 l2 l3 l4 l5 l6 l7 l8 : Option Value} {l : eg_Lo} : wps rm K Q c_Outl_measure_176 kc ks (l0 :: l1 :: l2 :: l3 :: l4 :: l5 :: l6 :: l7 :: l8 :: some (.long x) :: l) (st) h = wps rm K Q c_Outl_measure_178 kc ks (l0 :: l1 :: l2 :: l3 :: l4 :: l5 :: l6 :: l7 :: l8 :: some (.long x) :: l) (.long x :: st) h := gk_lload rfl
theorem s_Outl_measure_178 {x y : Int64} : wps rm K Q c_Outl_measure_178 kc ks loc (.long y :: .long x :: st) h = wps rm K Q c_Outl_measure_179 kc ks loc (.long (x * y) :: st) h := gk_lmul
theorem s_Outl_measure_179 {x y : Int64} : wps rm K Q c_Outl_measure_179 kc ks loc (.long y :: .long x :: st) h = wps rm K Q c_Outl_measure_180 kc ks loc (.long (x - y) :: st) h := gk_lsub
theorem s_Outl_measure_180 {x : Int64} : wps rm K Q c_Outl_measure_180 kc ks loc (.long x :: st) h = wps rm K Q c_Outl_measure_182 kc ks (eg_set2 loc 17 (.long x)) (st) h := gk_lstore
theorem s_Outl_measure_182 {x : Nat} {l : eg_Lo} : wps rm K Q c_Outl_measure_182 kc ks (some (.ref x) :: l) (st) h = wps rm K Q c_Outl_measure_183 kc ks (some (.ref x) :: l) (.ref x :: st) h := gk_aload rfl
theorem s_Outl_measure_183 {x : Int64} {l0 l1 l2 l3 l4 l5 l6 l7 l8 l9 l10 l11 l12 l13 l14 l15 l16 : Option Value} {l : eg_Lo} : wps rm K Q c_Outl_measure_183 kc ks (l0 :: l1 :: l2 :: l3 :: l4 :: l5 :: l6 :: l7 :: l8 :: l9 :: l10 :: l11 :: l12 :: l13 :: l14 :: l15 :: l16 :: some (.long x) :: l) (st) h = wps rm K Q c_Outl_measure_185 kc ks (l0 :: l1 :: l2 :: l3 :: l4 :: l5 :: l6 :: l7 :: l8 :: l9 :: l10 :: l11 :: l12 :: l13 :: l14 :: l15 :: l16 :: some (.long x) :: l) (.long x :: st) h := gk_lload rfl
theorem s_Outl_measure_185 {x : Int64} {l0 l1 l2 l3 l4 l5 l6 l7 l8 l9 l10 l11 l12 l13 l14 l15 l16 : Option Value} {l : eg_Lo} : wps rm K Q c_Outl_measure_185 kc ks (l0 :: l1 :: l2 :: l3 :: l4 :: l5 :: l6 :: l7 :: l8 :: l9 :: l10 :: l11 :: l12 :: l13 :: l14 :: l15 :: l16 :: some (.long x) :: l) (st) h = wps rm K Q c_Outl_measure_187 kc ks (l0 :: l1 :: l2 :: l3 :: l4 :: l5 :: l6 :: l7 :: l8 :: l9 :: l10 :: l11 :: l12 :: l13 :: l14 :: l15 :: l16 :: some (.long x) :: l) (.long x :: st) h := gk_lload rfl
theorem s_Outl_measure_187 {x y : Int64} : wps rm K Q c_Outl_measure_187 kc ks loc (.long y :: .long x :: st) h = wps rm K Q c_Outl_measure_188 kc ks loc (.long (x * y) :: st) h := gk_lmul
theorem s_Outl_measure_188 {x : Nat} {v : Value} : wps rm K Q c_Outl_measure_188 kc ks loc (v :: .ref (x + 1) :: st) h = eg_pf h x 7 4 v (fun h9 => wps rm K Q c_Outl_measure_191 kc ks loc (st) h9) := gk_pf
theorem s_Outl_measure_191 {x : Nat} {l : eg_Lo} : wps rm K Q c_Outl_measure_191 kc ks (some (.ref x) :: l) (st) h = wps rm K Q c_Outl_measure_192 kc ks (some (.ref x) :: l) (.ref x :: st) h := gk_aload rfl
theorem s_Outl_measure_192 {x : Int64} {l0 l1 l2 l3 l4 l5 l6 l7 l8 l9 l10 l11 l12 : Option Value} {l : eg_Lo} : wps rm K Q c_Outl_measure_192 kc ks (l0 :: l1 :: l2 :: l3 :: l4 :: l5 :: l6 :: l7 :: l8 :: l9 :: l10 :: l11 :: l12 :: some (.long x) :: l) (st) h = wps rm K Q c_Outl_measure_194 kc ks (l0 :: l1 :: l2 :: l3 :: l4 :: l5 :: l6 :: l7 :: l8 :: l9 :: l10 :: l11 :: l12 :: some (.long x) :: l) (.long x :: st) h := gk_lload rfl
theorem s_Outl_measure_194 {x : Nat} {v : Value} : wps rm K Q c_Outl_measure_194 kc ks loc (v :: .ref (x + 1) :: st) h = eg_pf h x 7 5 v (fun h9 => wps rm K Q c_Outl_measure_197 kc ks loc (st) h9) := gk_pf
theorem s_Outl_measure_197  : wps rm K Q c_Outl_measure_197 kc ks loc ([]) h = (kc = rm.cells ∧ Q none h) := gk_vret
def T_Outl_measure : List (Nat × List eg_I) := [(16, c_Outl_measure_16), (17, c_Outl_measure_17), (131, c_Outl_measure_131), (169, c_Outl_measure_169), (197, c_Outl_measure_197)]
theorem j_Outl_measure_16 {R : Nat → Nat → Nat → eg_Lo → List Value → List eg_E → Prop} {f pc0 : Nat} : eg_run rm R Q T_Outl_measure (f + 1) 16 kc ks loc st h = wps rm (eg_run rm R Q T_Outl_measure f) Q c_Outl_measure_16 kc ks loc st h := rfl
theorem j_Outl_measure_17 {R : Nat → Nat → Nat → eg_Lo → List Value → List eg_E → Prop} {f pc0 : Nat} : eg_run rm R Q T_Outl_measure (f + 1) 17 kc ks loc st h = wps rm (eg_run rm R Q T_Outl_measure f) Q c_Outl_measure_17 kc ks loc st h := rfl
theorem j_Outl_measure_131 {R : Nat → Nat → Nat → eg_Lo → List Value → List eg_E → Prop} {f pc0 : Nat} : eg_run rm R Q T_Outl_measure (f + 1) 131 kc ks loc st h = wps rm (eg_run rm R Q T_Outl_measure f) Q c_Outl_measure_131 kc ks loc st h := rfl
theorem j_Outl_measure_169 {R : Nat → Nat → Nat → eg_Lo → List Value → List eg_E → Prop} {f pc0 : Nat} : eg_run rm R Q T_Outl_measure (f + 1) 169 kc ks loc st h = wps rm (eg_run rm R Q T_Outl_measure f) Q c_Outl_measure_169 kc ks loc st h := rfl
theorem j_Outl_measure_197 {R : Nat → Nat → Nat → eg_Lo → List Value → List eg_E → Prop} {f pc0 : Nat} : eg_run rm R Q T_Outl_measure (f + 1) 197 kc ks loc st h = wps rm (eg_run rm R Q T_Outl_measure f) Q c_Outl_measure_197 kc ks loc st h := rfl
end
theorem y_Outl_measure_0 : eg_seq m_Outl_measure 0 c_Outl_measure_0 = true := by decide +kernel
theorem y_Outl_measure_16 : eg_seq m_Outl_measure 16 c_Outl_measure_16 = true := by decide +kernel
theorem y_Outl_measure_131 : eg_seq m_Outl_measure 131 c_Outl_measure_131 = true := by decide +kernel
theorem y_Outl_measure_169 : eg_seq m_Outl_measure 169 c_Outl_measure_169 = true := by decide +kernel
theorem q_Outl_measure : ∀ q ∈ T_Outl_measure, eg_seq m_Outl_measure q.1 q.2 = true := by
  intro q hq
  simp only [T_Outl_measure, List.mem_cons, List.not_mem_nil, or_false] at hq
  rcases hq with rfl | rfl | rfl | rfl | rfl
  · exact y_Outl_measure_16
  · exact (eg_seq_drop y_Outl_measure_16 1 : eg_seq m_Outl_measure 17 c_Outl_measure_17 = true)
  · exact y_Outl_measure_131
  · exact y_Outl_measure_169
  · exact (eg_seq_drop y_Outl_measure_169 16 : eg_seq m_Outl_measure 197 c_Outl_measure_197 = true)
theorem b_Outl_measure {as : List Value} {h : List eg_E} {Q : Option Value → List eg_E → Prop} (hf : (eg_fl as).length ≤ 19) (hw : wps (eg_rm m_Outl_measure) (eg_run (eg_rm m_Outl_measure) (eg_R m_Outl_measure Q (h.length + 0)) Q T_Outl_measure 7) Q c_Outl_measure_0 0 0 (eg_entry 19 as) [] h) : eg_Runs n_Outl_measure as h Q := eg_begin2 (d := m_Outl_measure) rfl (by decide) y_Outl_measure_0 q_Outl_measure hf hw
/-! ===== Part_init ===== -/
def c_Part_init_36 : List eg_I := .inl (36, 1, .return_, 0, 0) :: []
def c_Part_init_33 : List eg_I := .inl (33, 3, .putfield 21, 8, 3) :: c_Part_init_36
def c_Part_init_31 : List eg_I := .inl (31, 2, .newarray .boolean, 2, 0) :: c_Part_init_33
def c_Part_init_29 : List eg_I := .inl (29, 2, .iconst (16), 0, 0) :: c_Part_init_31
def c_Part_init_28 : List eg_I := .inl (28, 1, .aload 0, 0, 0) :: c_Part_init_29
def c_Part_init_25 : List eg_I := .inl (25, 3, .putfield 18, 8, 2) :: c_Part_init_28
def c_Part_init_23 : List eg_I := .inl (23, 2, .newarray .int, 0, 0) :: c_Part_init_25
def c_Part_init_21 : List eg_I := .inl (21, 2, .iconst (16), 0, 0) :: c_Part_init_23
def c_Part_init_20 : List eg_I := .inl (20, 1, .aload 0, 0, 0) :: c_Part_init_21
def c_Part_init_17 : List eg_I := .inl (17, 3, .putfield 15, 8, 1) :: c_Part_init_20
def c_Part_init_15 : List eg_I := .inl (15, 2, .newarray .int, 0, 0) :: c_Part_init_17
def c_Part_init_13 : List eg_I := .inl (13, 2, .iconst (16), 0, 0) :: c_Part_init_15
def c_Part_init_12 : List eg_I := .inl (12, 1, .aload 0, 0, 0) :: c_Part_init_13
def c_Part_init_9 : List eg_I := .inl (9, 3, .putfield 9, 8, 0) :: c_Part_init_12
def c_Part_init_7 : List eg_I := .inl (7, 2, .newarray .int, 0, 0) :: c_Part_init_9
def c_Part_init_5 : List eg_I := .inl (5, 2, .iconst (16), 0, 0) :: c_Part_init_7
def c_Part_init_4 : List eg_I := .inl (4, 1, .aload 0, 0, 0) :: c_Part_init_5
def c_Part_init_1 : List eg_I := .inl (1, 3, .athrow, 3, 0) :: c_Part_init_4
def c_Part_init_0 : List eg_I := .inl (0, 1, .aload 0, 0, 0) :: c_Part_init_1
section
variable {rm : Room} {K : Nat → Nat → Nat → eg_Lo → List Value → List eg_E → Prop} {Q : Option Value → List eg_E → Prop} {kc ks : Nat} {loc : eg_Lo} {st : List Value} {h : List eg_E}
theorem s_Part_init_0 {x : Nat} {l : eg_Lo} : wps rm K Q c_Part_init_0 kc ks (some (.ref x) :: l) (st) h = wps rm K Q c_Part_init_1 kc ks (some (.ref x) :: l) (.ref x :: st) h := gk_aload rfl
theorem s_Part_init_1 {x : Nat} : wps rm K Q c_Part_init_1 kc ks loc (.ref (x + 1) :: st) h = (st.length ≤ 4 ∧ wps rm K Q c_Part_init_4 kc ks loc (st) h) := gk_oi
theorem s_Part_init_4 {x : Nat} {l : eg_Lo} : wps rm K Q c_Part_init_4 kc ks (some (.ref x) :: l) (st) h = wps rm K Q c_Part_init_5 kc ks (some (.ref x) :: l) (.ref x :: st) h := gk_aload rfl
theorem s_Part_init_5  : wps rm K Q c_Part_init_5 kc ks loc (st) h = wps rm K Q c_Part_init_7 kc ks loc (.int (16) :: st) h := gk_ic (by decide)
theorem s_Part_init_7 {x : Int32} : wps rm K Q c_Part_init_7 kc ks loc (.int x :: st) h = (¬ x < 0 ∧ x.toNatClampNeg ≤ 1000 ∧ kc + 1 ≤ rm.cells ∧ ks + x.toNatClampNeg ≤ rm.slots ∧ wps rm K Q c_Part_init_9 (kc + 1) (ks + x.toNatClampNeg) loc (.ref (h.length + 1) :: st) (h ++ [.inl (0, eg_zero 0 x.toNatClampNeg)])) := gk_na
theorem s_Part_init_9 {x : Nat} {v : Value} : wps rm K Q c_Part_init_9 kc ks loc (v :: .ref (x + 1) :: st) h = eg_pf h x 8 0 v (fun h9 => wps rm K Q c_Part_init_12 kc ks loc (st) h9) := gk_pf
theorem s_Part_init_12 {x : Nat} {l : eg_Lo} : wps rm K Q c_Part_init_12 kc ks (some (.ref x) :: l) (st) h = wps rm K Q c_Part_init_13 kc ks (some (.ref x) :: l) (.ref x :: st) h := gk_aload rfl
theorem s_Part_init_13  : wps rm K Q c_Part_init_13 kc ks loc (st) h = wps rm K Q c_Part_init_15 kc ks loc (.int (16) :: st) h := gk_ic (by decide)
theorem s_Part_init_15 {x : Int32} : wps rm K Q c_Part_init_15 kc ks loc (.int x :: st) h = (¬ x < 0 ∧ x.toNatClampNeg ≤ 1000 ∧ kc + 1 ≤ rm.cells ∧ ks + x.toNatClampNeg ≤ rm.slots ∧ wps rm K Q c_Part_init_17 (kc + 1) (ks + x.toNatClampNeg) loc (.ref (h.length + 1) :: st) (h ++ [.inl (0, eg_zero 0 x.toNatClampNeg)])) := gk_na
theorem s_Part_init_17 {x : Nat} {v : Value} : wps rm K Q c_Part_init_17 kc ks loc (v :: .ref (x + 1) :: st) h = eg_pf h x 8 1 v (fun h9 => wps rm K Q c_Part_init_20 kc ks loc (st) h9) := gk_pf
theorem s_Part_init_20 {x : Nat} {l : eg_Lo} : wps rm K Q c_Part_init_20 kc ks (some (.ref x) :: l) (st) h = wps rm K Q c_Part_init_21 kc ks (some (.ref x) :: l) (.ref x :: st) h := gk_aload rfl
theorem s_Part_init_21  : wps rm K Q c_Part_init_21 kc ks loc (st) h = wps rm K Q c_Part_init_23 kc ks loc (.int (16) :: st) h := gk_ic (by decide)
theorem s_Part_init_23 {x : Int32} : wps rm K Q c_Part_init_23 kc ks loc (.int x :: st) h = (¬ x < 0 ∧ x.toNatClampNeg ≤ 1000 ∧ kc + 1 ≤ rm.cells ∧ ks + x.toNatClampNeg ≤ rm.slots ∧ wps rm K Q c_Part_init_25 (kc + 1) (ks + x.toNatClampNeg) loc (.ref (h.length + 1) :: st) (h ++ [.inl (0, eg_zero 0 x.toNatClampNeg)])) := gk_na
theorem s_Part_init_25 {x : Nat} {v : Value} : wps rm K Q c_Part_init_25 kc ks loc (v :: .ref (x + 1) :: st) h = eg_pf h x 8 2 v (fun h9 => wps rm K Q c_Part_init_28 kc ks loc (st) h9) := gk_pf
theorem s_Part_init_28 {x : Nat} {l : eg_Lo} : wps rm K Q c_Part_init_28 kc ks (some (.ref x) :: l) (st) h = wps rm K Q c_Part_init_29 kc ks (some (.ref x) :: l) (.ref x :: st) h := gk_aload rfl
theorem s_Part_init_29  : wps rm K Q c_Part_init_29 kc ks loc (st) h = wps rm K Q c_Part_init_31 kc ks loc (.int (16) :: st) h := gk_ic (by decide)
theorem s_Part_init_31 {x : Int32} : wps rm K Q c_Part_init_31 kc ks loc (.int x :: st) h = (¬ x < 0 ∧ x.toNatClampNeg ≤ 1000 ∧ kc + 1 ≤ rm.cells ∧ ks + x.toNatClampNeg ≤ rm.slots ∧ wps rm K Q c_Part_init_33 (kc + 1) (ks + x.toNatClampNeg) loc (.ref (h.length + 1) :: st) (h ++ [.inl (2, eg_zero 2 x.toNatClampNeg)])) := gk_na
theorem s_Part_init_33 {x : Nat} {v : Value} : wps rm K Q c_Part_init_33 kc ks loc (v :: .ref (x + 1) :: st) h = eg_pf h x 8 3 v (fun h9 => wps rm K Q c_Part_init_36 kc ks loc (st) h9) := gk_pf
theorem s_Part_init_36  : wps rm K Q c_Part_init_36 kc ks loc ([]) h = (kc = rm.cells ∧ Q none h) := gk_vret
def T_Part_init : List (Nat × List eg_I) := []
end
theorem y_Part_init_0 : eg_seq m_Part_init 0 c_Part_init_0 = true := by decide +kernel
theorem q_Part_init : ∀ q ∈ T_Part_init, eg_seq m_Part_init q.1 q.2 = true := by
  intro q hq
  cases hq
theorem b_Part_init {as : List Value} {h : List eg_E} {Q : Option Value → List eg_E → Prop} (hf : (eg_fl as).length ≤ 1) (hw : wps (eg_rm m_Part_init) (eg_run (eg_rm m_Part_init) (eg_R m_Part_init Q (h.length + 4)) Q T_Part_init 2) Q c_Part_init_0 0 0 (eg_entry 1 as) [] h) : eg_Runs n_Part_init as h Q := eg_begin2 (d := m_Part_init) rfl (by decide) y_Part_init_0 q_Part_init hf hw
/-! ===== Part_room ===== -/
def c_Part_room_7 : List eg_I := .inl (7, 1, .ireturn, 0, 0) :: []
def c_Part_room_6 : List eg_I := .inl (6, 1, .isub, 0, 0) :: c_Part_room_7
def c_Part_room_3 : List eg_I := .inl (3, 3, .getfield 25, 8, 4) :: c_Part_room_6
def c_Part_room_2 : List eg_I := .inl (2, 1, .aload 0, 0, 0) :: c_Part_room_3
def c_Part_room_0 : List eg_I := .inl (0, 2, .iconst (16), 0, 0) :: c_Part_room_2
section
variable {rm : Room} {K : Nat → Nat → Nat → eg_Lo → List Value → List eg_E → Prop} {Q : Option Value → List eg_E → Prop} {kc ks : Nat} {loc : eg_Lo} {st : List Value} {h : List eg_E}
theorem s_Part_room_0  : wps rm K Q c_Part_room_0 kc ks loc (st) h = wps rm K Q c_Part_room_2 kc ks loc (.int (16) :: st) h := gk_ic (by decide)
theorem s_Part_room_2 {x : Nat} {l : eg_Lo} : wps rm K Q c_Part_room_2 kc ks (some (.ref x) :: l) (st) h = wps rm K Q c_Part_room_3 kc ks (some (.ref x) :: l) (.ref x :: st) h := gk_aload rfl
theorem s_Part_room_3 {x : Nat} : wps rm K Q c_Part_room_3 kc ks loc (.ref (x + 1) :: st) h = eg_gf h x 8 4 (fun v => wps rm K Q c_Part_room_6 kc ks loc (v :: st) h) := gk_gf
theorem s_Part_room_6 {x y : Int32} : wps rm K Q c_Part_room_6 kc ks loc (.int y :: .int x :: st) h = wps rm K Q c_Part_room_7 kc ks loc (.int (x - y) :: st) h := gk_isub
theorem s_Part_room_7 {x : Int32} : wps rm K Q c_Part_room_7 kc ks loc ([.int x]) h = (kc = rm.cells ∧ (0 = 1 → x = 0 ∨ x = 1) ∧ Q (some (.int x)) h) := gk_iret
def T_Part_room : List (Nat × List eg_I) := []
end
theorem y_Part_room_0 : eg_seq m_Part_room 0 c_Part_room_0 = true := by decide +kernel
theorem q_Part_room : ∀ q ∈ T_Part_room, eg_seq m_Part_room q.1 q.2 = true := by
  intro q hq
  cases hq
theorem b_Part_room {as : List Value} {h : List eg_E} {Q : Option Value → List eg_E → Prop} (hf : (eg_fl as).length ≤ 1) (hw : wps (eg_rm m_Part_room) (eg_run (eg_rm m_Part_room) (eg_R m_Part_room Q (h.length + 0)) Q T_Part_room 2) Q c_Part_room_0 0 0 (eg_entry 1 as) [] h) : eg_Runs n_Part_room as h Q := eg_begin2 (d := m_Part_room) rfl (by decide) y_Part_room_0 q_Part_room hf hw
/-! ===== Part_add ===== -/
def c_Part_add_63 : List eg_I := .inl (63, 1, .ireturn, 0, 0) :: []
def c_Part_add_60 : List eg_I := .inl (60, 3, .getfield 25, 8, 4) :: c_Part_add_63
def c_Part_add_59 : List eg_I := .inl (59, 1, .aload 0, 0, 0) :: c_Part_add_60
def c_Part_add_56 : List eg_I := .inl (56, 3, .putfield 25, 8, 4) :: c_Part_add_59
def c_Part_add_55 : List eg_I := .inl (55, 1, .iadd, 0, 0) :: c_Part_add_56
def c_Part_add_54 : List eg_I := .inl (54, 1, .iconst (1), 0, 0) :: c_Part_add_55
def c_Part_add_51 : List eg_I := .inl (51, 3, .getfield 25, 8, 4) :: c_Part_add_54
def c_Part_add_50 : List eg_I := .inl (50, 1, .dup, 0, 0) :: c_Part_add_51
def c_Part_add_49 : List eg_I := .inl (49, 1, .aload 0, 0, 0) :: c_Part_add_50
def c_Part_add_48 : List eg_I := .inl (48, 1, .bastore, 0, 0) :: c_Part_add_49
def c_Part_add_47 : List eg_I := .inl (47, 1, .iconst (0), 0, 0) :: c_Part_add_48
def c_Part_add_44 : List eg_I := .inl (44, 3, .getfield 25, 8, 4) :: c_Part_add_47
def c_Part_add_43 : List eg_I := .inl (43, 1, .aload 0, 0, 0) :: c_Part_add_44
def c_Part_add_40 : List eg_I := .inl (40, 3, .getfield 21, 8, 3) :: c_Part_add_43
def c_Part_add_39 : List eg_I := .inl (39, 1, .aload 0, 0, 0) :: c_Part_add_40
def c_Part_add_38 : List eg_I := .inl (38, 1, .iastore, 0, 0) :: c_Part_add_39
def c_Part_add_37 : List eg_I := .inl (37, 1, .iload 3, 0, 0) :: c_Part_add_38
def c_Part_add_34 : List eg_I := .inl (34, 3, .getfield 25, 8, 4) :: c_Part_add_37
def c_Part_add_33 : List eg_I := .inl (33, 1, .aload 0, 0, 0) :: c_Part_add_34
def c_Part_add_30 : List eg_I := .inl (30, 3, .getfield 18, 8, 2) :: c_Part_add_33
def c_Part_add_29 : List eg_I := .inl (29, 1, .aload 0, 0, 0) :: c_Part_add_30
def c_Part_add_28 : List eg_I := .inl (28, 1, .iastore, 0, 0) :: c_Part_add_29
def c_Part_add_27 : List eg_I := .inl (27, 1, .iload 2, 0, 0) :: c_Part_add_28
def c_Part_add_24 : List eg_I := .inl (24, 3, .getfield 25, 8, 4) :: c_Part_add_27
def c_Part_add_23 : List eg_I := .inl (23, 1, .aload 0, 0, 0) :: c_Part_add_24
def c_Part_add_20 : List eg_I := .inl (20, 3, .getfield 15, 8, 1) :: c_Part_add_23
def c_Part_add_19 : List eg_I := .inl (19, 1, .aload 0, 0, 0) :: c_Part_add_20
def c_Part_add_18 : List eg_I := .inl (18, 1, .iastore, 0, 0) :: c_Part_add_19
def c_Part_add_17 : List eg_I := .inl (17, 1, .iload 1, 0, 0) :: c_Part_add_18
def c_Part_add_14 : List eg_I := .inl (14, 3, .getfield 25, 8, 4) :: c_Part_add_17
def c_Part_add_13 : List eg_I := .inl (13, 1, .aload 0, 0, 0) :: c_Part_add_14
def c_Part_add_10 : List eg_I := .inl (10, 3, .getfield 9, 8, 0) :: c_Part_add_13
def c_Part_add_9 : List eg_I := .inl (9, 1, .aload 0, 0, 0) :: c_Part_add_10
def c_Part_add_6 : List eg_I := .inl (6, 3, .if_icmp .ge (53), 59, 0) :: c_Part_add_9
def c_Part_add_4 : List eg_I := .inl (4, 2, .iconst (16), 0, 0) :: c_Part_add_6
def c_Part_add_1 : List eg_I := .inl (1, 3, .getfield 25, 8, 4) :: c_Part_add_4
def c_Part_add_0 : List eg_I := .inl (0, 1, .aload 0, 0, 0) :: c_Part_add_1
section
variable {rm : Room} {K : Nat → Nat → Nat → eg_Lo → List Value → List eg_E → Prop} {Q : Option Value → List eg_E → Prop} {kc ks : Nat} {loc : eg_Lo} {st : List Value} {h : List eg_E}
theorem s_Part_add_0 {x : Nat} {l : eg_Lo} : wps rm K Q c_Part_add_0 kc ks (some (.ref x) :: l) (st) h = wps rm K Q c_Part_add_1 kc ks (some (.ref x) :: l) (.ref x :: st) h := gk_aload rfl
theorem s_Part_add_1 {x : Nat} : wps rm K Q c_Part_add_1 kc ks loc (.ref (x + 1) :: st) h = eg_gf h x 8 4 (fun v => wps rm K Q c_Part_add_4 kc ks loc (v :: st) h) := gk_gf
theorem s_Part_add_4  : wps rm K Q c_Part_add_4 kc ks loc (st) h = wps rm K Q c_Part_add_6 kc ks loc (.int (16) :: st) h := gk_ic (by decide)
theorem s_Part_add_6 {x y : Int32} : wps rm K Q c_Part_add_6 kc ks loc (.int y :: .int x :: st) h = ((y ≤ x → K 59 kc ks loc st h) ∧ (¬ y ≤ x → wps rm K Q c_Part_add_9 kc ks loc (st) h)) := gk_if2_ge
theorem s_Part_add_9 {x : Nat} {l : eg_Lo} : wps rm K Q c_Part_add_9 kc ks (some (.ref x) :: l) (st) h = wps rm K Q c_Part_add_10 kc ks (some (.ref x) :: l) (.ref x :: st) h := gk_aload rfl
theorem s_Part_add_10 {x : Nat} : wps rm K Q c_Part_add_10 kc ks loc (.ref (x + 1) :: st) h = eg_gf h x 8 0 (fun v => wps rm K Q c_Part_add_13 kc ks loc (v :: st) h) := gk_gf
theorem s_Part_add_13 {x : Nat} {l : eg_Lo} : wps rm K Q c_Part_add_13 kc ks (some (.ref x) :: l) (st) h = wps rm K Q c_Part_add_14 kc ks (some (.ref x) :: l) (.ref x :: st) h := gk_aload rfl
theorem s_Part_add_14 {x : Nat} : wps rm K Q c_Part_add_14 kc ks loc (.ref (x + 1) :: st) h = eg_gf h x 8 4 (fun v => wps rm K Q c_Part_add_17 kc ks loc (v :: st) h) := gk_gf
theorem s_Part_add_17 {x : Int32} {l0 : Option Value} {l : eg_Lo} : wps rm K Q c_Part_add_17 kc ks (l0 :: some (.int x) :: l) (st) h = wps rm K Q c_Part_add_18 kc ks (l0 :: some (.int x) :: l) (.int x :: st) h := gk_iload rfl
theorem s_Part_add_18 {x : Nat} {i : Int32} {v : Int32} : wps rm K Q c_Part_add_18 kc ks loc (.int v :: .int i :: .ref (x + 1) :: st) h = eg_is h x i v (fun h9 => wps rm K Q c_Part_add_19 kc ks loc (st) h9) := gk_iastore
theorem s_Part_add_19 {x : Nat} {l : eg_Lo} : wps rm K Q c_Part_add_19 kc ks (some (.ref x) :: l) (st) h = wps rm K Q c_Part_add_20 kc ks (some (.ref x) :: l) (.ref x :: st) h := gk_aload rfl
theorem s_Part_add_20 {x : Nat} : wps rm K Q c_Part_add_20 kc ks loc (.ref (x + 1) :: st) h = eg_gf h x 8 1 (fun v => wps rm K Q c_Part_add_23 kc ks loc (v :: st) h) := gk_gf
theorem s_Part_add_23 {x : Nat} {l : eg_Lo} : wps rm K Q c_Part_add_23 kc ks (some (.ref x) :: l) (st) h = wps rm K Q c_Part_add_24 kc ks (some (.ref x) :: l) (.ref x :: st) h := gk_aload rfl
theorem s_Part_add_24 {x : Nat} : wps rm K Q c_Part_add_24 kc ks loc (.ref (x + 1) :: st) h = eg_gf h x 8 4 (fun v => wps rm K Q c_Part_add_27 kc ks loc (v :: st) h) := gk_gf
theorem s_Part_add_27 {x : Int32} {l0 l1 : Option Value} {l : eg_Lo} : wps rm K Q c_Part_add_27 kc ks (l0 :: l1 :: some (.int x) :: l) (st) h = wps rm K Q c_Part_add_28 kc ks (l0 :: l1 :: some (.int x) :: l) (.int x :: st) h := gk_iload rfl
theorem s_Part_add_28 {x : Nat} {i : Int32} {v : Int32} : wps rm K Q c_Part_add_28 kc ks loc (.int v :: .int i :: .ref (x + 1) :: st) h = eg_is h x i v (fun h9 => wps rm K Q c_Part_add_29 kc ks loc (st) h9) := gk_iastore
theorem s_Part_add_29 {x : Nat} {l : eg_Lo} : wps rm K Q c_Part_add_29 kc ks (some (.ref x) :: l) (st) h = wps rm K Q c_Part_add_30 kc ks (some (.ref x) :: l) (.ref x :: st) h := gk_aload rfl
theorem s_Part_add_30 {x : Nat} : wps rm K Q c_Part_add_30 kc ks loc (.ref (x + 1) :: st) h = eg_gf h x 8 2 (fun v => wps rm K Q c_Part_add_33 kc ks loc (v :: st) h) := gk_gf
theorem s_Part_add_33 {x : Nat} {l : eg_Lo} : wps rm K Q c_Part_add_33 kc ks (some (.ref x) :: l) (st) h = wps rm K Q c_Part_add_34 kc ks (some (.ref x) :: l) (.ref x :: st) h := gk_aload rfl
theorem s_Part_add_34 {x : Nat} : wps rm K Q c_Part_add_34 kc ks loc (.ref (x + 1) :: st) h = eg_gf h x 8 4 (fun v => wps rm K Q c_Part_add_37 kc ks loc (v :: st) h) := gk_gf
theorem s_Part_add_37 {x : Int32} {l0 l1 l2 : Option Value} {l : eg_Lo} : wps rm K Q c_Part_add_37 kc ks (l0 :: l1 :: l2 :: some (.int x) :: l) (st) h = wps rm K Q c_Part_add_38 kc ks (l0 :: l1 :: l2 :: some (.int x) :: l) (.int x :: st) h := gk_iload rfl
theorem s_Part_add_38 {x : Nat} {i : Int32} {v : Int32} : wps rm K Q c_Part_add_38 kc ks loc (.int v :: .int i :: .ref (x + 1) :: st) h = eg_is h x i v (fun h9 => wps rm K Q c_Part_add_39 kc ks loc (st) h9) := gk_iastore
theorem s_Part_add_39 {x : Nat} {l : eg_Lo} : wps rm K Q c_Part_add_39 kc ks (some (.ref x) :: l) (st) h = wps rm K Q c_Part_add_40 kc ks (some (.ref x) :: l) (.ref x :: st) h := gk_aload rfl
theorem s_Part_add_40 {x : Nat} : wps rm K Q c_Part_add_40 kc ks loc (.ref (x + 1) :: st) h = eg_gf h x 8 3 (fun v => wps rm K Q c_Part_add_43 kc ks loc (v :: st) h) := gk_gf
theorem s_Part_add_43 {x : Nat} {l : eg_Lo} : wps rm K Q c_Part_add_43 kc ks (some (.ref x) :: l) (st) h = wps rm K Q c_Part_add_44 kc ks (some (.ref x) :: l) (.ref x :: st) h := gk_aload rfl
theorem s_Part_add_44 {x : Nat} : wps rm K Q c_Part_add_44 kc ks loc (.ref (x + 1) :: st) h = eg_gf h x 8 4 (fun v => wps rm K Q c_Part_add_47 kc ks loc (v :: st) h) := gk_gf
theorem s_Part_add_47  : wps rm K Q c_Part_add_47 kc ks loc (st) h = wps rm K Q c_Part_add_48 kc ks loc (.int (0) :: st) h := gk_ic (by decide)
theorem s_Part_add_48 {x : Nat} {i : Int32} {v : Int32} : wps rm K Q c_Part_add_48 kc ks loc (.int v :: .int i :: .ref (x + 1) :: st) h = eg_bs h x i v (fun h9 => wps rm K Q c_Part_add_49 kc ks loc (st) h9) := gk_bastore
theorem s_Part_add_49 {x : Nat} {l : eg_Lo} : wps rm K Q c_Part_add_49 kc ks (some (.ref x) :: l) (st) h = wps rm K Q c_Part_add_50 kc ks (some (.ref x) :: l) (.ref x :: st) h := gk_aload rfl
theorem s_Part_add_50 {x : Nat} : wps rm K Q c_Part_add_50 kc ks loc (.ref x :: st) h = wps rm K Q c_Part_add_51 kc ks loc (.ref x :: .ref x :: st) h := gk_dup
theorem s_Part_add_51 {x : Nat} : wps rm K Q c_Part_add_51 kc ks loc (.ref (x + 1) :: st) h = eg_gf h x 8 4 (fun v => wps rm K Q c_Part_add_54 kc ks loc (v :: st) h) := gk_gf
theorem s_Part_add_54  : wps rm K Q c_Part_add_54 kc ks loc (st) h = wps rm K Q c_Part_add_55 kc ks loc (.int (1) :: st) h := gk_ic (by decide)
theorem s_Part_add_55 {x y : Int32} : wps rm K Q c_Part_add_55 kc ks loc (.int y :: .int x :: st) h = wps rm K Q c_Part_add_56 kc ks loc (.int (x + y) :: st) h := gk_iadd
theorem s_Part_add_56 {x : Nat} {v : Value} : wps rm K Q c_Part_add_56 kc ks loc (v :: .ref (x + 1) :: st) h = eg_pf h x 8 4 v (fun h9 => wps rm K Q c_Part_add_59 kc ks loc (st) h9) := gk_pf
theorem s_Part_add_59 {x : Nat} {l : eg_Lo} : wps rm K Q c_Part_add_59 kc ks (some (.ref x) :: l) (st) h = wps rm K Q c_Part_add_60 kc ks (some (.ref x) :: l) (.ref x :: st) h := gk_aload rfl
theorem s_Part_add_60 {x : Nat} : wps rm K Q c_Part_add_60 kc ks loc (.ref (x + 1) :: st) h = eg_gf h x 8 4 (fun v => wps rm K Q c_Part_add_63 kc ks loc (v :: st) h) := gk_gf
theorem s_Part_add_63 {x : Int32} : wps rm K Q c_Part_add_63 kc ks loc ([.int x]) h = (kc = rm.cells ∧ (0 = 1 → x = 0 ∨ x = 1) ∧ Q (some (.int x)) h) := gk_iret
def T_Part_add : List (Nat × List eg_I) := [(59, c_Part_add_59)]
theorem j_Part_add_59 {R : Nat → Nat → Nat → eg_Lo → List Value → List eg_E → Prop} {f pc0 : Nat} : eg_run rm R Q T_Part_add (f + 1) 59 kc ks loc st h = wps rm (eg_run rm R Q T_Part_add f) Q c_Part_add_59 kc ks loc st h := rfl
end
theorem y_Part_add_0 : eg_seq m_Part_add 0 c_Part_add_0 = true := by decide +kernel
theorem q_Part_add : ∀ q ∈ T_Part_add, eg_seq m_Part_add q.1 q.2 = true := by
  intro q hq
  simp only [T_Part_add, List.mem_cons, List.not_mem_nil, or_false] at hq
  rcases hq with rfl
  · exact (eg_seq_drop y_Part_add_0 34 : eg_seq m_Part_add 59 c_Part_add_59 = true)
theorem b_Part_add {as : List Value} {h : List eg_E} {Q : Option Value → List eg_E → Prop} (hf : (eg_fl as).length ≤ 4) (hw : wps (eg_rm m_Part_add) (eg_run (eg_rm m_Part_add) (eg_R m_Part_add Q (h.length + 0)) Q T_Part_add 3) Q c_Part_add_0 0 0 (eg_entry 4 as) [] h) : eg_Runs n_Part_add as h Q := eg_begin2 (d := m_Part_add) rfl (by decide) y_Part_add_0 q_Part_add hf hw
/-! ===== Part_addMissed ===== -/
def c_Part_addMissed_33 : List eg_I := .inl (33, 1, .ireturn, 0, 0) :: []
def c_Part_addMissed_30 : List eg_I := .inl (30, 3, .getfield 25, 8, 4) :: c_Part_addMissed_33
def c_Part_addMissed_29 : List eg_I := .inl (29, 1, .aload 0, 0, 0) :: c_Part_addMissed_30
def c_Part_addMissed_26 : List eg_I := .inl (26, 3, .putfield 25, 8, 4) :: c_Part_addMissed_29
def c_Part_addMissed_25 : List eg_I := .inl (25, 1, .iadd, 0, 0) :: c_Part_addMissed_26
def c_Part_addMissed_24 : List eg_I := .inl (24, 1, .iconst (1), 0, 0) :: c_Part_addMissed_25
def c_Part_addMissed_21 : List eg_I := .inl (21, 3, .getfield 25, 8, 4) :: c_Part_addMissed_24
def c_Part_addMissed_20 : List eg_I := .inl (20, 1, .dup, 0, 0) :: c_Part_addMissed_21
def c_Part_addMissed_19 : List eg_I := .inl (19, 1, .aload 0, 0, 0) :: c_Part_addMissed_20
def c_Part_addMissed_18 : List eg_I := .inl (18, 1, .bastore, 0, 0) :: c_Part_addMissed_19
def c_Part_addMissed_17 : List eg_I := .inl (17, 1, .iconst (1), 0, 0) :: c_Part_addMissed_18
def c_Part_addMissed_14 : List eg_I := .inl (14, 3, .getfield 25, 8, 4) :: c_Part_addMissed_17
def c_Part_addMissed_13 : List eg_I := .inl (13, 1, .aload 0, 0, 0) :: c_Part_addMissed_14
def c_Part_addMissed_10 : List eg_I := .inl (10, 3, .getfield 21, 8, 3) :: c_Part_addMissed_13
def c_Part_addMissed_9 : List eg_I := .inl (9, 1, .aload 0, 0, 0) :: c_Part_addMissed_10
def c_Part_addMissed_6 : List eg_I := .inl (6, 3, .if_icmp .ge (23), 29, 0) :: c_Part_addMissed_9
def c_Part_addMissed_4 : List eg_I := .inl (4, 2, .iconst (16), 0, 0) :: c_Part_addMissed_6
def c_Part_addMissed_1 : List eg_I := .inl (1, 3, .getfield 25, 8, 4) :: c_Part_addMissed_4
def c_Part_addMissed_0 : List eg_I := .inl (0, 1, .aload 0, 0, 0) :: c_Part_addMissed_1
section
variable {rm : Room} {K : Nat → Nat → Nat → eg_Lo → List Value → List eg_E → Prop} {Q : Option Value → List eg_E → Prop} {kc ks : Nat} {loc : eg_Lo} {st : List Value} {h : List eg_E}
theorem s_Part_addMissed_0 {x : Nat} {l : eg_Lo} : wps rm K Q c_Part_addMissed_0 kc ks (some (.ref x) :: l) (st) h = wps rm K Q c_Part_addMissed_1 kc ks (some (.ref x) :: l) (.ref x :: st) h := gk_aload rfl
theorem s_Part_addMissed_1 {x : Nat} : wps rm K Q c_Part_addMissed_1 kc ks loc (.ref (x + 1) :: st) h = eg_gf h x 8 4 (fun v => wps rm K Q c_Part_addMissed_4 kc ks loc (v :: st) h) := gk_gf
theorem s_Part_addMissed_4  : wps rm K Q c_Part_addMissed_4 kc ks loc (st) h = wps rm K Q c_Part_addMissed_6 kc ks loc (.int (16) :: st) h := gk_ic (by decide)
theorem s_Part_addMissed_6 {x y : Int32} : wps rm K Q c_Part_addMissed_6 kc ks loc (.int y :: .int x :: st) h = ((y ≤ x → K 29 kc ks loc st h) ∧ (¬ y ≤ x → wps rm K Q c_Part_addMissed_9 kc ks loc (st) h)) := gk_if2_ge
theorem s_Part_addMissed_9 {x : Nat} {l : eg_Lo} : wps rm K Q c_Part_addMissed_9 kc ks (some (.ref x) :: l) (st) h = wps rm K Q c_Part_addMissed_10 kc ks (some (.ref x) :: l) (.ref x :: st) h := gk_aload rfl
theorem s_Part_addMissed_10 {x : Nat} : wps rm K Q c_Part_addMissed_10 kc ks loc (.ref (x + 1) :: st) h = eg_gf h x 8 3 (fun v => wps rm K Q c_Part_addMissed_13 kc ks loc (v :: st) h) := gk_gf
theorem s_Part_addMissed_13 {x : Nat} {l : eg_Lo} : wps rm K Q c_Part_addMissed_13 kc ks (some (.ref x) :: l) (st) h = wps rm K Q c_Part_addMissed_14 kc ks (some (.ref x) :: l) (.ref x :: st) h := gk_aload rfl
theorem s_Part_addMissed_14 {x : Nat} : wps rm K Q c_Part_addMissed_14 kc ks loc (.ref (x + 1) :: st) h = eg_gf h x 8 4 (fun v => wps rm K Q c_Part_addMissed_17 kc ks loc (v :: st) h) := gk_gf
theorem s_Part_addMissed_17  : wps rm K Q c_Part_addMissed_17 kc ks loc (st) h = wps rm K Q c_Part_addMissed_18 kc ks loc (.int (1) :: st) h := gk_ic (by decide)
theorem s_Part_addMissed_18 {x : Nat} {i : Int32} {v : Int32} : wps rm K Q c_Part_addMissed_18 kc ks loc (.int v :: .int i :: .ref (x + 1) :: st) h = eg_bs h x i v (fun h9 => wps rm K Q c_Part_addMissed_19 kc ks loc (st) h9) := gk_bastore
theorem s_Part_addMissed_19 {x : Nat} {l : eg_Lo} : wps rm K Q c_Part_addMissed_19 kc ks (some (.ref x) :: l) (st) h = wps rm K Q c_Part_addMissed_20 kc ks (some (.ref x) :: l) (.ref x :: st) h := gk_aload rfl
theorem s_Part_addMissed_20 {x : Nat} : wps rm K Q c_Part_addMissed_20 kc ks loc (.ref x :: st) h = wps rm K Q c_Part_addMissed_21 kc ks loc (.ref x :: .ref x :: st) h := gk_dup
theorem s_Part_addMissed_21 {x : Nat} : wps rm K Q c_Part_addMissed_21 kc ks loc (.ref (x + 1) :: st) h = eg_gf h x 8 4 (fun v => wps rm K Q c_Part_addMissed_24 kc ks loc (v :: st) h) := gk_gf
theorem s_Part_addMissed_24  : wps rm K Q c_Part_addMissed_24 kc ks loc (st) h = wps rm K Q c_Part_addMissed_25 kc ks loc (.int (1) :: st) h := gk_ic (by decide)
theorem s_Part_addMissed_25 {x y : Int32} : wps rm K Q c_Part_addMissed_25 kc ks loc (.int y :: .int x :: st) h = wps rm K Q c_Part_addMissed_26 kc ks loc (.int (x + y) :: st) h := gk_iadd
theorem s_Part_addMissed_26 {x : Nat} {v : Value} : wps rm K Q c_Part_addMissed_26 kc ks loc (v :: .ref (x + 1) :: st) h = eg_pf h x 8 4 v (fun h9 => wps rm K Q c_Part_addMissed_29 kc ks loc (st) h9) := gk_pf
theorem s_Part_addMissed_29 {x : Nat} {l : eg_Lo} : wps rm K Q c_Part_addMissed_29 kc ks (some (.ref x) :: l) (st) h = wps rm K Q c_Part_addMissed_30 kc ks (some (.ref x) :: l) (.ref x :: st) h := gk_aload rfl
theorem s_Part_addMissed_30 {x : Nat} : wps rm K Q c_Part_addMissed_30 kc ks loc (.ref (x + 1) :: st) h = eg_gf h x 8 4 (fun v => wps rm K Q c_Part_addMissed_33 kc ks loc (v :: st) h) := gk_gf
theorem s_Part_addMissed_33 {x : Int32} : wps rm K Q c_Part_addMissed_33 kc ks loc ([.int x]) h = (kc = rm.cells ∧ (0 = 1 → x = 0 ∨ x = 1) ∧ Q (some (.int x)) h) := gk_iret
def T_Part_addMissed : List (Nat × List eg_I) := [(29, c_Part_addMissed_29)]
theorem j_Part_addMissed_29 {R : Nat → Nat → Nat → eg_Lo → List Value → List eg_E → Prop} {f pc0 : Nat} : eg_run rm R Q T_Part_addMissed (f + 1) 29 kc ks loc st h = wps rm (eg_run rm R Q T_Part_addMissed f) Q c_Part_addMissed_29 kc ks loc st h := rfl
end
theorem y_Part_addMissed_0 : eg_seq m_Part_addMissed 0 c_Part_addMissed_0 = true := by decide +kernel
theorem q_Part_addMissed : ∀ q ∈ T_Part_addMissed, eg_seq m_Part_addMissed q.1 q.2 = true := by
  intro q hq
  simp only [T_Part_addMissed, List.mem_cons, List.not_mem_nil, or_false] at hq
  rcases hq with rfl
  · exact (eg_seq_drop y_Part_addMissed_0 16 : eg_seq m_Part_addMissed 29 c_Part_addMissed_29 = true)
theorem b_Part_addMissed {as : List Value} {h : List eg_E} {Q : Option Value → List eg_E → Prop} (hf : (eg_fl as).length ≤ 1) (hw : wps (eg_rm m_Part_addMissed) (eg_run (eg_rm m_Part_addMissed) (eg_R m_Part_addMissed Q (h.length + 0)) Q T_Part_addMissed 3) Q c_Part_addMissed_0 0 0 (eg_entry 1 as) [] h) : eg_Runs n_Part_addMissed as h Q := eg_begin2 (d := m_Part_addMissed) rfl (by decide) y_Part_addMissed_0 q_Part_addMissed hf hw
/-! ===== Part_empty ===== -/
def c_Part_empty_11 : List eg_I := .inl (11, 1, .ireturn, 0, 0) :: []
def c_Part_empty_10 : List eg_I := .inl (10, 1, .iload 1, 0, 0) :: c_Part_empty_11
def c_Part_empty_7 : List eg_I := .inl (7, 3, .putfield 25, 8, 4) :: c_Part_empty_10
def c_Part_empty_6 : List eg_I := .inl (6, 1, .iconst (0), 0, 0) :: c_Part_empty_7
def c_Part_empty_5 : List eg_I := .inl (5, 1, .aload 0, 0, 0) :: c_Part_empty_6
def c_Part_empty_4 : List eg_I := .inl (4, 1, .istore 1, 0, 0) :: c_Part_empty_5
def c_Part_empty_1 : List eg_I := .inl (1, 3, .getfield 25, 8, 4) :: c_Part_empty_4
def c_Part_empty_0 : List eg_I := .inl (0, 1, .aload 0, 0, 0) :: c_Part_empty_1
section
variable {rm : Room} {K : Nat → Nat → Nat → eg_Lo → List Value → List eg_E → Prop} {Q : Option Value → List eg_E → Prop} {kc ks : Nat} {loc : eg_Lo} {st : List Value} {h : List eg_E}
theorem s_Part_empty_0 {x : Nat} {l : eg_Lo} : wps rm K Q c_Part_empty_0 kc ks (some (.ref x) :: l) (st) h = wps rm K Q c_Part_empty_1 kc ks (some (.ref x) :: l) (.ref x :: st) h := gk_aload rfl
theorem s_Part_empty_1 {x : Nat} : wps rm K Q c_Part_empty_1 kc ks loc (.ref (x + 1) :: st) h = eg_gf h x 8 4 (fun v => wps rm K Q c_Part_empty_4 kc ks loc (v :: st) h) := gk_gf
theorem s_Part_empty_4 {x : Int32} : wps rm K Q c_Part_empty_4 kc ks loc (.int x :: st) h = wps rm K Q c_Part_empty_5 kc ks (eg_set1 loc 1 (.int x)) (st) h := gk_istore
theorem s_Part_empty_5 {x : Nat} {l : eg_Lo} : wps rm K Q c_Part_empty_5 kc ks (some (.ref x) :: l) (st) h = wps rm K Q c_Part_empty_6 kc ks (some (.ref x) :: l) (.ref x :: st) h := gk_aload rfl
theorem s_Part_empty_6  : wps rm K Q c_Part_empty_6 kc ks loc (st) h = wps rm K Q c_Part_empty_7 kc ks loc (.int (0) :: st) h := gk_ic (by decide)
theorem s_Part_empty_7 {x : Nat} {v : Value} : wps rm K Q c_Part_empty_7 kc ks loc (v :: .ref (x + 1) :: st) h = eg_pf h x 8 4 v (fun h9 => wps rm K Q c_Part_empty_10 kc ks loc (st) h9) := gk_pf
theorem s_Part_empty_10 {x : Int32} {l0 : Option Value} {l : eg_Lo} : wps rm K Q c_Part_empty_10 kc ks (l0 :: some (.int x) :: l) (st) h = wps rm K Q c_Part_empty_11 kc ks (l0 :: some (.int x) :: l) (.int x :: st) h := gk_iload rfl
theorem s_Part_empty_11 {x : Int32} : wps rm K Q c_Part_empty_11 kc ks loc ([.int x]) h = (kc = rm.cells ∧ (0 = 1 → x = 0 ∨ x = 1) ∧ Q (some (.int x)) h) := gk_iret
def T_Part_empty : List (Nat × List eg_I) := []
end
theorem y_Part_empty_0 : eg_seq m_Part_empty 0 c_Part_empty_0 = true := by decide +kernel
theorem q_Part_empty : ∀ q ∈ T_Part_empty, eg_seq m_Part_empty q.1 q.2 = true := by
  intro q hq
  cases hq
theorem b_Part_empty {as : List Value} {h : List eg_E} {Q : Option Value → List eg_E → Prop} (hf : (eg_fl as).length ≤ 2) (hw : wps (eg_rm m_Part_empty) (eg_run (eg_rm m_Part_empty) (eg_R m_Part_empty Q (h.length + 0)) Q T_Part_empty 2) Q c_Part_empty_0 0 0 (eg_entry 2 as) [] h) : eg_Runs n_Part_empty as h Q := eg_begin2 (d := m_Part_empty) rfl (by decide) y_Part_empty_0 q_Part_empty hf hw
/-! ===== Part_touchedCount ===== -/
def z_Part_touchedCount_4 : List eg_I := [.inl (4, 0, .nop, 0, 0)]
def c_Part_touchedCount_31 : List eg_I := .inl (31, 1, .ireturn, 0, 0) :: []
def c_Part_touchedCount_30 : List eg_I := .inl (30, 1, .iload 1, 0, 0) :: c_Part_touchedCount_31
def c_Part_touchedCount_27 : List eg_I := .inl (27, 3, .goto (-23), 4, 0) :: []
def c_Part_touchedCount_24 : List eg_I := .inl (24, 3, .iinc 2 (1), 0, 0) :: c_Part_touchedCount_27
def c_Part_touchedCount_21 : List eg_I := .inl (21, 3, .iinc 1 (1), 0, 0) :: c_Part_touchedCount_24
def c_Part_touchedCount_18 : List eg_I := .inl (18, 3, .ifCond .ne (6), 24, 0) :: c_Part_touchedCount_21
def c_Part_touchedCount_17 : List eg_I := .inl (17, 1, .baload, 0, 0) :: c_Part_touchedCount_18
def c_Part_touchedCount_16 : List eg_I := .inl (16, 1, .iload 2, 0, 0) :: c_Part_touchedCount_17
def c_Part_touchedCount_13 : List eg_I := .inl (13, 3, .getfield 21, 8, 3) :: c_Part_touchedCount_16
def c_Part_touchedCount_12 : List eg_I := .inl (12, 1, .aload 0, 0, 0) :: c_Part_touchedCount_13
def c_Part_touchedCount_9 : List eg_I := .inl (9, 3, .if_icmp .ge (21), 30, 0) :: c_Part_touchedCount_12
def c_Part_touchedCount_6 : List eg_I := .inl (6, 3, .getfield 25, 8, 4) :: c_Part_touchedCount_9
def c_Part_touchedCount_5 : List eg_I := .inl (5, 1, .aload 0, 0, 0) :: c_Part_touchedCount_6
def c_Part_touchedCount_4 : List eg_I := .inl (4, 1, .iload 2, 0, 0) :: c_Part_touchedCount_5
def c_Part_touchedCount_3 : List eg_I := .inl (3, 1, .istore 2, 0, 0) :: z_Part_touchedCount_4
def c_Part_touchedCount_2 : List eg_I := .inl (2, 1, .iconst (0), 0, 0) :: c_Part_touchedCount_3
def c_Part_touchedCount_1 : List eg_I := .inl (1, 1, .istore 1, 0, 0) :: c_Part_touchedCount_2
def c_Part_touchedCount_0 : List eg_I := .inl (0, 1, .iconst (0), 0, 0) :: c_Part_touchedCount_1
section
variable {rm : Room} {K : Nat → Nat → Nat → eg_Lo → List Value → List eg_E → Prop} {Q : Option Value → List eg_E → Prop} {kc ks : Nat} {loc : eg_Lo} {st : List Value} {h : List eg_E}
theorem s_Part_touchedCount_0  : wps rm K Q c_Part_touchedCount_0 kc ks loc (st) h = wps rm K Q c_Part_touchedCount_1 kc ks loc (.int (0) :: st) h := gk_ic (by decide)
theorem s_Part_touchedCount_1 {x : Int32} : wps rm K Q c_Part_touchedCount_1 kc ks loc (.int x :: st) h = wps rm K Q c_Part_touchedCount_2 kc ks (eg_set1 loc 1 (.int x)) (st) h := gk_istore
theorem s_Part_touchedCount_2  : wps rm K Q c_Part_touchedCount_2 kc ks loc (st) h = wps rm K Q c_Part_touchedCount_3 kc ks loc (.int (0) :: st) h := gk_ic (by decide)
theorem s_Part_touchedCount_3 {x : Int32} : wps rm K Q c_Part_touchedCount_3 kc ks loc (.int x :: st) h = wps rm K Q z_Part_touchedCount_4 kc ks (eg_set1 loc 2 (.int x)) (st) h := gk_istore
theorem s_Part_touchedCount_4 {x : Int32} {l0 l1 : Option Value} {l : eg_Lo} : wps rm K Q c_Part_touchedCount_4 kc ks (l0 :: l1 :: some (.int x) :: l) (st) h = wps rm K Q c_Part_touchedCount_5 kc ks (l0 :: l1 :: some (.int x) :: l) (.int x :: st) h := gk_iload rfl
theorem s_Part_touchedCount_5 {x : Nat} {l : eg_Lo} : wps rm K Q c_Part_touchedCount_5 kc ks (some (.ref x) :: l) (st) h = wps rm K Q c_Part_touchedCount_6 kc ks (some (.ref x) :: l) (.ref x :: st) h := gk_aload rfl
theorem s_Part_touchedCount_6 {x : Nat} : wps rm K Q c_Part_touchedCount_6 kc ks loc (.ref (x + 1) :: st) h = eg_gf h x 8 4 (fun v => wps rm K Q c_Part_touchedCount_9 kc ks loc (v :: st) h) := gk_gf
theorem s_Part_touchedCount_9 {x y : Int32} : wps rm K Q c_Part_touchedCount_9 kc ks loc (.int y :: .int x :: st) h = ((y ≤ x → K 30 kc ks loc st h) ∧ (¬ y ≤ x → wps rm K Q c_Part_touchedCount_12 kc ks loc (st) h)) := gk_if2_ge
theorem s_Part_touchedCount_12 {x : Nat} {l : eg_Lo} : wps rm K Q c_Part_touchedCount_12 kc ks (some (.ref x) :: l) (st) h = wps rm K Q c_Part_touchedCount_13 kc ks (some (.ref x) :: l) (.ref x :: st) h := gk_aload rfl
theorem s_Part_touchedCount_13 {x : Nat} : wps rm K Q c_Part_touchedCount_13 kc ks loc (.ref (x + 1) :: st) h = eg_gf h x 8 3 (fun v => wps rm K Q c_Part_touchedCount_16 kc ks loc (v :: st) h) := gk_gf
theorem s_Part_touchedCount_16 {x : Int32} {l0 l1 : Option Value} {l : eg_Lo} : wps rm K Q c_Part_touchedCount_16 kc ks (l0 :: l1 :: some (.int x) :: l) (st) h = wps rm K Q c_Part_touchedCount_17 kc ks (l0 :: l1 :: some (.int x) :: l) (.int x :: st) h := gk_iload rfl
theorem s_Part_touchedCount_17 {x : Nat} {i : Int32} : wps rm K Q c_Part_touchedCount_17 kc ks loc (.int i :: .ref (x + 1) :: st) h = eg_ba h x i (fun v => wps rm K Q c_Part_touchedCount_18 kc ks loc (.int v :: st) h) := gk_baload
theorem s_Part_touchedCount_18 {x : Int32} : wps rm K Q c_Part_touchedCount_18 kc ks loc (.int x :: st) h = ((¬ x = 0 → K 24 kc ks loc st h) ∧ (x = 0 → wps rm K Q c_Part_touchedCount_21 kc ks loc (st) h)) := gk_if1_ne
theorem s_Part_touchedCount_21 {x : Int32} {l0 : Option Value} {lz : eg_Lo} : wps rm K Q c_Part_touchedCount_21 kc ks (l0 :: some (.int x) :: lz) (st) h = wps rm K Q c_Part_touchedCount_24 kc ks (eg_set1 (l0 :: some (.int x) :: lz) 1 (.int (x + (1)))) (st) h := gk_iinc rfl (by decide)
theorem s_Part_touchedCount_24 {x : Int32} {l0 l1 : Option Value} {lz : eg_Lo} : wps rm K Q c_Part_touchedCount_24 kc ks (l0 :: l1 :: some (.int x) :: lz) (st) h = wps rm K Q c_Part_touchedCount_27 kc ks (eg_set1 (l0 :: l1 :: some (.int x) :: lz) 2 (.int (x + (1)))) (st) h := gk_iinc rfl (by decide)
theorem s_Part_touchedCount_27  : wps rm K Q c_Part_touchedCount_27 kc ks loc (st) h = K 4 kc ks loc st h := gk_goto
theorem s_Part_touchedCount_30 {x : Int32} {l0 : Option Value} {l : eg_Lo} : wps rm K Q c_Part_touchedCount_30 kc ks (l0 :: some (.int x) :: l) (st) h = wps rm K Q c_Part_touchedCount_31 kc ks (l0 :: some (.int x) :: l) (.int x :: st) h := gk_iload rfl
theorem s_Part_touchedCount_31 {x : Int32} : wps rm K Q c_Part_touchedCount_31 kc ks loc ([.int x]) h = (kc = rm.cells ∧ (0 = 1 → x = 0 ∨ x = 1) ∧ Q (some (.int x)) h) := gk_iret
theorem sz_Part_touchedCount_4 : wps rm K Q z_Part_touchedCount_4 kc ks loc st h = K 4 kc ks loc st h := gk_nop
def T_Part_touchedCount : List (Nat × List eg_I) := [(24, c_Part_touchedCount_24), (30, c_Part_touchedCount_30)]
theorem j_Part_touchedCount_24 {R : Nat → Nat → Nat → eg_Lo → List Value → List eg_E → Prop} {f pc0 : Nat} : eg_run rm R Q T_Part_touchedCount (f + 1) 24 kc ks loc st h = wps rm (eg_run rm R Q T_Part_touchedCount f) Q c_Part_touchedCount_24 kc ks loc st h := rfl
theorem j_Part_touchedCount_30 {R : Nat → Nat → Nat → eg_Lo → List Value → List eg_E → Prop} {f pc0 : Nat} : eg_run rm R Q T_Part_touchedCount (f + 1) 30 kc ks loc st h = wps rm (eg_run rm R Q T_Part_touchedCount f) Q c_Part_touchedCount_30 kc ks loc st h := rfl
theorem j_Part_touchedCount_4 {R : Nat → Nat → Nat → eg_Lo → List Value → List eg_E → Prop} {f pc0 : Nat} : eg_run rm R Q T_Part_touchedCount (f + 1) 4 kc ks loc st h = R 4 kc ks loc st h := rfl
end
theorem y_Part_touchedCount_0 : eg_seq m_Part_touchedCount 0 c_Part_touchedCount_0 = true := by decide +kernel
theorem y_Part_touchedCount_4 : eg_seq m_Part_touchedCount 4 c_Part_touchedCount_4 = true := by decide +kernel
theorem y_Part_touchedCount_30 : eg_seq m_Part_touchedCount 30 c_Part_touchedCount_30 = true := by decide +kernel
theorem q_Part_touchedCount : ∀ q ∈ T_Part_touchedCount, eg_seq m_Part_touchedCount q.1 q.2 = true := by
  intro q hq
  simp only [T_Part_touchedCount, List.mem_cons, List.not_mem_nil, or_false] at hq
  rcases hq with rfl | rfl
  · exact (eg_seq_drop y_Part_touchedCount_4 10 : eg_seq m_Part_touchedCount 24 c_Part_touchedCount_24 = true)
  · exact y_Part_touchedCount_30
theorem b_Part_touchedCount {as : List Value} {h : List eg_E} {Q : Option Value → List eg_E → Prop} (hf : (eg_fl as).length ≤ 3) (hw : wps (eg_rm m_Part_touchedCount) (eg_run (eg_rm m_Part_touchedCount) (eg_R m_Part_touchedCount Q (h.length + 0)) Q T_Part_touchedCount 4) Q c_Part_touchedCount_0 0 0 (eg_entry 3 as) [] h) : eg_Runs n_Part_touchedCount as h Q := eg_begin2 (d := m_Part_touchedCount) rfl (by decide) y_Part_touchedCount_0 q_Part_touchedCount hf hw
theorem p_Part_touchedCount_4 {Q : Option Value → List eg_E → Prop} {n0 kc ks : Nat} {loc : eg_Lo} {st : List Value} {h : List eg_E} (hw : wps (eg_rm m_Part_touchedCount) (eg_run (eg_rm m_Part_touchedCount) (eg_R m_Part_touchedCount Q n0) Q T_Part_touchedCount 4) Q c_Part_touchedCount_4 kc ks loc st h) : eg_R m_Part_touchedCount Q n0 4 kc ks loc st h := eg_go2 y_Part_touchedCount_4 q_Part_touchedCount hw
/-! ===== Sheet_init ===== -/
def c_Sheet_init_12 : List eg_I := .inl (12, 1, .return_, 0, 0) :: []
def c_Sheet_init_9 : List eg_I := .inl (9, 3, .putfield 9, 9, 0) :: c_Sheet_init_12
def c_Sheet_init_7 : List eg_I := .inl (7, 2, .newarray .int, 0, 0) :: c_Sheet_init_9
def c_Sheet_init_5 : List eg_I := .inl (5, 2, .iconst (48), 0, 0) :: c_Sheet_init_7
def c_Sheet_init_4 : List eg_I := .inl (4, 1, .aload 0, 0, 0) :: c_Sheet_init_5
def c_Sheet_init_1 : List eg_I := .inl (1, 3, .athrow, 3, 0) :: c_Sheet_init_4
def c_Sheet_init_0 : List eg_I := .inl (0, 1, .aload 0, 0, 0) :: c_Sheet_init_1
section
variable {rm : Room} {K : Nat → Nat → Nat → eg_Lo → List Value → List eg_E → Prop} {Q : Option Value → List eg_E → Prop} {kc ks : Nat} {loc : eg_Lo} {st : List Value} {h : List eg_E}
theorem s_Sheet_init_0 {x : Nat} {l : eg_Lo} : wps rm K Q c_Sheet_init_0 kc ks (some (.ref x) :: l) (st) h = wps rm K Q c_Sheet_init_1 kc ks (some (.ref x) :: l) (.ref x :: st) h := gk_aload rfl
theorem s_Sheet_init_1 {x : Nat} : wps rm K Q c_Sheet_init_1 kc ks loc (.ref (x + 1) :: st) h = (st.length ≤ 4 ∧ wps rm K Q c_Sheet_init_4 kc ks loc (st) h) := gk_oi
theorem s_Sheet_init_4 {x : Nat} {l : eg_Lo} : wps rm K Q c_Sheet_init_4 kc ks (some (.ref x) :: l) (st) h = wps rm K Q c_Sheet_init_5 kc ks (some (.ref x) :: l) (.ref x :: st) h := gk_aload rfl
theorem s_Sheet_init_5  : wps rm K Q c_Sheet_init_5 kc ks loc (st) h = wps rm K Q c_Sheet_init_7 kc ks loc (.int (48) :: st) h := gk_ic (by decide)
theorem s_Sheet_init_7 {x : Int32} : wps rm K Q c_Sheet_init_7 kc ks loc (.int x :: st) h = (¬ x < 0 ∧ x.toNatClampNeg ≤ 1000 ∧ kc + 1 ≤ rm.cells ∧ ks + x.toNatClampNeg ≤ rm.slots ∧ wps rm K Q c_Sheet_init_9 (kc + 1) (ks + x.toNatClampNeg) loc (.ref (h.length + 1) :: st) (h ++ [.inl (0, eg_zero 0 x.toNatClampNeg)])) := gk_na
theorem s_Sheet_init_9 {x : Nat} {v : Value} : wps rm K Q c_Sheet_init_9 kc ks loc (v :: .ref (x + 1) :: st) h = eg_pf h x 9 0 v (fun h9 => wps rm K Q c_Sheet_init_12 kc ks loc (st) h9) := gk_pf
theorem s_Sheet_init_12  : wps rm K Q c_Sheet_init_12 kc ks loc ([]) h = (kc = rm.cells ∧ Q none h) := gk_vret
def T_Sheet_init : List (Nat × List eg_I) := []
end
theorem y_Sheet_init_0 : eg_seq m_Sheet_init 0 c_Sheet_init_0 = true := by decide +kernel
theorem q_Sheet_init : ∀ q ∈ T_Sheet_init, eg_seq m_Sheet_init q.1 q.2 = true := by
  intro q hq
  cases hq
theorem b_Sheet_init {as : List Value} {h : List eg_E} {Q : Option Value → List eg_E → Prop} (hf : (eg_fl as).length ≤ 1) (hw : wps (eg_rm m_Sheet_init) (eg_run (eg_rm m_Sheet_init) (eg_R m_Sheet_init Q (h.length + 1)) Q T_Sheet_init 2) Q c_Sheet_init_0 0 0 (eg_entry 1 as) [] h) : eg_Runs n_Sheet_init as h Q := eg_begin2 (d := m_Sheet_init) rfl (by decide) y_Sheet_init_0 q_Sheet_init hf hw
/-! ===== Sheet_isMissing ===== -/
def c_Sheet_isMissing_12 : List eg_I := .inl (12, 1, .ireturn, 0, 1) :: []
def c_Sheet_isMissing_11 : List eg_I := .inl (11, 1, .iconst (0), 0, 0) :: c_Sheet_isMissing_12
def c_Sheet_isMissing_8 : List eg_I := .inl (8, 3, .goto (4), 12, 0) :: []
def c_Sheet_isMissing_7 : List eg_I := .inl (7, 1, .iconst (1), 0, 0) :: c_Sheet_isMissing_8
def c_Sheet_isMissing_4 : List eg_I := .inl (4, 3, .ifCond .ne (7), 11, 0) :: c_Sheet_isMissing_7
def c_Sheet_isMissing_1 : List eg_I := .inl (1, 3, .getfield 15, 9, 1) :: c_Sheet_isMissing_4
def c_Sheet_isMissing_0 : List eg_I := .inl (0, 1, .aload 0, 0, 0) :: c_Sheet_isMissing_1
section
variable {rm : Room} {K : Nat → Nat → Nat → eg_Lo → List Value → List eg_E → Prop} {Q : Option Value → List eg_E → Prop} {kc ks : Nat} {loc : eg_Lo} {st : List Value} {h : List eg_E}
theorem s_Sheet_isMissing_0 {x : Nat} {l : eg_Lo} : wps rm K Q c_Sheet_isMissing_0 kc ks (some (.ref x) :: l) (st) h = wps rm K Q c_Sheet_isMissing_1 kc ks (some (.ref x) :: l) (.ref x :: st) h := gk_aload rfl
theorem s_Sheet_isMissing_1 {x : Nat} : wps rm K Q c_Sheet_isMissing_1 kc ks loc (.ref (x + 1) :: st) h = eg_gf h x 9 1 (fun v => wps rm K Q c_Sheet_isMissing_4 kc ks loc (v :: st) h) := gk_gf
theorem s_Sheet_isMissing_4 {x : Int32} : wps rm K Q c_Sheet_isMissing_4 kc ks loc (.int x :: st) h = ((¬ x = 0 → K 11 kc ks loc st h) ∧ (x = 0 → wps rm K Q c_Sheet_isMissing_7 kc ks loc (st) h)) := gk_if1_ne
theorem s_Sheet_isMissing_7  : wps rm K Q c_Sheet_isMissing_7 kc ks loc (st) h = wps rm K Q c_Sheet_isMissing_8 kc ks loc (.int (1) :: st) h := gk_ic (by decide)
theorem s_Sheet_isMissing_8  : wps rm K Q c_Sheet_isMissing_8 kc ks loc (st) h = K 12 kc ks loc st h := gk_goto
theorem s_Sheet_isMissing_11  : wps rm K Q c_Sheet_isMissing_11 kc ks loc (st) h = wps rm K Q c_Sheet_isMissing_12 kc ks loc (.int (0) :: st) h := gk_ic (by decide)
theorem s_Sheet_isMissing_12 {x : Int32} : wps rm K Q c_Sheet_isMissing_12 kc ks loc ([.int x]) h = (kc = rm.cells ∧ ((1 : Nat) = 1 → x = 0 ∨ x = 1) ∧ Q (some (.int x)) h) := gk_iret
def T_Sheet_isMissing : List (Nat × List eg_I) := [(11, c_Sheet_isMissing_11), (12, c_Sheet_isMissing_12)]
theorem j_Sheet_isMissing_11 {R : Nat → Nat → Nat → eg_Lo → List Value → List eg_E → Prop} {f pc0 : Nat} : eg_run rm R Q T_Sheet_isMissing (f + 1) 11 kc ks loc st h = wps rm (eg_run rm R Q T_Sheet_isMissing f) Q c_Sheet_isMissing_11 kc ks loc st h := rfl
theorem j_Sheet_isMissing_12 {R : Nat → Nat → Nat → eg_Lo → List Value → List eg_E → Prop} {f pc0 : Nat} : eg_run rm R Q T_Sheet_isMissing (f + 1) 12 kc ks loc st h = wps rm (eg_run rm R Q T_Sheet_isMissing f) Q c_Sheet_isMissing_12 kc ks loc st h := rfl
end
theorem y_Sheet_isMissing_0 : eg_seq m_Sheet_isMissing 0 c_Sheet_isMissing_0 = true := by decide +kernel
theorem y_Sheet_isMissing_11 : eg_seq m_Sheet_isMissing 11 c_Sheet_isMissing_11 = true := by decide +kernel
theorem q_Sheet_isMissing : ∀ q ∈ T_Sheet_isMissing, eg_seq m_Sheet_isMissing q.1 q.2 = true := by
  intro q hq
  simp only [T_Sheet_isMissing, List.mem_cons, List.not_mem_nil, or_false] at hq
  rcases hq with rfl | rfl
  · exact y_Sheet_isMissing_11
  · exact (eg_seq_drop y_Sheet_isMissing_11 1 : eg_seq m_Sheet_isMissing 12 c_Sheet_isMissing_12 = true)
theorem b_Sheet_isMissing {as : List Value} {h : List eg_E} {Q : Option Value → List eg_E → Prop} (hf : (eg_fl as).length ≤ 1) (hw : wps (eg_rm m_Sheet_isMissing) (eg_run (eg_rm m_Sheet_isMissing) (eg_R m_Sheet_isMissing Q (h.length + 0)) Q T_Sheet_isMissing 4) Q c_Sheet_isMissing_0 0 0 (eg_entry 1 as) [] h) : eg_Runs n_Sheet_isMissing as h Q := eg_begin2 (d := m_Sheet_isMissing) rfl (by decide) y_Sheet_isMissing_0 q_Sheet_isMissing hf hw
/-! ===== Sheet_renew ===== -/
def z_Sheet_renew_20 : List eg_I := [.inl (20, 0, .nop, 0, 0)]
def c_Sheet_renew_43 : List eg_I := .inl (43, 1, .ireturn, 0, 0) :: []
def c_Sheet_renew_40 : List eg_I := .inl (40, 3, .getfield 19, 9, 2) :: c_Sheet_renew_43
def c_Sheet_renew_39 : List eg_I := .inl (39, 1, .aload 0, 0, 0) :: c_Sheet_renew_40
def c_Sheet_renew_36 : List eg_I := .inl (36, 3, .goto (-16), 20, 0) :: []
def c_Sheet_renew_33 : List eg_I := .inl (33, 3, .iinc 3 (1), 0, 0) :: c_Sheet_renew_36
def c_Sheet_renew_32 : List eg_I := .inl (32, 1, .iastore, 0, 0) :: c_Sheet_renew_33
def c_Sheet_renew_31 : List eg_I := .inl (31, 1, .iconst (0), 0, 0) :: c_Sheet_renew_32
def c_Sheet_renew_30 : List eg_I := .inl (30, 1, .iload 3, 0, 0) :: c_Sheet_renew_31
def c_Sheet_renew_27 : List eg_I := .inl (27, 3, .getfield 9, 9, 0) :: c_Sheet_renew_30
def c_Sheet_renew_26 : List eg_I := .inl (26, 1, .aload 0, 0, 0) :: c_Sheet_renew_27
def c_Sheet_renew_23 : List eg_I := .inl (23, 3, .if_icmp .ge (16), 39, 0) :: c_Sheet_renew_26
def c_Sheet_renew_21 : List eg_I := .inl (21, 2, .iconst (48), 0, 0) :: c_Sheet_renew_23
def c_Sheet_renew_20 : List eg_I := .inl (20, 1, .iload 3, 0, 0) :: c_Sheet_renew_21
def c_Sheet_renew_19 : List eg_I := .inl (19, 1, .istore 3, 0, 0) :: z_Sheet_renew_20
def c_Sheet_renew_18 : List eg_I := .inl (18, 1, .iconst (0), 0, 0) :: c_Sheet_renew_19
def c_Sheet_renew_15 : List eg_I := .inl (15, 3, .putfield 19, 9, 2) :: c_Sheet_renew_18
def c_Sheet_renew_14 : List eg_I := .inl (14, 1, .iload 2, 0, 0) :: c_Sheet_renew_15
def c_Sheet_renew_11 : List eg_I := .inl (11, 3, .goto (4), 15, 0) :: []
def c_Sheet_renew_10 : List eg_I := .inl (10, 1, .iconst (0), 0, 0) :: c_Sheet_renew_11
def c_Sheet_renew_7 : List eg_I := .inl (7, 3, .ifCond .ne (7), 14, 0) :: c_Sheet_renew_10
def c_Sheet_renew_6 : List eg_I := .inl (6, 1, .iload 1, 0, 0) :: c_Sheet_renew_7
def c_Sheet_renew_5 : List eg_I := .inl (5, 1, .aload 0, 0, 0) :: c_Sheet_renew_6
def c_Sheet_renew_2 : List eg_I := .inl (2, 3, .putfield 15, 9, 1) :: c_Sheet_renew_5
def c_Sheet_renew_1 : List eg_I := .inl (1, 1, .iload 1, 0, 0) :: c_Sheet_renew_2
def c_Sheet_renew_0 : List eg_I := .inl (0, 1, .aload 0, 0, 0) :: c_Sheet_renew_1
section
variable {rm : Room} {K : Nat → Nat → Nat → eg_Lo → List Value → List eg_E → Prop} {Q : Option Value → List eg_E → Prop} {kc ks : Nat} {loc : eg_Lo} {st : List Value} {h : List eg_E}
theorem s_Sheet_renew_0 {x : Nat} {l : eg_Lo} : wps rm K Q c_Sheet_renew_0 kc ks (some (.ref x) :: l) (st) h = wps rm K Q c_Sheet_renew_1 kc ks (some (.ref x) :: l) (.ref x :: st) h := gk_aload rfl
theorem s_Sheet_renew_1 {x : Int32} {l0 : Option Value} {l : eg_Lo} : wps rm K Q c_Sheet_renew_1 kc ks (l0 :: some (.int x) :: l) (st) h = wps rm K Q c_Sheet_renew_2 kc ks (l0 :: some (.int x) :: l) (.int x :: st) h := gk_iload rfl
theorem s_Sheet_renew_2 {x : Nat} {v : Value} : wps rm K Q c_Sheet_renew_2 kc ks loc (v :: .ref (x + 1) :: st) h = eg_pf h x 9 1 v (fun h9 => wps rm K Q c_Sheet_renew_5 kc ks loc (st) h9) := gk_pf
theorem s_Sheet_renew_5 {x : Nat} {l : eg_Lo} : wps rm K Q c_Sheet_renew_5 kc ks (some (.ref x) :: l) (st) h = wps rm K Q c_Sheet_renew_6 kc ks (some (.ref x) :: l) (.ref x :: st) h := gk_aload rfl
theorem s_Sheet_renew_6 {x : Int32} {l0 : Option Value} {l : eg_Lo} : wps rm K Q c_Sheet_renew_6 kc ks (l0 :: some (.int x) :: l) (st) h = wps rm K Q c_Sheet_renew_7 kc ks (l0 :: some (.int x) :: l) (.int x :: st) h := gk_iload rfl
theorem s_Sheet_renew_7 {x : Int32} : wps rm K Q c_Sheet_renew_7 kc ks loc (.int x :: st) h = ((¬ x = 0 → K 14 kc ks loc st h) ∧ (x = 0 → wps rm K Q c_Sheet_renew_10 kc ks loc (st) h)) := gk_if1_ne
theorem s_Sheet_renew_10  : wps rm K Q c_Sheet_renew_10 kc ks loc (st) h = wps rm K Q c_Sheet_renew_11 kc ks loc (.int (0) :: st) h := gk_ic (by decide)
theorem s_Sheet_renew_11  : wps rm K Q c_Sheet_renew_11 kc ks loc (st) h = K 15 kc ks loc st h := gk_goto
theorem s_Sheet_renew_14 {x : Int32} {l0 l1 : Option Value} {l : eg_Lo} : wps rm K Q c_Sheet_renew_14 kc ks (l0 :: l1 :: some (.int x) :: l) (st) h = wps rm K Q c_Sheet_renew_15 kc ks (l0 :: l1 :: some (.int x) :: l) (.int x :: st) h := gk_iload rfl
theorem s_Sheet_renew_15 {x : Nat} {v : Value} : wps rm K Q c_Sheet_renew_15 kc ks loc (v :: .ref (x + 1) :: st) h = eg_pf h x 9 2 v (fun h9 => wps rm K Q c_Sheet_renew_18 kc ks loc (st) h9) := gk_pf
theorem s_Sheet_renew_18  : wps rm K Q c_Sheet_renew_18 kc ks loc (st) h = wps rm K Q c_Sheet_renew_19 kc ks loc (.int (0) :: st) h := gk_ic (by decide)
theorem s_Sheet_renew_19 {x : Int32} : wps rm K Q c_Sheet_renew_19 kc ks loc (.int x :: st) h = wps rm K Q z_Sheet_renew_20 kc ks (eg_set1 loc 3 (.int x)) (st) h := gk_istore
theorem s_Sheet_renew_20 {x : Int32} {l0 l1 l2 : Option Value} {l : eg_Lo} : wps rm K Q c_Sheet_renew_20 kc ks (l0 :: l1 :: l2 :: some (.int x) :: l) (st) h = wps rm K Q c_Sheet_renew_21 kc ks (l0 :: l1 :: l2 :: some (.int x) :: l) (.int x :: st) h := gk_iload rfl
theorem s_Sheet_renew_21  : wps rm K Q c_Sheet_renew_21 kc ks loc (st) h = wps rm K Q c_Sheet_renew_23 kc ks loc (.int (48) :: st) h := gk_ic (by decide)
theorem s_Sheet_renew_23 {x y : Int32} : wps rm K Q c_Sheet_renew_23 kc ks loc (.int y :: .int x :: st) h = ((y ≤ x → K 39 kc ks loc st h) ∧ (¬ y ≤ x → wps rm K Q c_Sheet_renew_26 kc ks loc (st) h)) := gk_if2_ge
theorem s_Sheet_renew_26 {x : Nat} {l : eg_Lo} : wps rm K Q c_Sheet_renew_26 kc ks (some (.ref x) :: l) (st) h = wps rm K Q c_Sheet_renew_27 kc ks (some (.ref x) :: l) (.ref x :: st) h := gk_aload rfl
theorem s_Sheet_renew_27 {x : Nat} : wps rm K Q c_Sheet_renew_27 kc ks loc (.ref (x + 1) :: st) h = eg_gf h x 9 0 (fun v => wps rm K Q c_Sheet_renew_30 kc ks loc (v :: st) h) := gk_gf
theorem s_Sheet_renew_30 {x : Int32} {l0 l1 l2 : Option Value} {l : eg_Lo} : wps rm K Q c_Sheet_renew_30 kc ks (l0 :: l1 :: l2 :: some (.int x) :: l) (st) h = wps rm K Q c_Sheet_renew_31 kc ks (l0 :: l1 :: l2 :: some (.int x) :: l) (.int x :: st) h := gk_iload rfl
theorem s_Sheet_renew_31  : wps rm K Q c_Sheet_renew_31 kc ks loc (st) h = wps rm K Q c_Sheet_renew_32 kc ks loc (.int (0) :: st) h := gk_ic (by decide)
theorem s_Sheet_renew_32 {x : Nat} {i : Int32} {v : Int32} : wps rm K Q c_Sheet_renew_32 kc ks loc (.int v :: .int i :: .ref (x + 1) :: st) h = eg_is h x i v (fun h9 => wps rm K Q c_Sheet_renew_33 kc ks loc (st) h9) := gk_iastore
theorem s_Sheet_renew_33 {x : Int32} {l0 l1 l2 : Option Value} {lz : eg_Lo} : wps rm K Q c_Sheet_renew_33 kc ks (l0 :: l1 :: l2 :: some (.int x) :: lz) (st) h = wps rm K Q c_Sheet_renew_36 kc ks (eg_set1 (l0 :: l1 :: l2 :: some (.int x) :: lz) 3 (.int (x + (1)))) (st) h := gk_iinc rfl (by decide)
theorem s_Sheet_renew_36  : wps rm K Q c_Sheet_renew_36 kc ks loc (st) h = K 20 kc ks loc st h := gk_goto
theorem s_Sheet_renew_39 {x : Nat} {l : eg_Lo} : wps rm K Q c_Sheet_renew_39 kc ks (some (.ref x) :: l) (st) h = wps rm K Q c_Sheet_renew_40 kc ks (some (.ref x) :: l) (.ref x :: st) h := gk_aload rfl
theorem s_Sheet_renew_40 {x : Nat} : wps rm K Q c_Sheet_renew_40 kc ks loc (.ref (x + 1) :: st) h = eg_gf h x 9 2 (fun v => wps rm K Q c_Sheet_renew_43 kc ks loc (v :: st) h) := gk_gf
theorem s_Sheet_renew_43 {x : Int32} : wps rm K Q c_Sheet_renew_43 kc ks loc ([.int x]) h = (kc = rm.cells ∧ (0 = 1 → x = 0 ∨ x = 1) ∧ Q (some (.int x)) h) := gk_iret
theorem sz_Sheet_renew_20 : wps rm K Q z_Sheet_renew_20 kc ks loc st h = K 20 kc ks loc st h := gk_nop
def T_Sheet_renew : List (Nat × List eg_I) := [(14, c_Sheet_renew_14), (15, c_Sheet_renew_15), (39, c_Sheet_renew_39)]
theorem j_Sheet_renew_14 {R : Nat → Nat → Nat → eg_Lo → List Value → List eg_E → Prop} {f pc0 : Nat} : eg_run rm R Q T_Sheet_renew (f + 1) 14 kc ks loc st h = wps rm (eg_run rm R Q T_Sheet_renew f) Q c_Sheet_renew_14 kc ks loc st h := rfl
theorem j_Sheet_renew_15 {R : Nat → Nat → Nat → eg_Lo → List Value → List eg_E → Prop} {f pc0 : Nat} : eg_run rm R Q T_Sheet_renew (f + 1) 15 kc ks loc st h = wps rm (eg_run rm R Q T_Sheet_renew f) Q c_Sheet_renew_15 kc ks loc st h := rfl
theorem j_Sheet_renew_39 {R : Nat → Nat → Nat → eg_Lo → List Value → List eg_E → Prop} {f pc0 : Nat} : eg_run rm R Q T_Sheet_renew (f + 1) 39 kc ks loc st h = wps rm (eg_run rm R Q T_Sheet_renew f) Q c_Sheet_renew_39 kc ks loc st h := rfl
theorem j_Sheet_renew_20 {R : Nat → Nat → Nat → eg_Lo → List Value → List eg_E → Prop} {f pc0 : Nat} : eg_run rm R Q T_Sheet_renew (f + 1) 20 kc ks loc st h = R 20 kc ks loc st h := rfl
end
theorem y_Sheet_renew_0 : eg_seq m_Sheet_renew 0 c_Sheet_renew_0 = true := by decide +kernel
theorem y_Sheet_renew_14 : eg_seq m_Sheet_renew 14 c_Sheet_renew_14 = true := by decide +kernel
theorem y_Sheet_renew_20 : eg_seq m_Sheet_renew 20 c_Sheet_renew_20 = true := by decide +kernel
theorem y_Sheet_renew_39 : eg_seq m_Sheet_renew 39 c_Sheet_renew_39 = true := by decide +kernel
theorem q_Sheet_renew : ∀ q ∈ T_Sheet_renew, eg_seq m_Sheet_renew q.1 q.2 = true := by
  intro q hq
  simp only [T_Sheet_renew, List.mem_cons, List.not_mem_nil, or_false] at hq
  rcases hq with rfl | rfl | rfl
  · exact y_Sheet_renew_14
  · exact (eg_seq_drop y_Sheet_renew_14 1 : eg_seq m_Sheet_renew 15 c_Sheet_renew_15 = true)
  · exact y_Sheet_renew_39
theorem b_Sheet_renew {as : List Value} {h : List eg_E} {Q : Option Value → List eg_E → Prop} (hf : (eg_fl as).length ≤ 4) (hw : wps (eg_rm m_Sheet_renew) (eg_run (eg_rm m_Sheet_renew) (eg_R m_Sheet_renew Q (h.length + 0)) Q T_Sheet_renew 5) Q c_Sheet_renew_0 0 0 (eg_entry 4 as) [] h) : eg_Runs n_Sheet_renew as h Q := eg_begin2 (d := m_Sheet_renew) rfl (by decide) y_Sheet_renew_0 q_Sheet_renew hf hw
theorem p_Sheet_renew_20 {Q : Option Value → List eg_E → Prop} {n0 kc ks : Nat} {loc : eg_Lo} {st : List Value} {h : List eg_E} (hw : wps (eg_rm m_Sheet_renew) (eg_run (eg_rm m_Sheet_renew) (eg_R m_Sheet_renew Q n0) Q T_Sheet_renew 5) Q c_Sheet_renew_20 kc ks loc st h) : eg_R m_Sheet_renew Q n0 20 kc ks loc st h := eg_go2 y_Sheet_renew_20 q_Sheet_renew hw
/-! ===== Sheet_hasRun ===== -/
def c_Sheet_hasRun_31 : List eg_I := .inl (31, 1, .ireturn, 0, 1) :: []
def c_Sheet_hasRun_30 : List eg_I := .inl (30, 1, .iconst (0), 0, 0) :: c_Sheet_hasRun_31
def c_Sheet_hasRun_27 : List eg_I := .inl (27, 3, .goto (4), 31, 0) :: []
def c_Sheet_hasRun_26 : List eg_I := .inl (26, 1, .iconst (1), 0, 0) :: c_Sheet_hasRun_27
def c_Sheet_hasRun_23 : List eg_I := .inl (23, 3, .if_icmp .gt (7), 30, 0) :: c_Sheet_hasRun_26
def c_Sheet_hasRun_22 : List eg_I := .inl (22, 1, .isub, 0, 0) :: c_Sheet_hasRun_23
def c_Sheet_hasRun_21 : List eg_I := .inl (21, 1, .iload 2, 0, 0) :: c_Sheet_hasRun_22
def c_Sheet_hasRun_18 : List eg_I := .inl (18, 3, .getfield 19, 9, 2) :: c_Sheet_hasRun_21
def c_Sheet_hasRun_17 : List eg_I := .inl (17, 1, .aload 0, 0, 0) :: c_Sheet_hasRun_18
def c_Sheet_hasRun_16 : List eg_I := .inl (16, 1, .iload 1, 0, 0) :: c_Sheet_hasRun_17
def c_Sheet_hasRun_13 : List eg_I := .inl (13, 3, .if_icmp .gt (17), 30, 0) :: c_Sheet_hasRun_16
def c_Sheet_hasRun_10 : List eg_I := .inl (10, 3, .getfield 19, 9, 2) :: c_Sheet_hasRun_13
def c_Sheet_hasRun_9 : List eg_I := .inl (9, 1, .aload 0, 0, 0) :: c_Sheet_hasRun_10
def c_Sheet_hasRun_8 : List eg_I := .inl (8, 1, .iload 2, 0, 0) :: c_Sheet_hasRun_9
def c_Sheet_hasRun_5 : List eg_I := .inl (5, 3, .ifCond .lt (25), 30, 0) :: c_Sheet_hasRun_8
def c_Sheet_hasRun_4 : List eg_I := .inl (4, 1, .iload 2, 0, 0) :: c_Sheet_hasRun_5
def c_Sheet_hasRun_1 : List eg_I := .inl (1, 3, .ifCond .lt (29), 30, 0) :: c_Sheet_hasRun_4
def c_Sheet_hasRun_0 : List eg_I := .inl (0, 1, .iload 1, 0, 0) :: c_Sheet_hasRun_1
section
variable {rm : Room} {K : Nat → Nat → Nat → eg_Lo → List Value → List eg_E → Prop} {Q : Option Value → List eg_E → Prop} {kc ks : Nat} {loc : eg_Lo} {st : List Value} {h : List eg_E}
theorem s_Sheet_hasRun_0 {x : Int32} {l0 : Option Value} {l : eg_Lo} : wps rm K Q c_Sheet_hasRun_0 kc ks (l0 :: some (.int x) :: l) (st) h = wps rm K Q c_Sheet_hasRun_1 kc ks (l0 :: some (.int x) :: l) (.int x :: st) h := gk_iload rfl
theorem s_Sheet_hasRun_1 {x : Int32} : wps rm K Q c_Sheet_hasRun_1 kc ks loc (.int x :: st) h = ((x < 0 → K 30 kc ks loc st h) ∧ (¬ x < 0 → wps rm K Q c_Sheet_hasRun_4 kc ks loc (st) h)) := gk_if1_lt
theorem s_Sheet_hasRun_4 {x : Int32} {l0 l1 : Option Value} {l : eg_Lo} : wps rm K Q c_Sheet_hasRun_4 kc ks (l0 :: l1 :: some (.int x) :: l) (st) h = wps rm K Q c_Sheet_hasRun_5 kc ks (l0 :: l1 :: some (.int x) :: l) (.int x :: st) h := gk_iload rfl
theorem s_Sheet_hasRun_5 {x : Int32} : wps rm K Q c_Sheet_hasRun_5 kc ks loc (.int x :: st) h = ((x < 0 → K 30 kc ks loc st h) ∧ (¬ x < 0 → wps rm K Q c_Sheet_hasRun_8 kc ks loc (st) h)) := gk_if1_lt
theorem s_Sheet_hasRun_8 {x : Int32} {l0 l1 : Option Value} {l : eg_Lo} : wps rm K Q c_Sheet_hasRun_8 kc ks (l0 :: l1 :: some (.int x) :: l) (st) h = wps rm K Q c_Sheet_hasRun_9 kc ks (l0 :: l1 :: some (.int x) :: l) (.int x :: st) h := gk_iload rfl
theorem s_Sheet_hasRun_9 {x : Nat} {l : eg_Lo} : wps rm K Q c_Sheet_hasRun_9 kc ks (some (.ref x) :: l) (st) h = wps rm K Q c_Sheet_hasRun_10 kc ks (some (.ref x) :: l) (.ref x :: st) h := gk_aload rfl
theorem s_Sheet_hasRun_10 {x : Nat} : wps rm K Q c_Sheet_hasRun_10 kc ks loc (.ref (x + 1) :: st) h = eg_gf h x 9 2 (fun v => wps rm K Q c_Sheet_hasRun_13 kc ks loc (v :: st) h) := gk_gf
theorem s_Sheet_hasRun_13 {x y : Int32} : wps rm K Q c_Sheet_hasRun_13 kc ks loc (.int y :: .int x :: st) h = ((y < x → K 30 kc ks loc st h) ∧ (¬ y < x → wps rm K Q c_Sheet_hasRun_16 kc ks loc (st) h)) := gk_if2_gt
theorem s_Sheet_hasRun_16 {x : Int32} {l0 : Option Value} {l : eg_Lo} : wps rm K Q c_Sheet_hasRun_16 kc ks (l0 :: some (.int x) :: l) (st) h = wps rm K Q c_Sheet_hasRun_17 kc ks (l0 :: some (.int x) :: l) (.int x :: st) h := gk_iload rfl
theorem s_Sheet_hasRun_17 {x : Nat} {l : eg_Lo} : wps rm K Q c_Sheet_hasRun_17 kc ks (some (.ref x) :: l) (st) h = wps rm K Q c_Sheet_hasRun_18 kc ks (some (.ref x) :: l) (.ref x :: st) h := gk_aload rfl
theorem s_Sheet_hasRun_18 {x : Nat} : wps rm K Q c_Sheet_hasRun_18 kc ks loc (.ref (x + 1) :: st) h = eg_gf h x 9 2 (fun v => wps rm K Q c_Sheet_hasRun_21 kc ks loc (v :: st) h) := gk_gf
theorem s_Sheet_hasRun_21 {x : Int32} {l0 l1 : Option Value} {l : eg_Lo} : wps rm K Q c_Sheet_hasRun_21 kc ks (l0 :: l1 :: some (.int x) :: l) (st) h = wps rm K Q c_Sheet_hasRun_22 kc ks (l0 :: l1 :: some (.int x) :: l) (.int x :: st) h := gk_iload rfl
theorem s_Sheet_hasRun_22 {x y : Int32} : wps rm K Q c_Sheet_hasRun_22 kc ks loc (.int y :: .int x :: st) h = wps rm K Q c_Sheet_hasRun_23 kc ks loc (.int (x - y) :: st) h := gk_isub
theorem s_Sheet_hasRun_23 {x y : Int32} : wps rm K Q c_Sheet_hasRun_23 kc ks loc (.int y :: .int x :: st) h = ((y < x → K 30 kc ks loc st h) ∧ (¬ y < x → wps rm K Q c_Sheet_hasRun_26 kc ks loc (st) h)) := gk_if2_gt
theorem s_Sheet_hasRun_26  : wps rm K Q c_Sheet_hasRun_26 kc ks loc (st) h = wps rm K Q c_Sheet_hasRun_27 kc ks loc (.int (1) :: st) h := gk_ic (by decide)
theorem s_Sheet_hasRun_27  : wps rm K Q c_Sheet_hasRun_27 kc ks loc (st) h = K 31 kc ks loc st h := gk_goto
theorem s_Sheet_hasRun_30  : wps rm K Q c_Sheet_hasRun_30 kc ks loc (st) h = wps rm K Q c_Sheet_hasRun_31 kc ks loc (.int (0) :: st) h := gk_ic (by decide)
theorem s_Sheet_hasRun_31 {x : Int32} : wps rm K Q c_Sheet_hasRun_31 kc ks loc ([.int x]) h = (kc = rm.cells ∧ ((1 : Nat) = 1 → x = 0 ∨ x = 1) ∧ Q (some (.int x)) h) := gk_iret
def T_Sheet_hasRun : List (Nat × List eg_I) := [(30, c_Sheet_hasRun_30), (31, c_Sheet_hasRun_31)]
theorem j_Sheet_hasRun_30 {R : Nat → Nat → Nat → eg_Lo → List Value → List eg_E → Prop} {f pc0 : Nat} : eg_run rm R Q T_Sheet_hasRun (f + 1) 30 kc ks loc st h = wps rm (eg_run rm R Q T_Sheet_hasRun f) Q c_Sheet_hasRun_30 kc ks loc st h := rfl
theorem j_Sheet_hasRun_31 {R : Nat → Nat → Nat → eg_Lo → List Value → List eg_E → Prop} {f pc0 : Nat} : eg_run rm R Q T_Sheet_hasRun (f + 1) 31 kc ks loc st h = wps rm (eg_run rm R Q T_Sheet_hasRun f) Q c_Sheet_hasRun_31 kc ks loc st h := rfl
end
theorem y_Sheet_hasRun_0 : eg_seq m_Sheet_hasRun 0 c_Sheet_hasRun_0 = true := by decide +kernel
theorem y_Sheet_hasRun_30 : eg_seq m_Sheet_hasRun 30 c_Sheet_hasRun_30 = true := by decide +kernel
theorem q_Sheet_hasRun : ∀ q ∈ T_Sheet_hasRun, eg_seq m_Sheet_hasRun q.1 q.2 = true := by
  intro q hq
  simp only [T_Sheet_hasRun, List.mem_cons, List.not_mem_nil, or_false] at hq
  rcases hq with rfl | rfl
  · exact y_Sheet_hasRun_30
  · exact (eg_seq_drop y_Sheet_hasRun_30 1 : eg_seq m_Sheet_hasRun 31 c_Sheet_hasRun_31 = true)
theorem b_Sheet_hasRun {as : List Value} {h : List eg_E} {Q : Option Value → List eg_E → Prop} (hf : (eg_fl as).length ≤ 3) (hw : wps (eg_rm m_Sheet_hasRun) (eg_run (eg_rm m_Sheet_hasRun) (eg_R m_Sheet_hasRun Q (h.length + 0)) Q T_Sheet_hasRun 4) Q c_Sheet_hasRun_0 0 0 (eg_entry 3 as) [] h) : eg_Runs n_Sheet_hasRun as h Q := eg_begin2 (d := m_Sheet_hasRun) rfl (by decide) y_Sheet_hasRun_0 q_Sheet_hasRun hf hw
/-! ===== Sheet_wholeOfBits ===== -/
def c_Sheet_wholeOfBits_101 : List eg_I := .inl (101, 1, .ireturn, 0, 0) :: []
def c_Sheet_wholeOfBits_99 : List eg_I := .inl (99, 2, .iload 10, 0, 0) :: c_Sheet_wholeOfBits_101
def c_Sheet_wholeOfBits_96 : List eg_I := .inl (96, 3, .goto (5), 101, 0) :: []
def c_Sheet_wholeOfBits_95 : List eg_I := .inl (95, 1, .ineg, 0, 0) :: c_Sheet_wholeOfBits_96
def c_Sheet_wholeOfBits_93 : List eg_I := .inl (93, 2, .iload 10, 0, 0) :: c_Sheet_wholeOfBits_95
def c_Sheet_wholeOfBits_90 : List eg_I := .inl (90, 3, .ifCond .ge (9), 99, 0) :: c_Sheet_wholeOfBits_93
def c_Sheet_wholeOfBits_89 : List eg_I := .inl (89, 1, .lcmp, 0, 0) :: c_Sheet_wholeOfBits_90
def c_Sheet_wholeOfBits_88 : List eg_I := .inl (88, 1, .sipush (0), 0, 0) :: c_Sheet_wholeOfBits_89
def c_Sheet_wholeOfBits_87 : List eg_I := .inl (87, 1, .lload 0, 0, 0) :: c_Sheet_wholeOfBits_88
def c_Sheet_wholeOfBits_85 : List eg_I := .inl (85, 2, .istore 10, 0, 0) :: c_Sheet_wholeOfBits_87
def c_Sheet_wholeOfBits_84 : List eg_I := .inl (84, 1, .l2i, 0, 0) :: c_Sheet_wholeOfBits_85
def c_Sheet_wholeOfBits_83 : List eg_I := .inl (83, 1, .lshr, 0, 0) :: c_Sheet_wholeOfBits_84
def c_Sheet_wholeOfBits_81 : List eg_I := .inl (81, 2, .iload 7, 0, 0) :: c_Sheet_wholeOfBits_83
def c_Sheet_wholeOfBits_79 : List eg_I := .inl (79, 2, .lload 5, 0, 0) :: c_Sheet_wholeOfBits_81
def c_Sheet_wholeOfBits_78 : List eg_I := .inl (78, 1, .ireturn, 0, 0) :: []
def c_Sheet_wholeOfBits_75 : List eg_I := .inl (75, 3, .iconst (301), 0, 0) :: c_Sheet_wholeOfBits_78
def c_Sheet_wholeOfBits_72 : List eg_I := .inl (72, 3, .ifCond .eq (7), 79, 0) :: c_Sheet_wholeOfBits_75
def c_Sheet_wholeOfBits_71 : List eg_I := .inl (71, 1, .lcmp, 0, 0) :: c_Sheet_wholeOfBits_72
def c_Sheet_wholeOfBits_70 : List eg_I := .inl (70, 1, .sipush (0), 0, 0) :: c_Sheet_wholeOfBits_71
def c_Sheet_wholeOfBits_68 : List eg_I := .inl (68, 2, .lload 8, 0, 0) :: c_Sheet_wholeOfBits_70
def c_Sheet_wholeOfBits_66 : List eg_I := .inl (66, 2, .lstore 8, 0, 0) :: c_Sheet_wholeOfBits_68
def c_Sheet_wholeOfBits_65 : List eg_I := .inl (65, 1, .land, 0, 0) :: c_Sheet_wholeOfBits_66
def c_Sheet_wholeOfBits_64 : List eg_I := .inl (64, 1, .lsub, 0, 0) :: c_Sheet_wholeOfBits_65
def c_Sheet_wholeOfBits_63 : List eg_I := .inl (63, 1, .sipush (1), 0, 0) :: c_Sheet_wholeOfBits_64
def c_Sheet_wholeOfBits_62 : List eg_I := .inl (62, 1, .lshl, 0, 0) :: c_Sheet_wholeOfBits_63
def c_Sheet_wholeOfBits_60 : List eg_I := .inl (60, 2, .iload 7, 0, 0) :: c_Sheet_wholeOfBits_62
def c_Sheet_wholeOfBits_59 : List eg_I := .inl (59, 1, .sipush (1), 0, 0) :: c_Sheet_wholeOfBits_60
def c_Sheet_wholeOfBits_57 : List eg_I := .inl (57, 2, .lload 5, 0, 0) :: c_Sheet_wholeOfBits_59
def c_Sheet_wholeOfBits_55 : List eg_I := .inl (55, 2, .istore 7, 0, 0) :: c_Sheet_wholeOfBits_57
def c_Sheet_wholeOfBits_54 : List eg_I := .inl (54, 1, .isub, 0, 0) :: c_Sheet_wholeOfBits_55
def c_Sheet_wholeOfBits_53 : List eg_I := .inl (53, 1, .iload 2, 0, 0) :: c_Sheet_wholeOfBits_54
def c_Sheet_wholeOfBits_51 : List eg_I := .inl (51, 2, .iconst (52), 0, 0) :: c_Sheet_wholeOfBits_53
def c_Sheet_wholeOfBits_49 : List eg_I := .inl (49, 2, .lstore 5, 0, 0) :: c_Sheet_wholeOfBits_51
def c_Sheet_wholeOfBits_48 : List eg_I := .inl (48, 1, .lor, 0, 0) :: c_Sheet_wholeOfBits_49
def c_Sheet_wholeOfBits_47 : List eg_I := .inl (47, 1, .lload 3, 0, 0) :: c_Sheet_wholeOfBits_48
def c_Sheet_wholeOfBits_46 : List eg_I := .inl (46, 1, .land, 0, 0) :: c_Sheet_wholeOfBits_47
def c_Sheet_wholeOfBits_45 : List eg_I := .inl (45, 1, .lsub, 0, 0) :: c_Sheet_wholeOfBits_46
def c_Sheet_wholeOfBits_44 : List eg_I := .inl (44, 1, .sipush (1), 0, 0) :: c_Sheet_wholeOfBits_45
def c_Sheet_wholeOfBits_43 : List eg_I := .inl (43, 1, .lload 3, 0, 0) :: c_Sheet_wholeOfBits_44
def c_Sheet_wholeOfBits_42 : List eg_I := .inl (42, 1, .lload 0, 0, 0) :: c_Sheet_wholeOfBits_43
def c_Sheet_wholeOfBits_41 : List eg_I := .inl (41, 1, .lstore 3, 0, 0) :: c_Sheet_wholeOfBits_42
def c_Sheet_wholeOfBits_38 : List eg_I := .inl (38, 3, .sipush (4503599627370496), 24, 0) :: c_Sheet_wholeOfBits_41
def c_Sheet_wholeOfBits_37 : List eg_I := .inl (37, 1, .ireturn, 0, 0) :: []
def c_Sheet_wholeOfBits_34 : List eg_I := .inl (34, 3, .iconst (301), 0, 0) :: c_Sheet_wholeOfBits_37
def c_Sheet_wholeOfBits_31 : List eg_I := .inl (31, 3, .if_icmp .le (7), 38, 0) :: c_Sheet_wholeOfBits_34
def c_Sheet_wholeOfBits_29 : List eg_I := .inl (29, 2, .iconst (8), 0, 0) :: c_Sheet_wholeOfBits_31
def c_Sheet_wholeOfBits_28 : List eg_I := .inl (28, 1, .iload 2, 0, 0) :: c_Sheet_wholeOfBits_29
def c_Sheet_wholeOfBits_25 : List eg_I := .inl (25, 3, .ifCond .lt (9), 34, 0) :: c_Sheet_wholeOfBits_28
def c_Sheet_wholeOfBits_24 : List eg_I := .inl (24, 1, .iload 2, 0, 0) :: c_Sheet_wholeOfBits_25
def c_Sheet_wholeOfBits_23 : List eg_I := .inl (23, 1, .istore 2, 0, 0) :: c_Sheet_wholeOfBits_24
def c_Sheet_wholeOfBits_22 : List eg_I := .inl (22, 1, .isub, 0, 0) :: c_Sheet_wholeOfBits_23
def c_Sheet_wholeOfBits_19 : List eg_I := .inl (19, 3, .iconst (1023), 0, 0) :: c_Sheet_wholeOfBits_22
def c_Sheet_wholeOfBits_18 : List eg_I := .inl (18, 1, .l2i, 0, 0) :: c_Sheet_wholeOfBits_19
def c_Sheet_wholeOfBits_17 : List eg_I := .inl (17, 1, .land, 0, 0) :: c_Sheet_wholeOfBits_18
def c_Sheet_wholeOfBits_14 : List eg_I := .inl (14, 3, .sipush (2047), 22, 0) :: c_Sheet_wholeOfBits_17
def c_Sheet_wholeOfBits_13 : List eg_I := .inl (13, 1, .lushr, 0, 0) :: c_Sheet_wholeOfBits_14
def c_Sheet_wholeOfBits_11 : List eg_I := .inl (11, 2, .iconst (52), 0, 0) :: c_Sheet_wholeOfBits_13
def c_Sheet_wholeOfBits_10 : List eg_I := .inl (10, 1, .lload 0, 0, 0) :: c_Sheet_wholeOfBits_11
def c_Sheet_wholeOfBits_9 : List eg_I := .inl (9, 1, .ireturn, 0, 0) :: []
def c_Sheet_wholeOfBits_8 : List eg_I := .inl (8, 1, .iconst (0), 0, 0) :: c_Sheet_wholeOfBits_9
def c_Sheet_wholeOfBits_5 : List eg_I := .inl (5, 3, .ifCond .ne (5), 10, 0) :: c_Sheet_wholeOfBits_8
def c_Sheet_wholeOfBits_4 : List eg_I := .inl (4, 1, .lcmp, 0, 0) :: c_Sheet_wholeOfBits_5
def c_Sheet_wholeOfBits_3 : List eg_I := .inl (3, 1, .sipush (0), 0, 0) :: c_Sheet_wholeOfBits_4
def c_Sheet_wholeOfBits_2 : List eg_I := .inl (2, 1, .lshl, 0, 0) :: c_Sheet_wholeOfBits_3
def c_Sheet_wholeOfBits_1 : List eg_I := .inl (1, 1, .iconst (1), 0, 0) :: c_Sheet_wholeOfBits_2
def c_Sheet_wholeOfBits_0 : List eg_I := .inl (0, 1, .lload 0, 0, 0) :: c_Sheet_wholeOfBits_1
section
variable {rm : Room} {K : Nat → Nat → Nat → eg_Lo → List Value → List eg_E → Prop} {Q : Option Value → List eg_E → Prop} {kc ks : Nat} {loc : eg_Lo} {st : List Value} {h : List eg_E}
theorem s_Sheet_wholeOfBits_0 {x : Int64} {l : eg_Lo} : wps rm K Q c_Sheet_wholeOfBits_0 kc ks (some (.long x) :: l) (st) h = wps rm K Q c_Sheet_wholeOfBits_1 kc ks (some (.long x) :: l) (.long x :: st) h := gk_lload rfl
theorem s_Sheet_wholeOfBits_1  : wps rm K Q c_Sheet_wholeOfBits_1 kc ks loc (st) h = wps rm K Q c_Sheet_wholeOfBits_2 kc ks loc (.int (1) :: st) h := gk_ic (by decide)
theorem s_Sheet_wholeOfBits_2 {x : Int64} {y : Int32} : wps rm K Q c_Sheet_wholeOfBits_2 kc ks loc (.int y :: .long x :: st) h = wps rm K Q c_Sheet_wholeOfBits_3 kc ks loc (.long (x <<< (y.toInt64 &&& 63)) :: st) h := gk_lshl
theorem s_Sheet_wholeOfBits_3  : wps rm K Q c_Sheet_wholeOfBits_3 kc ks loc (st) h = wps rm K Q c_Sheet_wholeOfBits_4 kc ks loc (.long (0) :: st) h := gk_lc (by decide)
theorem s_Sheet_wholeOfBits_4 {x y : Int64} : wps rm K Q c_Sheet_wholeOfBits_4 kc ks loc (.long y :: .long x :: st) h = wps rm K Q c_Sheet_wholeOfBits_5 kc ks loc (.int (lg_cmp x y) :: st) h := gk_lcmp
theorem s_Sheet_wholeOfBits_5 {x : Int32} : wps rm K Q c_Sheet_wholeOfBits_5 kc ks loc (.int x :: st) h = ((¬ x = 0 → K 10 kc ks loc st h) ∧ (x = 0 → wps rm K Q c_Sheet_wholeOfBits_8 kc ks loc (st) h)) := gk_if1_ne
theorem s_Sheet_wholeOfBits_8  : wps rm K Q c_Sheet_wholeOfBits_8 kc ks loc (st) h = wps rm K Q c_Sheet_wholeOfBits_9 kc ks loc (.int (0) :: st) h := gk_ic (by decide)
theorem s_Sheet_wholeOfBits_9 {x : Int32} : wps rm K Q c_Sheet_wholeOfBits_9 kc ks loc ([.int x]) h = (kc = rm.cells ∧ (0 = 1 → x = 0 ∨ x = 1) ∧ Q (some (.int x)) h) := gk_iret
theorem s_Sheet_wholeOfBits_10 {x : Int64} {l : eg_Lo} : wps rm K Q c_Sheet_wholeOfBits_10 kc ks (some (.long x) :: l) (st) h = wps rm K Q c_Sheet_wholeOfBits_11 kc ks (some (.long x) :: l) (.long x :: st) h := gk_lload rfl
theorem s_Sheet_wholeOfBits_11  : wps rm K Q c_Sheet_wholeOfBits_11 kc ks loc (st) h = wps rm K Q c_Sheet_wholeOfBits_13 kc ks loc (.int (52) :: st) h := gk_ic (by decide)
theorem s_Sheet_wholeOfBits_13 {x : Int64} {y : Int32} : wps rm K Q c_Sheet_wholeOfBits_13 kc ks loc (.int y :: .long x :: st) h = wps rm K Q c_Sheet_wholeOfBits_14 kc ks loc (.long ((x.toUInt64 >>> (y.toInt64.toUInt64 &&& Int64.toUInt64 63)).toInt64) :: st) h := gk_lushr
theorem s_Sheet_wholeOfBits_14  : wps rm K Q c_Sheet_wholeOfBits_14 kc ks loc (st) h = wps rm K Q c_Sheet_wholeOfBits_17 kc ks loc (.long (2047) :: st) h := gk_lc (by decide)
theorem s_Sheet_wholeOfBits_17 {x y : Int64} : wps rm K Q c_Sheet_wholeOfBits_17 kc ks loc (.long y :: .long x :: st) h = wps rm K Q c_Sheet_wholeOfBits_18 kc ks loc (.long (x &&& y) :: st) h := gk_land
theorem s_Sheet_wholeOfBits_18 {x : Int64} : wps rm K Q c_Sheet_wholeOfBits_18 kc ks loc (.long x :: st) h = wps rm K Q c_Sheet_wholeOfBits_19 kc ks loc (.int (x.toInt32) :: st) h := gk_l2i
theorem s_Sheet_wholeOfBits_19  : wps rm K Q c_Sheet_wholeOfBits_19 kc ks loc (st) h = wps rm K Q c_Sheet_wholeOfBits_22 kc ks loc (.int (1023) :: st) h := gk_ic (by decide)
theorem s_Sheet_wholeOfBits_22 {x y : Int32} : wps rm K Q c_Sheet_wholeOfBits_22 kc ks loc (.int y :: .int x :: st) h = wps rm K Q c_Sheet_wholeOfBits_23 kc ks loc (.int (x - y) :: st) h := gk_isub
theorem s_Sheet_wholeOfBits_23 {x : Int32} : wps rm K Q c_Sheet_wholeOfBits_23 kc ks loc (.int x :: st) h = wps rm K Q c_Sheet_wholeOfBits_24 kc ks (eg_set1 loc 2 (.int x)) (st) h := gk_istore
theorem s_Sheet_wholeOfBits_24 {x : Int32} {l0 l1 : Option Value} {l : eg_Lo} : wps rm K Q c_Sheet_wholeOfBits_24 kc ks (l0 :: l1 :: some (.int x) :: l) (st) h = wps rm K Q c_Sheet_wholeOfBits_25 kc ks (l0 :: l1 :: some (.int x) :: l) (.int x :: st) h := gk_iload rfl
theorem s_Sheet_wholeOfBits_25 {x : Int32} : wps rm K Q c_Sheet_wholeOfBits_25 kc ks loc (.int x :: st) h = ((x < 0 → K 34 kc ks loc st h) ∧ (¬ x < 0 → wps rm K Q c_Sheet_wholeOfBits_28 kc ks loc (st) h)) := gk_if1_lt
theorem s_Sheet_wholeOfBits_28 {x : Int32} {l0 l1 : Option Value} {l : eg_Lo} : wps rm K Q c_Sheet_wholeOfBits_28 kc ks (l0 :: l1 :: some (.int x) :: l) (st) h = wps rm K Q c_Sheet_wholeOfBits_29 kc ks (l0 :: l1 :: some (.int x) :: l) (.int x :: st) h := gk_iload rfl
theorem s_Sheet_wholeOfBits_29  : wps rm K Q c_Sheet_wholeOfBits_29 kc ks loc (st) h = wps rm K Q c_Sheet_wholeOfBits_31 kc ks loc (.int (8) :: st) h := gk_ic (by decide)
theorem s_Sheet_wholeOfBits_31 {x y : Int32} : wps rm K Q c_Sheet_wholeOfBits_31 kc ks loc (.int y :: .int x :: st) h = ((x ≤ y → K 38 kc ks loc st h) ∧ (¬ x ≤ y → wps rm K Q c_Sheet_wholeOfBits_34 kc ks loc (st) h)) := gk_if2_le
theorem s_Sheet_wholeOfBits_34  : wps rm K Q c_Sheet_wholeOfBits_34 kc ks loc (st) h = wps rm K Q c_Sheet_wholeOfBits_37 kc ks loc (.int (301) :: st) h := gk_ic (by decide)
theorem s_Sheet_wholeOfBits_37 {x : Int32} : wps rm K Q c_Sheet_wholeOfBits_37 kc ks loc ([.int x]) h = (kc = rm.cells ∧ (0 = 1 → x = 0 ∨ x = 1) ∧ Q (some (.int x)) h) := gk_iret
theorem s_Sheet_wholeOfBits_38  : wps rm K Q c_Sheet_wholeOfBits_38 kc ks loc (st) h = wps rm K Q c_Sheet_wholeOfBits_41 kc ks loc (.long (4503599627370496) :: st) h := gk_lc (by decide)
theorem s_Sheet_wholeOfBits_41 {x : Int64} : wps rm K Q c_Sheet_wholeOfBits_41 kc ks loc (.long x :: st) h = wps rm K Q c_Sheet_wholeOfBits_42 kc ks (eg_set2 loc 3 (.long x)) (st) h := gk_lstore
theorem s_Sheet_wholeOfBits_42 {x : Int64} {l : eg_Lo} : wps rm K Q c_Sheet_wholeOfBits_42 kc ks (some (.long x) :: l) (st) h = wps rm K Q c_Sheet_wholeOfBits_43 kc ks (some (.long x) :: l) (.long x :: st) h := gk_lload rfl
theorem s_Sheet_wholeOfBits_43 {x : Int64} {l0 l1 l2 : Option Value} {l : eg_Lo} : wps rm K Q c_Sheet_wholeOfBits_43 kc ks (l0 :: l1 :: l2 :: some (.long x) :: l) (st) h = wps rm K Q c_Sheet_wholeOfBits_44 kc ks (l0 :: l1 :: l2 :: some (.long x) :: l) (.long x :: st) h := gk_lload rfl
theorem s_Sheet_wholeOfBits_44  : wps rm K Q c_Sheet_wholeOfBits_44 kc ks loc (st) h = wps rm K Q c_Sheet_wholeOfBits_45 kc ks loc (.long (1) :: st) h := gk_lc (by decide)
theorem s_Sheet_wholeOfBits_45 {x y : Int64} : wps rm K Q c_Sheet_wholeOfBits_45 kc ks loc (.long y :: .long x :: st) h = wps rm K Q c_Sheet_wholeOfBits_46 kc ks loc (.long (x - y) :: st) h := gk_lsub
theorem s_Sheet_wholeOfBits_46 {x y : Int64} : wps rm K Q c_Sheet_wholeOfBits_46 kc ks loc (.long y :: .long x :: st) h = wps rm K Q c_Sheet_wholeOfBits_47 kc ks loc (.long (x &&& y) :: st) h := gk_land
theorem s_Sheet_wholeOfBits_47 {x : Int64} {l0 l1 l2 : Option Value} {l : eg_Lo} : wps rm K Q c_Sheet_wholeOfBits_47 kc ks (l0 :: l1 :: l2 :: some (.long x) :: l) (st) h = wps rm K Q c_Sheet_wholeOfBits_48 kc ks (l0 :: l1 :: l2 :: some (.long x) :: l) (.long x :: st) h := gk_lload rfl
theorem s_Sheet_wholeOfBits_48 {x y : Int64} : wps rm K Q c_Sheet_wholeOfBits_48 kc ks loc (.long y :: .long x :: st) h = wps rm K Q c_Sheet_wholeOfBits_49 kc ks loc (.long (x ||| y) :: st) h := gk_lor
theorem s_Sheet_wholeOfBits_49 {x : Int64} : wps rm K Q c_Sheet_wholeOfBits_49 kc ks loc (.long x :: st) h = wps rm K Q c_Sheet_wholeOfBits_51 kc ks (eg_set2 loc 5 (.long x)) (st) h := gk_lstore
theorem s_Sheet_wholeOfBits_51  : wps rm K Q c_Sheet_wholeOfBits_51 kc ks loc (st) h = wps rm K Q c_Sheet_wholeOfBits_53 kc ks loc (.int (52) :: st) h := gk_ic (by decide)
theorem s_Sheet_wholeOfBits_53 {x : Int32} {l0 l1 : Option Value} {l : eg_Lo} : wps rm K Q c_Sheet_wholeOfBits_53 kc ks (l0 :: l1 :: some (.int x) :: l) (st) h = wps rm K Q c_Sheet_wholeOfBits_54 kc ks (l0 :: l1 :: some (.int x) :: l) (.int x :: st) h := gk_iload rfl
theorem s_Sheet_wholeOfBits_54 {x y : Int32} : wps rm K Q c_Sheet_wholeOfBits_54 kc ks loc (.int y :: .int x :: st) h = wps rm K Q c_Sheet_wholeOfBits_55 kc ks loc (.int (x - y) :: st) h := gk_isub
theorem s_Sheet_wholeOfBits_55 {x : Int32} : wps rm K Q c_Sheet_wholeOfBits_55 kc ks loc (.int x :: st) h = wps rm K Q c_Sheet_wholeOfBits_57 kc ks (eg_set1 loc 7 (.int x)) (st) h := gk_istore
theorem s_Sheet_wholeOfBits_57 {x : Int64} {l0 l1 l2 l3 l4 : Option Value} {l : eg_Lo} : wps rm K Q c_Sheet_wholeOfBits_57 kc ks (l0 :: l1 :: l2 :: l3 :: l4 :: some (.long x) :: l) (st) h = wps rm K Q c_Sheet_wholeOfBits_59 kc ks (l0 :: l1 :: l2 :: l3 :: l4 :: some (.long x) :: l) (.long x :: st) h := gk_lload rfl
theorem s_Sheet_wholeOfBits_59  : wps rm K Q c_Sheet_wholeOfBits_59 kc ks loc (st) h = wps rm K Q c_Sheet_wholeOfBits_60 kc ks loc (.long (1) :: st) h := gk_lc (by decide)
theorem s_Sheet_wholeOfBits_60 {x : Int32} {l0 l1 l2 l3 l4 l5 l6 : Option Value} {l : eg_Lo} : wps rm K Q c_Sheet_wholeOfBits_60 kc ks (l0 :: l1 :: l2 :: l3 :: l4 :: l5 :: l6 :: some (.int x) :: l) (st) h = wps rm K Q c_Sheet_wholeOfBits_62 kc ks (l0 :: l1 :: l2 :: l3 :: l4 :: l5 :: l6 :: some (.int x) :: l) (.int x :: st) h := gk_iload rfl
theorem s_Sheet_wholeOfBits_62 {x : Int64} {y : Int32} : wps rm K Q c_Sheet_wholeOfBits_62 kc ks loc (.int y :: .long x :: st) h = wps rm K Q c_Sheet_wholeOfBits_63 kc ks loc (.long (x <<< (y.toInt64 &&& 63)) :: st) h := gk_lshl
theorem s_Sheet_wholeOfBits_63  : wps rm K Q c_Sheet_wholeOfBits_63 kc ks loc (st) h = wps rm K Q c_Sheet_wholeOfBits_64 kc ks loc (.long (1) :: st) h := gk_lc (by decide)
theorem s_Sheet_wholeOfBits_64 {x y : Int64} : wps rm K Q c_Sheet_wholeOfBits_64 kc ks loc (.long y :: .long x :: st) h = wps rm K Q c_Sheet_wholeOfBits_65 kc ks loc (.long (x - y) :: st) h := gk_lsub
theorem s_Sheet_wholeOfBits_65 {x y : Int64} : wps rm K Q c_Sheet_wholeOfBits_65 kc ks loc (.long y :: .long x :: st) h = wps rm K Q c_Sheet_wholeOfBits_66 kc ks loc (.long (x &&& y) :: st) h := gk_land
theorem s_Sheet_wholeOfBits_66 {x : Int64} : wps rm K Q c_Sheet_wholeOfBits_66 kc ks loc (.long x :: st) h = wps rm K Q c_Sheet_wholeOfBits_68 kc ks (eg_set2 loc 8 (.long x)) (st) h := gk_lstore
theorem s_Sheet_wholeOfBits_68 {x : Int64} {l0 l1 l2 l3 l4 l5 l6 l7 : Option Value} {l : eg_Lo} : wps rm K Q c_Sheet_wholeOfBits_68 kc ks (l0 :: l1 :: l2 :: l3 :: l4 :: l5 :: l6 :: l7 :: some (.long x) :: l) (st) h = wps rm K Q c_Sheet_wholeOfBits_70 kc ks (l0 :: l1 :: l2 :: l3 :: l4 :: l5 :: l6 :: l7 :: some (.long x) :: l) (.long x :: st) h := gk_lload rfl
theorem s_Sheet_wholeOfBits_70  : wps rm K Q c_Sheet_wholeOfBits_70 kc ks loc (st) h = wps rm K Q c_Sheet_wholeOfBits_71 kc ks loc (.long (0) :: st) h := gk_lc (by decide)
theorem s_Sheet_wholeOfBits_71 {x y : Int64} : wps rm K Q c_Sheet_wholeOfBits_71 kc ks loc (.long y :: .long x :: st) h = wps rm K Q c_Sheet_wholeOfBits_72 kc ks loc (.int (lg_cmp x y) :: st) h := gk_lcmp
theorem s_Sheet_wholeOfBits_72 {x : Int32} : wps rm K Q c_Sheet_wholeOfBits_72 kc ks loc (.int x :: st) h = ((x = 0 → K 79 kc ks loc st h) ∧ (¬ x = 0 → wps rm K Q c_Sheet_wholeOfBits_75 kc ks loc (st) h)) := gk_if1_eq
theorem s_Sheet_wholeOfBits_75  : wps rm K Q c_Sheet_wholeOfBits_75 kc ks loc (st) h = wps rm K Q c_Sheet_wholeOfBits_78 kc ks loc (.int (301) :: st) h := gk_ic (by decide)
theorem s_Sheet_wholeOfBits_78 {x : Int32} : wps rm K Q c_Sheet_wholeOfBits_78 kc ks loc ([.int x]) h = (kc = rm.cells ∧ (0 = 1 → x = 0 ∨ x = 1) ∧ Q (some (.int x)) h) := gk_iret
theorem s_Sheet_wholeOfBits_79 {x : Int64} {l0 l1 l2 l3 l4 : Option Value} {l : eg_Lo} : wps rm K Q c_Sheet_wholeOfBits_79 kc ks (l0 :: l1 :: l2 :: l3 :: l4 :: some (.long x) :: l) (st) h = wps rm K Q c_Sheet_wholeOfBits_81 kc ks (l0 :: l1 :: l2 :: l3 :: l4 :: some (.long x) :: l) (.long x :: st) h := gk_lload rfl
theorem s_Sheet_wholeOfBits_81 {x : Int32} {l0 l1 l2 l3 l4 l5 l6 : Option Value} {l : eg_Lo} : wps rm K Q c_Sheet_wholeOfBits_81 kc ks (l0 :: l1 :: l2 :: l3 :: l4 :: l5 :: l6 :: some (.int x) :: l) (st) h = wps rm K Q c_Sheet_wholeOfBits_83 kc ks (l0 :: l1 :: l2 :: l3 :: l4 :: l5 :: l6 :: some (.int x) :: l) (.int x :: st) h := gk_iload rfl
theorem s_Sheet_wholeOfBits_83 {x : Int64} {y : Int32} : wps rm K Q c_Sheet_wholeOfBits_83 kc ks loc (.int y :: .long x :: st) h = wps rm K Q c_Sheet_wholeOfBits_84 kc ks loc (.long (x >>> (y.toInt64 &&& 63)) :: st) h := gk_lshr
theorem s_Sheet_wholeOfBits_84 {x : Int64} : wps rm K Q c_Sheet_wholeOfBits_84 kc ks loc (.long x :: st) h = wps rm K Q c_Sheet_wholeOfBits_85 kc ks loc (.int (x.toInt32) :: st) h := gk_l2i
theorem s_Sheet_wholeOfBits_85 {x : Int32} : wps rm K Q c_Sheet_wholeOfBits_85 kc ks loc (.int x :: st) h = wps rm K Q c_Sheet_wholeOfBits_87 kc ks (eg_set1 loc 10 (.int x)) (st) h := gk_istore
theorem s_Sheet_wholeOfBits_87 {x : Int64} {l : eg_Lo} : wps rm K Q c_Sheet_wholeOfBits_87 kc ks (some (.long x) :: l) (st) h = wps rm K Q c_Sheet_wholeOfBits_88 kc ks (some (.long x) :: l) (.long x :: st) h := gk_lload rfl
theorem s_Sheet_wholeOfBits_88  : wps rm K Q c_Sheet_wholeOfBits_88 kc ks loc (st) h = wps rm K Q c_Sheet_wholeOfBits_89 kc ks loc (.long (0) :: st) h := gk_lc (by decide)
theorem s_Sheet_wholeOfBits_89 {x y : Int64} : wps rm K Q c_Sheet_wholeOfBits_89 kc ks loc (.long y :: .long x :: st) h = wps rm K Q c_Sheet_wholeOfBits_90 kc ks loc (.int (lg_cmp x y) :: st) h := gk_lcmp
theorem s_Sheet_wholeOfBits_90 {x : Int32} : wps rm K Q c_Sheet_wholeOfBits_90 kc ks loc (.int x :: st) h = ((0 ≤ x → K 99 kc ks loc st h) ∧ (¬ 0 ≤ x → wps rm K Q c_Sheet_wholeOfBits_93 kc ks loc (st) h)) := gk_if1_ge
theorem s_Sheet_wholeOfBits_93 {x : Int32} {l0 l1 l2 l3 l4 l5 l6 l7 l8 l9 : Option Value} {l : eg_Lo} : wps rm K Q c_Sheet_wholeOfBits_93 kc ks (l0 :: l1 :: l2 :: l3 :: l4 :: l5 :: l6 :: l7 :: l8 :: l9 :: some (.int x) :: l) (st) h = wps rm K Q c_Sheet_wholeOfBits_95 kc ks (l0 :: l1 :: l2 :: l3 :: l4 :: l5 :: l6 :: l7 :: l8 :: l9 :: some (.int x) :: l) (.int x :: st) h := gk_iload rfl
theorem s_Sheet_wholeOfBits_95 {x : Int32} : wps rm K Q c_Sheet_wholeOfBits_95 kc ks loc (.int x :: st) h = wps rm K Q c_Sheet_wholeOfBits_96 kc ks loc (.int (-x) :: st) h := gk_ineg
theorem s_Sheet_wholeOfBits_96  : wps rm K Q c_Sheet_wholeOfBits_96 kc ks loc (st) h = K 101 kc ks loc st h := gk_goto
theorem s_Sheet_wholeOfBits_99 {x : Int32} {l0 l1 l2 l3 l4 l5 l6 l7 l8 l9 : Option Value} {l : eg_Lo} : wps rm K Q c_Sheet_wholeOfBits_99 kc ks (l0 :: l1 :: l2 :: l3 :: l4 :: l5 :: l6 :: l7 :: l8 :: l9 :: some (.int x) :: l) (st) h = wps rm K Q c_Sheet_wholeOfBits_101 kc ks (l0 :: l1 :: l2 :: l3 :: l4 :: l5 :: l6 :: l7 :: l8 :: l9 :: some (.int x) :: l) (.int x :: st) h := gk_iload rfl
theorem s_Sheet_wholeOfBits_101 {x : Int32} : wps rm K Q c_Sheet_wholeOfBits_101 kc ks loc ([.int x]) h = (kc = rm.cells ∧ (0 = 1 → x = 0 ∨ x = 1) ∧ Q (some (.int x)) h) := gk_iret
def T_Sheet_wholeOfBits : List (Nat × List eg_I) := [(10, c_Sheet_wholeOfBits_10), (34, c_Sheet_wholeOfBits_34), (38, c_Sheet_wholeOfBits_38), (79, c_Sheet_wholeOfBits_79), (99, c_Sheet_wholeOfBits_99), (101, c_Sheet_wholeOfBits_101)]
theorem j_Sheet_wholeOfBits_10 {R : Nat → Nat → Nat → eg_Lo → List Value → List eg_E → Prop} {f pc0 : Nat} : eg_run rm R Q T_Sheet_wholeOfBits (f + 1) 10 kc ks loc st h = wps rm (eg_run rm R Q T_Sheet_wholeOfBits f) Q c_Sheet_wholeOfBits_10 kc ks loc st h := rfl
theorem j_Sheet_wholeOfBits_34 {R : Nat → Nat → Nat → eg_Lo → List Value → List eg_E → Prop} {f pc0 : Nat} : eg_run rm R Q T_Sheet_wholeOfBits (f + 1) 34 kc ks loc st h = wps rm (eg_run rm R Q T_Sheet_wholeOfBits f) Q c_Sheet_wholeOfBits_34 kc ks loc st h := rfl
theorem j_Sheet_wholeOfBits_38 {R : Nat → Nat → Nat → eg_Lo → List Value → List eg_E → Prop} {f pc0 : Nat} : eg_run rm R Q T_Sheet_wholeOfBits (f + 1) 38 kc ks loc st h = wps rm (eg_run rm R Q T_Sheet_wholeOfBits f) Q c_Sheet_wholeOfBits_38 kc ks loc st h := rfl
theorem j_Sheet_wholeOfBits_79 {R : Nat → Nat → Nat → eg_Lo → List Value → List eg_E → Prop} {f pc0 : Nat} : eg_run rm R Q T_Sheet_wholeOfBits (f + 1) 79 kc ks loc st h = wps rm (eg_run rm R Q T_Sheet_wholeOfBits f) Q c_Sheet_wholeOfBits_79 kc ks loc st h := rfl
theorem j_Sheet_wholeOfBits_99 {R : Nat → Nat → Nat → eg_Lo → List Value → List eg_E → Prop} {f pc0 : Nat} : eg_run rm R Q T_Sheet_wholeOfBits (f + 1) 99 kc ks loc st h = wps rm (eg_run rm R Q T_Sheet_wholeOfBits f) Q c_Sheet_wholeOfBits_99 kc ks loc st h := rfl
theorem j_Sheet_wholeOfBits_101 {R : Nat → Nat → Nat → eg_Lo → List Value → List eg_E → Prop} {f pc0 : Nat} : eg_run rm R Q T_Sheet_wholeOfBits (f + 1) 101 kc ks loc st h = wps rm (eg_run rm R Q T_Sheet_wholeOfBits f) Q c_Sheet_wholeOfBits_101 kc ks loc st h := rfl
end
theorem y_Sheet_wholeOfBits_0 : eg_seq m_Sheet_wholeOfBits 0 c_Sheet_wholeOfBits_0 = true := by decide +kernel
theorem y_Sheet_wholeOfBits_10 : eg_seq m_Sheet_wholeOfBits 10 c_Sheet_wholeOfBits_10 = true := by decide +kernel
theorem y_Sheet_wholeOfBits_38 : eg_seq m_Sheet_wholeOfBits 38 c_Sheet_wholeOfBits_38 = true := by decide +kernel
theorem y_Sheet_wholeOfBits_79 : eg_seq m_Sheet_wholeOfBits 79 c_Sheet_wholeOfBits_79 = true := by decide +kernel
theorem y_Sheet_wholeOfBits_99 : eg_seq m_Sheet_wholeOfBits 99 c_Sheet_wholeOfBits_99 = true := by decide +kernel
theorem q_Sheet_wholeOfBits : ∀ q ∈ T_Sheet_wholeOfBits, eg_seq m_Sheet_wholeOfBits q.1 q.2 = true := by
  intro q hq
  simp only [T_Sheet_wholeOfBits, List.mem_cons, List.not_mem_nil, or_false] at hq
  rcases hq with rfl | rfl | rfl | rfl | rfl | rfl
  · exact y_Sheet_wholeOfBits_10
  · exact (eg_seq_drop y_Sheet_wholeOfBits_10 14 : eg_seq m_Sheet_wholeOfBits 34 c_Sheet_wholeOfBits_34 = true)
  · exact y_Sheet_wholeOfBits_38
  · exact y_Sheet_wholeOfBits_79
  · exact y_Sheet_wholeOfBits_99
  · exact (eg_seq_drop y_Sheet_wholeOfBits_99 1 : eg_seq m_Sheet_wholeOfBits 101 c_Sheet_wholeOfBits_101 = true)
theorem b_Sheet_wholeOfBits {as : List Value} {h : List eg_E} {Q : Option Value → List eg_E → Prop} (hf : (eg_fl as).length ≤ 11) (hw : wps (eg_rm m_Sheet_wholeOfBits) (eg_run (eg_rm m_Sheet_wholeOfBits) (eg_R m_Sheet_wholeOfBits Q (h.length + 0)) Q T_Sheet_wholeOfBits 8) Q c_Sheet_wholeOfBits_0 0 0 (eg_entry 11 as) [] h) : eg_Runs n_Sheet_wholeOfBits as h Q := eg_begin2 (d := m_Sheet_wholeOfBits) rfl (by decide) y_Sheet_wholeOfBits_0 q_Sheet_wholeOfBits hf hw
/-! ===== Tou_init ===== -/
def c_Tou_init_36 : List eg_I := .inl (36, 1, .return_, 0, 0) :: []
def c_Tou_init_33 : List eg_I := .inl (33, 3, .putfield 21, 10, 3) :: c_Tou_init_36
def c_Tou_init_31 : List eg_I := .inl (31, 2, .newarray .int, 0, 0) :: c_Tou_init_33
def c_Tou_init_29 : List eg_I := .inl (29, 2, .iconst (16), 0, 0) :: c_Tou_init_31
def c_Tou_init_28 : List eg_I := .inl (28, 1, .aload 0, 0, 0) :: c_Tou_init_29
def c_Tou_init_25 : List eg_I := .inl (25, 3, .putfield 18, 10, 2) :: c_Tou_init_28
def c_Tou_init_23 : List eg_I := .inl (23, 2, .newarray .int, 0, 0) :: c_Tou_init_25
def c_Tou_init_21 : List eg_I := .inl (21, 2, .iconst (16), 0, 0) :: c_Tou_init_23
def c_Tou_init_20 : List eg_I := .inl (20, 1, .aload 0, 0, 0) :: c_Tou_init_21
def c_Tou_init_17 : List eg_I := .inl (17, 3, .putfield 15, 10, 1) :: c_Tou_init_20
def c_Tou_init_15 : List eg_I := .inl (15, 2, .newarray .int, 0, 0) :: c_Tou_init_17
def c_Tou_init_13 : List eg_I := .inl (13, 2, .iconst (16), 0, 0) :: c_Tou_init_15
def c_Tou_init_12 : List eg_I := .inl (12, 1, .aload 0, 0, 0) :: c_Tou_init_13
def c_Tou_init_9 : List eg_I := .inl (9, 3, .putfield 9, 10, 0) :: c_Tou_init_12
def c_Tou_init_7 : List eg_I := .inl (7, 2, .newarray .int, 0, 0) :: c_Tou_init_9
def c_Tou_init_5 : List eg_I := .inl (5, 2, .iconst (16), 0, 0) :: c_Tou_init_7
def c_Tou_init_4 : List eg_I := .inl (4, 1, .aload 0, 0, 0) :: c_Tou_init_5
def c_Tou_init_1 : List eg_I := .inl (1, 3, .athrow, 3, 0) :: c_Tou_init_4
def c_Tou_init_0 : List eg_I := .inl (0, 1, .aload 0, 0, 0) :: c_Tou_init_1
section
variable {rm : Room} {K : Nat → Nat → Nat → eg_Lo → List Value → List eg_E → Prop} {Q : Option Value → List eg_E → Prop} {kc ks : Nat} {loc : eg_Lo} {st : List Value} {h : List eg_E}
theorem s_Tou_init_0 {x : Nat} {l : eg_Lo} : wps rm K Q c_Tou_init_0 kc ks (some (.ref x) :: l) (st) h = wps rm K Q c_Tou_init_1 kc ks (some (.ref x) :: l) (.ref x :: st) h := gk_aload rfl
theorem s_Tou_init_1 {x : Nat} : wps rm K Q c_Tou_init_1 kc ks loc (.ref (x + 1) :: st) h = (st.length ≤ 4 ∧ wps rm K Q c_Tou_init_4 kc ks loc (st) h) := gk_oi
theorem s_Tou_init_4 {x : Nat} {l : eg_Lo} : wps rm K Q c_Tou_init_4 kc ks (some (.ref x) :: l) (st) h = wps rm K Q c_Tou_init_5 kc ks (some (.ref x) :: l) (.ref x :: st) h := gk_aload rfl
theorem s_Tou_init_5  : wps rm K Q c_Tou_init_5 kc ks loc (st) h = wps rm K Q c_Tou_init_7 kc ks loc (.int (16) :: st) h := gk_ic (by decide)
theorem s_Tou_init_7 {x : Int32} : wps rm K Q c_Tou_init_7 kc ks loc (.int x :: st) h = (¬ x < 0 ∧ x.toNatClampNeg ≤ 1000 ∧ kc + 1 ≤ rm.cells ∧ ks + x.toNatClampNeg ≤ rm.slots ∧ wps rm K Q c_Tou_init_9 (kc + 1) (ks + x.toNatClampNeg) loc (.ref (h.length + 1) :: st) (h ++ [.inl (0, eg_zero 0 x.toNatClampNeg)])) := gk_na
theorem s_Tou_init_9 {x : Nat} {v : Value} : wps rm K Q c_Tou_init_9 kc ks loc (v :: .ref (x + 1) :: st) h = eg_pf h x 10 0 v (fun h9 => wps rm K Q c_Tou_init_12 kc ks loc (st) h9) := gk_pf
theorem s_Tou_init_12 {x : Nat} {l : eg_Lo} : wps rm K Q c_Tou_init_12 kc ks (some (.ref x) :: l) (st) h = wps rm K Q c_Tou_init_13 kc ks (some (.ref x) :: l) (.ref x :: st) h := gk_aload rfl
theorem s_Tou_init_13  : wps rm K Q c_Tou_init_13 kc ks loc (st) h = wps rm K Q c_Tou_init_15 kc ks loc (.int (16) :: st) h := gk_ic (by decide)
theorem s_Tou_init_15 {x : Int32} : wps rm K Q c_Tou_init_15 kc ks loc (.int x :: st) h = (¬ x < 0 ∧ x.toNatClampNeg ≤ 1000 ∧ kc + 1 ≤ rm.cells ∧ ks + x.toNatClampNeg ≤ rm.slots ∧ wps rm K Q c_Tou_init_17 (kc + 1) (ks + x.toNatClampNeg) loc (.ref (h.length + 1) :: st) (h ++ [.inl (0, eg_zero 0 x.toNatClampNeg)])) := gk_na
theorem s_Tou_init_17 {x : Nat} {v : Value} : wps rm K Q c_Tou_init_17 kc ks loc (v :: .ref (x + 1) :: st) h = eg_pf h x 10 1 v (fun h9 => wps rm K Q c_Tou_init_20 kc ks loc (st) h9) := gk_pf
theorem s_Tou_init_20 {x : Nat} {l : eg_Lo} : wps rm K Q c_Tou_init_20 kc ks (some (.ref x) :: l) (st) h = wps rm K Q c_Tou_init_21 kc ks (some (.ref x) :: l) (.ref x :: st) h := gk_aload rfl
theorem s_Tou_init_21  : wps rm K Q c_Tou_init_21 kc ks loc (st) h = wps rm K Q c_Tou_init_23 kc ks loc (.int (16) :: st) h := gk_ic (by decide)
theorem s_Tou_init_23 {x : Int32} : wps rm K Q c_Tou_init_23 kc ks loc (.int x :: st) h = (¬ x < 0 ∧ x.toNatClampNeg ≤ 1000 ∧ kc + 1 ≤ rm.cells ∧ ks + x.toNatClampNeg ≤ rm.slots ∧ wps rm K Q c_Tou_init_25 (kc + 1) (ks + x.toNatClampNeg) loc (.ref (h.length + 1) :: st) (h ++ [.inl (0, eg_zero 0 x.toNatClampNeg)])) := gk_na
theorem s_Tou_init_25 {x : Nat} {v : Value} : wps rm K Q c_Tou_init_25 kc ks loc (v :: .ref (x + 1) :: st) h = eg_pf h x 10 2 v (fun h9 => wps rm K Q c_Tou_init_28 kc ks loc (st) h9) := gk_pf
theorem s_Tou_init_28 {x : Nat} {l : eg_Lo} : wps rm K Q c_Tou_init_28 kc ks (some (.ref x) :: l) (st) h = wps rm K Q c_Tou_init_29 kc ks (some (.ref x) :: l) (.ref x :: st) h := gk_aload rfl
theorem s_Tou_init_29  : wps rm K Q c_Tou_init_29 kc ks loc (st) h = wps rm K Q c_Tou_init_31 kc ks loc (.int (16) :: st) h := gk_ic (by decide)
theorem s_Tou_init_31 {x : Int32} : wps rm K Q c_Tou_init_31 kc ks loc (.int x :: st) h = (¬ x < 0 ∧ x.toNatClampNeg ≤ 1000 ∧ kc + 1 ≤ rm.cells ∧ ks + x.toNatClampNeg ≤ rm.slots ∧ wps rm K Q c_Tou_init_33 (kc + 1) (ks + x.toNatClampNeg) loc (.ref (h.length + 1) :: st) (h ++ [.inl (0, eg_zero 0 x.toNatClampNeg)])) := gk_na
theorem s_Tou_init_33 {x : Nat} {v : Value} : wps rm K Q c_Tou_init_33 kc ks loc (v :: .ref (x + 1) :: st) h = eg_pf h x 10 3 v (fun h9 => wps rm K Q c_Tou_init_36 kc ks loc (st) h9) := gk_pf
theorem s_Tou_init_36  : wps rm K Q c_Tou_init_36 kc ks loc ([]) h = (kc = rm.cells ∧ Q none h) := gk_vret
def T_Tou_init : List (Nat × List eg_I) := []
end
theorem y_Tou_init_0 : eg_seq m_Tou_init 0 c_Tou_init_0 = true := by decide +kernel
theorem q_Tou_init : ∀ q ∈ T_Tou_init, eg_seq m_Tou_init q.1 q.2 = true := by
  intro q hq
  cases hq
theorem b_Tou_init {as : List Value} {h : List eg_E} {Q : Option Value → List eg_E → Prop} (hf : (eg_fl as).length ≤ 1) (hw : wps (eg_rm m_Tou_init) (eg_run (eg_rm m_Tou_init) (eg_R m_Tou_init Q (h.length + 4)) Q T_Tou_init 2) Q c_Tou_init_0 0 0 (eg_entry 1 as) [] h) : eg_Runs n_Tou_init as h Q := eg_begin2 (d := m_Tou_init) rfl (by decide) y_Tou_init_0 q_Tou_init hf hw
/-! ===== Tou_gather ===== -/
def z_Tou_gather_7 : List eg_I := [.inl (7, 0, .nop, 0, 0)]
def c_Tou_gather_95 : List eg_I := .inl (95, 1, .return_, 0, 0) :: []
def c_Tou_gather_92 : List eg_I := .inl (92, 3, .goto (-85), 7, 0) :: []
def c_Tou_gather_89 : List eg_I := .inl (89, 3, .iinc 2 (1), 0, 0) :: c_Tou_gather_92
def c_Tou_gather_86 : List eg_I := .inl (86, 3, .putfield 24, 10, 4) :: c_Tou_gather_89
def c_Tou_gather_85 : List eg_I := .inl (85, 1, .iadd, 0, 0) :: c_Tou_gather_86
def c_Tou_gather_84 : List eg_I := .inl (84, 1, .iconst (1), 0, 0) :: c_Tou_gather_85
def c_Tou_gather_81 : List eg_I := .inl (81, 3, .getfield 24, 10, 4) :: c_Tou_gather_84
def c_Tou_gather_80 : List eg_I := .inl (80, 1, .dup, 0, 0) :: c_Tou_gather_81
def c_Tou_gather_79 : List eg_I := .inl (79, 1, .aload 0, 0, 0) :: c_Tou_gather_80
def c_Tou_gather_78 : List eg_I := .inl (78, 1, .iastore, 0, 0) :: c_Tou_gather_79
def c_Tou_gather_77 : List eg_I := .inl (77, 1, .iload 2, 0, 0) :: c_Tou_gather_78
def c_Tou_gather_74 : List eg_I := .inl (74, 3, .getfield 24, 10, 4) :: c_Tou_gather_77
def c_Tou_gather_73 : List eg_I := .inl (73, 1, .aload 0, 0, 0) :: c_Tou_gather_74
def c_Tou_gather_70 : List eg_I := .inl (70, 3, .getfield 21, 10, 3) :: c_Tou_gather_73
def c_Tou_gather_69 : List eg_I := .inl (69, 1, .aload 0, 0, 0) :: c_Tou_gather_70
def c_Tou_gather_68 : List eg_I := .inl (68, 1, .iastore, 0, 0) :: c_Tou_gather_69
def c_Tou_gather_67 : List eg_I := .inl (67, 1, .iaload, 0, 0) :: c_Tou_gather_68
def c_Tou_gather_66 : List eg_I := .inl (66, 1, .iload 2, 0, 0) :: c_Tou_gather_67
def c_Tou_gather_63 : List eg_I := .inl (63, 3, .getfield 37, 8, 2) :: c_Tou_gather_66
def c_Tou_gather_62 : List eg_I := .inl (62, 1, .aload 1, 0, 0) :: c_Tou_gather_63
def c_Tou_gather_59 : List eg_I := .inl (59, 3, .getfield 24, 10, 4) :: c_Tou_gather_62
def c_Tou_gather_58 : List eg_I := .inl (58, 1, .aload 0, 0, 0) :: c_Tou_gather_59
def c_Tou_gather_55 : List eg_I := .inl (55, 3, .getfield 18, 10, 2) :: c_Tou_gather_58
def c_Tou_gather_54 : List eg_I := .inl (54, 1, .aload 0, 0, 0) :: c_Tou_gather_55
def c_Tou_gather_53 : List eg_I := .inl (53, 1, .iastore, 0, 0) :: c_Tou_gather_54
def c_Tou_gather_52 : List eg_I := .inl (52, 1, .iaload, 0, 0) :: c_Tou_gather_53
def c_Tou_gather_51 : List eg_I := .inl (51, 1, .iload 2, 0, 0) :: c_Tou_gather_52
def c_Tou_gather_48 : List eg_I := .inl (48, 3, .getfield 36, 8, 1) :: c_Tou_gather_51
def c_Tou_gather_47 : List eg_I := .inl (47, 1, .aload 1, 0, 0) :: c_Tou_gather_48
def c_Tou_gather_44 : List eg_I := .inl (44, 3, .getfield 24, 10, 4) :: c_Tou_gather_47
def c_Tou_gather_43 : List eg_I := .inl (43, 1, .aload 0, 0, 0) :: c_Tou_gather_44
def c_Tou_gather_40 : List eg_I := .inl (40, 3, .getfield 15, 10, 1) :: c_Tou_gather_43
def c_Tou_gather_39 : List eg_I := .inl (39, 1, .aload 0, 0, 0) :: c_Tou_gather_40
def c_Tou_gather_38 : List eg_I := .inl (38, 1, .iastore, 0, 0) :: c_Tou_gather_39
def c_Tou_gather_37 : List eg_I := .inl (37, 1, .iaload, 0, 0) :: c_Tou_gather_38
def c_Tou_gather_36 : List eg_I := .inl (36, 1, .iload 2, 0, 0) :: c_Tou_gather_37
def c_Tou_gather_33 : List eg_I := .inl (33, 3, .getfield 35, 8, 0) :: c_Tou_gather_36
def c_Tou_gather_32 : List eg_I := .inl (32, 1, .aload 1, 0, 0) :: c_Tou_gather_33
def c_Tou_gather_29 : List eg_I := .inl (29, 3, .getfield 24, 10, 4) :: c_Tou_gather_32
def c_Tou_gather_28 : List eg_I := .inl (28, 1, .aload 0, 0, 0) :: c_Tou_gather_29
def c_Tou_gather_25 : List eg_I := .inl (25, 3, .getfield 9, 10, 0) :: c_Tou_gather_28
def c_Tou_gather_24 : List eg_I := .inl (24, 1, .aload 0, 0, 0) :: c_Tou_gather_25
def c_Tou_gather_21 : List eg_I := .inl (21, 3, .ifCond .ne (68), 89, 0) :: c_Tou_gather_24
def c_Tou_gather_20 : List eg_I := .inl (20, 1, .baload, 0, 0) :: c_Tou_gather_21
def c_Tou_gather_19 : List eg_I := .inl (19, 1, .iload 2, 0, 0) :: c_Tou_gather_20
def c_Tou_gather_16 : List eg_I := .inl (16, 3, .getfield 31, 8, 3) :: c_Tou_gather_19
def c_Tou_gather_15 : List eg_I := .inl (15, 1, .aload 1, 0, 0) :: c_Tou_gather_16
def c_Tou_gather_12 : List eg_I := .inl (12, 3, .if_icmp .ge (83), 95, 0) :: c_Tou_gather_15
def c_Tou_gather_9 : List eg_I := .inl (9, 3, .getfield 28, 8, 4) :: c_Tou_gather_12
def c_Tou_gather_8 : List eg_I := .inl (8, 1, .aload 1, 0, 0) :: c_Tou_gather_9
def c_Tou_gather_7 : List eg_I := .inl (7, 1, .iload 2, 0, 0) :: c_Tou_gather_8
def c_Tou_gather_6 : List eg_I := .inl (6, 1, .istore 2, 0, 0) :: z_Tou_gather_7
def c_Tou_gather_5 : List eg_I := .inl (5, 1, .iconst (0), 0, 0) :: c_Tou_gather_6
def c_Tou_gather_2 : List eg_I := .inl (2, 3, .putfield 24, 10, 4) :: c_Tou_gather_5
def c_Tou_gather_1 : List eg_I := .inl (1, 1, .iconst (0), 0, 0) :: c_Tou_gather_2
def c_Tou_gather_0 : List eg_I := .inl (0, 1, .aload 0, 0, 0) :: c_Tou_gather_1
section
variable {rm : Room} {K : Nat → Nat → Nat → eg_Lo → List Value → List eg_E → Prop} {Q : Option Value → List eg_E → Prop} {kc ks : Nat} {loc : eg_Lo} {st : List Value} {h : List eg_E}
theorem s_Tou_gather_0 {x : Nat} {l : eg_Lo} : wps rm K Q c_Tou_gather_0 kc ks (some (.ref x) :: l) (st) h = wps rm K Q c_Tou_gather_1 kc ks (some (.ref x) :: l) (.ref x :: st) h := gk_aload rfl
theorem s_Tou_gather_1  : wps rm K Q c_Tou_gather_1 kc ks loc (st) h = wps rm K Q c_Tou_gather_2 kc ks loc (.int (0) :: st) h := gk_ic (by decide)
theorem s_Tou_gather_2 {x : Nat} {v : Value} : wps rm K Q c_Tou_gather_2 kc ks loc (v :: .ref (x + 1) :: st) h = eg_pf h x 10 4 v (fun h9 => wps rm K Q c_Tou_gather_5 kc ks loc (st) h9) := gk_pf
theorem s_Tou_gather_5  : wps rm K Q c_Tou_gather_5 kc ks loc (st) h = wps rm K Q c_Tou_gather_6 kc ks loc (.int (0) :: st) h := gk_ic (by decide)
theorem s_Tou_gather_6 {x : Int32} : wps rm K Q c_Tou_gather_6 kc ks loc (.int x :: st) h = wps rm K Q z_Tou_gather_7 kc ks (eg_set1 loc 2 (.int x)) (st) h := gk_istore
theorem s_Tou_gather_7 {x : Int32} {l0 l1 : Option Value} {l : eg_Lo} : wps rm K Q c_Tou_gather_7 kc ks (l0 :: l1 :: some (.int x) :: l) (st) h = wps rm K Q c_Tou_gather_8 kc ks (l0 :: l1 :: some (.int x) :: l) (.int x :: st) h := gk_iload rfl
theorem s_Tou_gather_8 {x : Nat} {l0 : Option Value} {l : eg_Lo} : wps rm K Q c_Tou_gather_8 kc ks (l0 :: some (.ref x) :: l) (st) h = wps rm K Q c_Tou_gather_9 kc ks (l0 :: some (.ref x) :: l) (.ref x :: st) h := gk_aload rfl
theorem s_Tou_gather_9 {x : Nat} : wps rm K Q c_Tou_gather_9 kc ks loc (.ref (x + 1) :: st) h = eg_gf h x 8 4 (fun v => wps rm K Q c_Tou_gather_12 kc ks loc (v :: st) h) := gk_gf
theorem s_Tou_gather_12 {x y : Int32} : wps rm K Q c_Tou_gather_12 kc ks loc (.int y :: .int x :: st) h = ((y ≤ x → K 95 kc ks loc st h) ∧ (¬ y ≤ x → wps rm K Q c_Tou_gather_15 kc ks loc (st) h)) := gk_if2_ge
theorem s_Tou_gather_15 {x : Nat} {l0 : Option Value} {l : eg_Lo} : wps rm K Q c_Tou_gather_15 kc ks (l0 :: some (.ref x) :: l) (st) h = wps rm K Q c_Tou_gather_16 kc ks (l0 :: some (.ref x) :: l) (.ref x :: st) h := gk_aload rfl
theorem s_Tou_gather_16 {x : Nat} : wps rm K Q c_Tou_gather_16 kc ks loc (.ref (x + 1) :: st) h = eg_gf h x 8 3 (fun v => wps rm K Q c_Tou_gather_19 kc ks loc (v :: st) h) := gk_gf
theorem s_Tou_gather_19 {x : Int32} {l0 l1 : Option Value} {l : eg_Lo} : wps rm K Q c_Tou_gather_19 kc ks (l0 :: l1 :: some (.int x) :: l) (st) h = wps rm K Q c_Tou_gather_20 kc ks (l0 :: l1 :: some (.int x) :: l) (.int x :: st) h := gk_iload rfl
theorem s_Tou_gather_20 {x : Nat} {i : Int32} : wps rm K Q c_Tou_gather_20 kc ks loc (.int i :: .ref (x + 1) :: st) h = eg_ba h x i (fun v => wps rm K Q c_Tou_gather_21 kc ks loc (.int v :: st) h) := gk_baload
theorem s_Tou_gather_21 {x : Int32} : wps rm K Q c_Tou_gather_21 kc ks loc (.int x :: st) h = ((¬ x = 0 → K 89 kc ks loc st h) ∧ (x = 0 → wps rm K Q c_Tou_gather_24 kc ks loc (st) h)) := gk_if1_ne
theorem s_Tou_gather_24 {x : Nat} {l : eg_Lo} : wps rm K Q c_Tou_gather_24 kc ks (some (.ref x) :: l) (st) h = wps rm K Q c_Tou_gather_25 kc ks (some (.ref x) :: l) (.ref x :: st) h := gk_aload rfl
theorem s_Tou_gather_25 {x : Nat} : wps rm K Q c_Tou_gather_25 kc ks loc (.ref (x + 1) :: st) h = eg_gf h x 10 0 (fun v => wps rm K Q c_Tou_gather_28 kc ks loc (v :: st) h) := gk_gf
theorem s_Tou_gather_28 {x : Nat} {l : eg_Lo} : wps rm K Q c_Tou_gather_28 kc ks (some (.ref x) :: l) (st) h = wps rm K Q c_Tou_gather_29 kc ks (some (.ref x) :: l) (.ref x :: st) h := gk_aload rfl
theorem s_Tou_gather_29 {x : Nat} : wps rm K Q c_Tou_gather_29 kc ks loc (.ref (x + 1) :: st) h = eg_gf h x 10 4 (fun v => wps rm K Q c_Tou_gather_32 kc ks loc (v :: st) h) := gk_gf
theorem s_Tou_gather_32 {x : Nat} {l0 : Option Value} {l : eg_Lo} : wps rm K Q c_Tou_gather_32 kc ks (l0 :: some (.ref x) :: l) (st) h = wps rm K Q c_Tou_gather_33 kc ks (l0 :: some (.ref x) :: l) (.ref x :: st) h := gk_aload rfl
theorem s_Tou_gather_33 {x : Nat} : wps rm K Q c_Tou_gather_33 kc ks loc (.ref (x + 1) :: st) h = eg_gf h x 8 0 (fun v => wps rm K Q c_Tou_gather_36 kc ks loc (v :: st) h) := gk_gf
theorem s_Tou_gather_36 {x : Int32} {l0 l1 : Option Value} {l : eg_Lo} : wps rm K Q c_Tou_gather_36 kc ks (l0 :: l1 :: some (.int x) :: l) (st) h = wps rm K Q c_Tou_gather_37 kc ks (l0 :: l1 :: some (.int x) :: l) (.int x :: st) h := gk_iload rfl
theorem s_Tou_gather_37 {x : Nat} {i : Int32} : wps rm K Q c_Tou_gather_37 kc ks loc (.int i :: .ref (x + 1) :: st) h = eg_ia h x i (fun v => wps rm K Q c_Tou_gather_38 kc ks loc (.int v :: st) h) := gk_iaload
theorem s_Tou_gather_38 {x : Nat} {i : Int32} {v : Int32} : wps rm K Q c_Tou_gather_38 kc ks loc (.int v :: .int i :: .ref (x + 1) :: st) h = eg_is h x i v (fun h9 => wps rm K Q c_Tou_gather_39 kc ks loc (st) h9) := gk_iastore
theorem s_Tou_gather_39 {x : Nat} {l : eg_Lo} : wps rm K Q c_Tou_gather_39 kc ks (some (.ref x) :: l) (st) h = wps rm K Q c_Tou_gather_40 kc ks (some (.ref x) :: l) (.ref x :: st) h := gk_aload rfl
theorem s_Tou_gather_40 {x : Nat} : wps rm K Q c_Tou_gather_40 kc ks loc (.ref (x + 1) :: st) h = eg_gf h x 10 1 (fun v => wps rm K Q c_Tou_gather_43 kc ks loc (v :: st) h) := gk_gf
theorem s_Tou_gather_43 {x : Nat} {l : eg_Lo} : wps rm K Q c_Tou_gather_43 kc ks (some (.ref x) :: l) (st) h = wps rm K Q c_Tou_gather_44 kc ks (some (.ref x) :: l) (.ref x :: st) h := gk_aload rfl
theorem s_Tou_gather_44 {x : Nat} : wps rm K Q c_Tou_gather_44 kc ks loc (.ref (x + 1) :: st) h = eg_gf h x 10 4 (fun v => wps rm K Q c_Tou_gather_47 kc ks loc (v :: st) h) := gk_gf
theorem s_Tou_gather_47 {x : Nat} {l0 : Option Value} {l : eg_Lo} : wps rm K Q c_Tou_gather_47 kc ks (l0 :: some (.ref x) :: l) (st) h = wps rm K Q c_Tou_gather_48 kc ks (l0 :: some (.ref x) :: l) (.ref x :: st) h := gk_aload rfl
theorem s_Tou_gather_48 {x : Nat} : wps rm K Q c_Tou_gather_48 kc ks loc (.ref (x + 1) :: st) h = eg_gf h x 8 1 (fun v => wps rm K Q c_Tou_gather_51 kc ks loc (v :: st) h) := gk_gf
theorem s_Tou_gather_51 {x : Int32} {l0 l1 : Option Value} {l : eg_Lo} : wps rm K Q c_Tou_gather_51 kc ks (l0 :: l1 :: some (.int x) :: l) (st) h = wps rm K Q c_Tou_gather_52 kc ks (l0 :: l1 :: some (.int x) :: l) (.int x :: st) h := gk_iload rfl
theorem s_Tou_gather_52 {x : Nat} {i : Int32} : wps rm K Q c_Tou_gather_52 kc ks loc (.int i :: .ref (x + 1) :: st) h = eg_ia h x i (fun v => wps rm K Q c_Tou_gather_53 kc ks loc (.int v :: st) h) := gk_iaload
theorem s_Tou_gather_53 {x : Nat} {i : Int32} {v : Int32} : wps rm K Q c_Tou_gather_53 kc ks loc (.int v :: .int i :: .ref (x + 1) :: st) h = eg_is h x i v (fun h9 => wps rm K Q c_Tou_gather_54 kc ks loc (st) h9) := gk_iastore
theorem s_Tou_gather_54 {x : Nat} {l : eg_Lo} : wps rm K Q c_Tou_gather_54 kc ks (some (.ref x) :: l) (st) h = wps rm K Q c_Tou_gather_55 kc ks (some (.ref x) :: l) (.ref x :: st) h := gk_aload rfl
theorem s_Tou_gather_55 {x : Nat} : wps rm K Q c_Tou_gather_55 kc ks loc (.ref (x + 1) :: st) h = eg_gf h x 10 2 (fun v => wps rm K Q c_Tou_gather_58 kc ks loc (v :: st) h) := gk_gf
theorem s_Tou_gather_58 {x : Nat} {l : eg_Lo} : wps rm K Q c_Tou_gather_58 kc ks (some (.ref x) :: l) (st) h = wps rm K Q c_Tou_gather_59 kc ks (some (.ref x) :: l) (.ref x :: st) h := gk_aload rfl
theorem s_Tou_gather_59 {x : Nat} : wps rm K Q c_Tou_gather_59 kc ks loc (.ref (x + 1) :: st) h = eg_gf h x 10 4 (fun v => wps rm K Q c_Tou_gather_62 kc ks loc (v :: st) h) := gk_gf
theorem s_Tou_gather_62 {x : Nat} {l0 : Option Value} {l : eg_Lo} : wps rm K Q c_Tou_gather_62 kc ks (l0 :: some (.ref x) :: l) (st) h = wps rm K Q c_Tou_gather_63 kc ks (l0 :: some (.ref x) :: l) (.ref x :: st) h := gk_aload rfl
theorem s_Tou_gather_63 {x : Nat} : wps rm K Q c_Tou_gather_63 kc ks loc (.ref (x + 1) :: st) h = eg_gf h x 8 2 (fun v => wps rm K Q c_Tou_gather_66 kc ks loc (v :: st) h) := gk_gf
theorem s_Tou_gather_66 {x : Int32} {l0 l1 : Option Value} {l : eg_Lo} : wps rm K Q c_Tou_gather_66 kc ks (l0 :: l1 :: some (.int x) :: l) (st) h = wps rm K Q c_Tou_gather_67 kc ks (l0 :: l1 :: some (.int x) :: l) (.int x :: st) h := gk_iload rfl
theorem s_Tou_gather_67 {x : Nat} {i : Int32} : wps rm K Q c_Tou_gather_67 kc ks loc (.int i :: .ref (x + 1) :: st) h = eg_ia h x i (fun v => wps rm K Q c_Tou_gather_68 kc ks loc (.int v :: st) h) := gk_iaload
theorem s_Tou_gather_68 {x : Nat} {i : Int32} {v : Int32} : wps rm K Q c_Tou_gather_68 kc ks loc (.int v :: .int i :: .ref (x + 1) :: st) h = eg_is h x i v (fun h9 => wps rm K Q c_Tou_gather_69 kc ks loc (st) h9) := gk_iastore
theorem s_Tou_gather_69 {x : Nat} {l : eg_Lo} : wps rm K Q c_Tou_gather_69 kc ks (some (.ref x) :: l) (st) h = wps rm K Q c_Tou_gather_70 kc ks (some (.ref x) :: l) (.ref x :: st) h := gk_aload rfl
theorem s_Tou_gather_70 {x : Nat} : wps rm K Q c_Tou_gather_70 kc ks loc (.ref (x + 1) :: st) h = eg_gf h x 10 3 (fun v => wps rm K Q c_Tou_gather_73 kc ks loc (v :: st) h) := gk_gf
theorem s_Tou_gather_73 {x : Nat} {l : eg_Lo} : wps rm K Q c_Tou_gather_73 kc ks (some (.ref x) :: l) (st) h = wps rm K Q c_Tou_gather_74 kc ks (some (.ref x) :: l) (.ref x :: st) h := gk_aload rfl
theorem s_Tou_gather_74 {x : Nat} : wps rm K Q c_Tou_gather_74 kc ks loc (.ref (x + 1) :: st) h = eg_gf h x 10 4 (fun v => wps rm K Q c_Tou_gather_77 kc ks loc (v :: st) h) := gk_gf
theorem s_Tou_gather_77 {x : Int32} {l0 l1 : Option Value} {l : eg_Lo} : wps rm K Q c_Tou_gather_77 kc ks (l0 :: l1 :: some (.int x) :: l) (st) h = wps rm K Q c_Tou_gather_78 kc ks (l0 :: l1 :: some (.int x) :: l) (.int x :: st) h := gk_iload rfl
theorem s_Tou_gather_78 {x : Nat} {i : Int32} {v : Int32} : wps rm K Q c_Tou_gather_78 kc ks loc (.int v :: .int i :: .ref (x + 1) :: st) h = eg_is h x i v (fun h9 => wps rm K Q c_Tou_gather_79 kc ks loc (st) h9) := gk_iastore
theorem s_Tou_gather_79 {x : Nat} {l : eg_Lo} : wps rm K Q c_Tou_gather_79 kc ks (some (.ref x) :: l) (st) h = wps rm K Q c_Tou_gather_80 kc ks (some (.ref x) :: l) (.ref x :: st) h := gk_aload rfl
theorem s_Tou_gather_80 {x : Nat} : wps rm K Q c_Tou_gather_80 kc ks loc (.ref x :: st) h = wps rm K Q c_Tou_gather_81 kc ks loc (.ref x :: .ref x :: st) h := gk_dup
theorem s_Tou_gather_81 {x : Nat} : wps rm K Q c_Tou_gather_81 kc ks loc (.ref (x + 1) :: st) h = eg_gf h x 10 4 (fun v => wps rm K Q c_Tou_gather_84 kc ks loc (v :: st) h) := gk_gf
theorem s_Tou_gather_84  : wps rm K Q c_Tou_gather_84 kc ks loc (st) h = wps rm K Q c_Tou_gather_85 kc ks loc (.int (1) :: st) h := gk_ic (by decide)
theorem s_Tou_gather_85 {x y : Int32} : wps rm K Q c_Tou_gather_85 kc ks loc (.int y :: .int x :: st) h = wps rm K Q c_Tou_gather_86 kc ks loc (.int (x + y) :: st) h := gk_iadd
theorem s_Tou_gather_86 {x : Nat} {v : Value} : wps rm K Q c_Tou_gather_86 kc ks loc (v :: .ref (x + 1) :: st) h = eg_pf h x 10 4 v (fun h9 => wps rm K Q c_Tou_gather_89 kc ks loc (st) h9) := gk_pf
theorem s_Tou_gather_89 {x : Int32} {l0 l1 : Option Value} {lz : eg_Lo} : wps rm K Q c_Tou_gather_89 kc ks (l0 :: l1 :: some (.int x) :: lz) (st) h = wps rm K Q c_Tou_gather_92 kc ks (eg_set1 (l0 :: l1 :: some (.int x) :: lz) 2 (.int (x + (1)))) (st) h := gk_iinc rfl (by decide)
theorem s_Tou_gather_92  : wps rm K Q c_Tou_gather_92 kc ks loc (st) h = K 7 kc ks loc st h := gk_goto
theorem s_Tou_gather_95  : wps rm K Q c_Tou_gather_95 kc ks loc ([]) h = (kc = rm.cells ∧ Q none h) := gk_vret
theorem sz_Tou_gather_7 : wps rm K Q z_Tou_gather_7 kc ks loc st h = K 7 kc ks loc st h := gk_nop
def T_Tou_gather : List (Nat × List eg_I) := [(89, c_Tou_gather_89), (95, c_Tou_gather_95)]
theorem j_Tou_gather_89 {R : Nat → Nat → Nat → eg_Lo → List Value → List eg_E → Prop} {f pc0 : Nat} : eg_run rm R Q T_Tou_gather (f + 1) 89 kc ks loc st h = wps rm (eg_run rm R Q T_Tou_gather f) Q c_Tou_gather_89 kc ks loc st h := rfl
theorem j_Tou_gather_95 {R : Nat → Nat → Nat → eg_Lo → List Value → List eg_E → Prop} {f pc0 : Nat} : eg_run rm R Q T_Tou_gather (f + 1) 95 kc ks loc st h = wps rm (eg_run rm R Q T_Tou_gather f) Q c_Tou_gather_95 kc ks loc st h := rfl
theorem j_Tou_gather_7 {R : Nat → Nat → Nat → eg_Lo → List Value → List eg_E → Prop} {f pc0 : Nat} : eg_run rm R Q T_Tou_gather (f + 1) 7 kc ks loc st h = R 7 kc ks loc st h := rfl
end
theorem y_Tou_gather_0 : eg_seq m_Tou_gather 0 c_Tou_gather_0 = true := by decide +kernel
theorem y_Tou_gather_7 : eg_seq m_Tou_gather 7 c_Tou_gather_7 = true := by decide +kernel
theorem y_Tou_gather_95 : eg_seq m_Tou_gather 95 c_Tou_gather_95 = true := by decide +kernel
theorem q_Tou_gather : ∀ q ∈ T_Tou_gather, eg_seq m_Tou_gather q.1 q.2 = true := by
  intro q hq
  simp only [T_Tou_gather, List.mem_cons, List.not_mem_nil, or_false] at hq
  rcases hq with rfl | rfl
  · exact (eg_seq_drop y_Tou_gather_7 48 : eg_seq m_Tou_gather 89 c_Tou_gather_89 = true)
  · exact y_Tou_gather_95
theorem b_Tou_gather {as : List Value} {h : List eg_E} {Q : Option Value → List eg_E → Prop} (hf : (eg_fl as).length ≤ 3) (hw : wps (eg_rm m_Tou_gather) (eg_run (eg_rm m_Tou_gather) (eg_R m_Tou_gather Q (h.length + 0)) Q T_Tou_gather 4) Q c_Tou_gather_0 0 0 (eg_entry 3 as) [] h) : eg_Runs n_Tou_gather as h Q := eg_begin2 (d := m_Tou_gather) rfl (by decide) y_Tou_gather_0 q_Tou_gather hf hw
theorem p_Tou_gather_7 {Q : Option Value → List eg_E → Prop} {n0 kc ks : Nat} {loc : eg_Lo} {st : List Value} {h : List eg_E} (hw : wps (eg_rm m_Tou_gather) (eg_run (eg_rm m_Tou_gather) (eg_R m_Tou_gather Q n0) Q T_Tou_gather 4) Q c_Tou_gather_7 kc ks loc st h) : eg_R m_Tou_gather Q n0 7 kc ks loc st h := eg_go2 y_Tou_gather_7 q_Tou_gather hw
/-! ===== Tou_isOnePlace ===== -/
def c_Tou_isOnePlace_35 : List eg_I := .inl (35, 1, .ireturn, 0, 1) :: []
def c_Tou_isOnePlace_34 : List eg_I := .inl (34, 1, .iconst (0), 0, 0) :: c_Tou_isOnePlace_35
def c_Tou_isOnePlace_31 : List eg_I := .inl (31, 3, .goto (4), 35, 0) :: []
def c_Tou_isOnePlace_30 : List eg_I := .inl (30, 1, .iconst (1), 0, 0) :: c_Tou_isOnePlace_31
def c_Tou_isOnePlace_27 : List eg_I := .inl (27, 3, .if_icmp .ne (7), 34, 0) :: c_Tou_isOnePlace_30
def c_Tou_isOnePlace_26 : List eg_I := .inl (26, 1, .iaload, 0, 0) :: c_Tou_isOnePlace_27
def c_Tou_isOnePlace_25 : List eg_I := .inl (25, 1, .iload 2, 0, 0) :: c_Tou_isOnePlace_26
def c_Tou_isOnePlace_22 : List eg_I := .inl (22, 3, .getfield 15, 10, 1) :: c_Tou_isOnePlace_25
def c_Tou_isOnePlace_21 : List eg_I := .inl (21, 1, .aload 0, 0, 0) :: c_Tou_isOnePlace_22
def c_Tou_isOnePlace_20 : List eg_I := .inl (20, 1, .iaload, 0, 0) :: c_Tou_isOnePlace_21
def c_Tou_isOnePlace_19 : List eg_I := .inl (19, 1, .iload 1, 0, 0) :: c_Tou_isOnePlace_20
def c_Tou_isOnePlace_16 : List eg_I := .inl (16, 3, .getfield 15, 10, 1) :: c_Tou_isOnePlace_19
def c_Tou_isOnePlace_15 : List eg_I := .inl (15, 1, .aload 0, 0, 0) :: c_Tou_isOnePlace_16
def c_Tou_isOnePlace_12 : List eg_I := .inl (12, 3, .if_icmp .ne (22), 34, 0) :: c_Tou_isOnePlace_15
def c_Tou_isOnePlace_11 : List eg_I := .inl (11, 1, .iaload, 0, 0) :: c_Tou_isOnePlace_12
def c_Tou_isOnePlace_10 : List eg_I := .inl (10, 1, .iload 2, 0, 0) :: c_Tou_isOnePlace_11
def c_Tou_isOnePlace_7 : List eg_I := .inl (7, 3, .getfield 9, 10, 0) :: c_Tou_isOnePlace_10
def c_Tou_isOnePlace_6 : List eg_I := .inl (6, 1, .aload 0, 0, 0) :: c_Tou_isOnePlace_7
def c_Tou_isOnePlace_5 : List eg_I := .inl (5, 1, .iaload, 0, 0) :: c_Tou_isOnePlace_6
def c_Tou_isOnePlace_4 : List eg_I := .inl (4, 1, .iload 1, 0, 0) :: c_Tou_isOnePlace_5
def c_Tou_isOnePlace_1 : List eg_I := .inl (1, 3, .getfield 9, 10, 0) :: c_Tou_isOnePlace_4
def c_Tou_isOnePlace_0 : List eg_I := .inl (0, 1, .aload 0, 0, 0) :: c_Tou_isOnePlace_1
section
variable {rm : Room} {K : Nat → Nat → Nat → eg_Lo → List Value → List eg_E → Prop} {Q : Option Value → List eg_E → Prop} {kc ks : Nat} {loc : eg_Lo} {st : List Value} {h : List eg_E}
theorem s_Tou_isOnePlace_0 {x : Nat} {l : eg_Lo} : wps rm K Q c_Tou_isOnePlace_0 kc ks (some (.ref x) :: l) (st) h = wps rm K Q c_Tou_isOnePlace_1 kc ks (some (.ref x) :: l) (.ref x :: st) h := gk_aload rfl
theorem s_Tou_isOnePlace_1 {x : Nat} : wps rm K Q c_Tou_isOnePlace_1 kc ks loc (.ref (x + 1) :: st) h = eg_gf h x 10 0 (fun v => wps rm K Q c_Tou_isOnePlace_4 kc ks loc (v :: st) h) := gk_gf
theorem s_Tou_isOnePlace_4 {x : Int32} {l0 : Option Value} {l : eg_Lo} : wps rm K Q c_Tou_isOnePlace_4 kc ks (l0 :: some (.int x) :: l) (st) h = wps rm K Q c_Tou_isOnePlace_5 kc ks (l0 :: some (.int x) :: l) (.int x :: st) h := gk_iload rfl
theorem s_Tou_isOnePlace_5 {x : Nat} {i : Int32} : wps rm K Q c_Tou_isOnePlace_5 kc ks loc (.int i :: .ref (x + 1) :: st) h = eg_ia h x i (fun v => wps rm K Q c_Tou_isOnePlace_6 kc ks loc (.int v :: st) h) := gk_iaload
theorem s_Tou_isOnePlace_6 {x : Nat} {l : eg_Lo} : wps rm K Q c_Tou_isOnePlace_6 kc ks (some (.ref x) :: l) (st) h = wps rm K Q c_Tou_isOnePlace_7 kc ks (some (.ref x) :: l) (.ref x :: st) h := gk_aload rfl
theorem s_Tou_isOnePlace_7 {x : Nat} : wps rm K Q c_Tou_isOnePlace_7 kc ks loc (.ref (x + 1) :: st) h = eg_gf h x 10 0 (fun v => wps rm K Q c_Tou_isOnePlace_10 kc ks loc (v :: st) h) := gk_gf
theorem s_Tou_isOnePlace_10 {x : Int32} {l0 l1 : Option Value} {l : eg_Lo} : wps rm K Q c_Tou_isOnePlace_10 kc ks (l0 :: l1 :: some (.int x) :: l) (st) h = wps rm K Q c_Tou_isOnePlace_11 kc ks (l0 :: l1 :: some (.int x) :: l) (.int x :: st) h := gk_iload rfl
theorem s_Tou_isOnePlace_11 {x : Nat} {i : Int32} : wps rm K Q c_Tou_isOnePlace_11 kc ks loc (.int i :: .ref (x + 1) :: st) h = eg_ia h x i (fun v => wps rm K Q c_Tou_isOnePlace_12 kc ks loc (.int v :: st) h) := gk_iaload
theorem s_Tou_isOnePlace_12 {x y : Int32} : wps rm K Q c_Tou_isOnePlace_12 kc ks loc (.int y :: .int x :: st) h = ((¬ x = y → K 34 kc ks loc st h) ∧ (x = y → wps rm K Q c_Tou_isOnePlace_15 kc ks loc (st) h)) := gk_if2_ne
theorem s_Tou_isOnePlace_15 {x : Nat} {l : eg_Lo} : wps rm K Q c_Tou_isOnePlace_15 kc ks (some (.ref x) :: l) (st) h = wps rm K Q c_Tou_isOnePlace_16 kc ks (some (.ref x) :: l) (.ref x :: st) h := gk_aload rfl
theorem s_Tou_isOnePlace_16 {x : Nat} : wps rm K Q c_Tou_isOnePlace_16 kc ks loc (.ref (x + 1) :: st) h = eg_gf h x 10 1 (fun v => wps rm K Q c_Tou_isOnePlace_19 kc ks loc (v :: st) h) := gk_gf
theorem s_Tou_isOnePlace_19 {x : Int32} {l0 : Option Value} {l : eg_Lo} : wps rm K Q c_Tou_isOnePlace_19 kc ks (l0 :: some (.int x) :: l) (st) h = wps rm K Q c_Tou_isOnePlace_20 kc ks (l0 :: some (.int x) :: l) (.int x :: st) h := gk_iload rfl
theorem s_Tou_isOnePlace_20 {x : Nat} {i : Int32} : wps rm K Q c_Tou_isOnePlace_20 kc ks loc (.int i :: .ref (x + 1) :: st) h = eg_ia h x i (fun v => wps rm K Q c_Tou_isOnePlace_21 kc ks loc (.int v :: st) h) := gk_iaload
theorem s_Tou_isOnePlace_21 {x : Nat} {l : eg_Lo} : wps rm K Q c_Tou_isOnePlace_21 kc ks (some (.ref x) :: l) (st) h = wps rm K Q c_Tou_isOnePlace_22 kc ks (some (.ref x) :: l) (.ref x :: st) h := gk_aload rfl
theorem s_Tou_isOnePlace_22 {x : Nat} : wps rm K Q c_Tou_isOnePlace_22 kc ks loc (.ref (x + 1) :: st) h = eg_gf h x 10 1 (fun v => wps rm K Q c_Tou_isOnePlace_25 kc ks loc (v :: st) h) := gk_gf
theorem s_Tou_isOnePlace_25 {x : Int32} {l0 l1 : Option Value} {l : eg_Lo} : wps rm K Q c_Tou_isOnePlace_25 kc ks (l0 :: l1 :: some (.int x) :: l) (st) h = wps rm K Q c_Tou_isOnePlace_26 kc ks (l0 :: l1 :: some (.int x) :: l) (.int x :: st) h := gk_iload rfl
theorem s_Tou_isOnePlace_26 {x : Nat} {i : Int32} : wps rm K Q c_Tou_isOnePlace_26 kc ks loc (.int i :: .ref (x + 1) :: st) h = eg_ia h x i (fun v => wps rm K Q c_Tou_isOnePlace_27 kc ks loc (.int v :: st) h) := gk_iaload
theorem s_Tou_isOnePlace_27 {x y : Int32} : wps rm K Q c_Tou_isOnePlace_27 kc ks loc (.int y :: .int x :: st) h = ((¬ x = y → K 34 kc ks loc st h) ∧ (x = y → wps rm K Q c_Tou_isOnePlace_30 kc ks loc (st) h)) := gk_if2_ne
theorem s_Tou_isOnePlace_30  : wps rm K Q c_Tou_isOnePlace_30 kc ks loc (st) h = wps rm K Q c_Tou_isOnePlace_31 kc ks loc (.int (1) :: st) h := gk_ic (by decide)
theorem s_Tou_isOnePlace_31  : wps rm K Q c_Tou_isOnePlace_31 kc ks loc (st) h = K 35 kc ks loc st h := gk_goto
theorem s_Tou_isOnePlace_34  : wps rm K Q c_Tou_isOnePlace_34 kc ks loc (st) h = wps rm K Q c_Tou_isOnePlace_35 kc ks loc (.int (0) :: st) h := gk_ic (by decide)
theorem s_Tou_isOnePlace_35 {x : Int32} : wps rm K Q c_Tou_isOnePlace_35 kc ks loc ([.int x]) h = (kc = rm.cells ∧ ((1 : Nat) = 1 → x = 0 ∨ x = 1) ∧ Q (some (.int x)) h) := gk_iret
def T_Tou_isOnePlace : List (Nat × List eg_I) := [(34, c_Tou_isOnePlace_34), (35, c_Tou_isOnePlace_35)]
theorem j_Tou_isOnePlace_34 {R : Nat → Nat → Nat → eg_Lo → List Value → List eg_E → Prop} {f pc0 : Nat} : eg_run rm R Q T_Tou_isOnePlace (f + 1) 34 kc ks loc st h = wps rm (eg_run rm R Q T_Tou_isOnePlace f) Q c_Tou_isOnePlace_34 kc ks loc st h := rfl
theorem j_Tou_isOnePlace_35 {R : Nat → Nat → Nat → eg_Lo → List Value → List eg_E → Prop} {f pc0 : Nat} : eg_run rm R Q T_Tou_isOnePlace (f + 1) 35 kc ks loc st h = wps rm (eg_run rm R Q T_Tou_isOnePlace f) Q c_Tou_isOnePlace_35 kc ks loc st h := rfl
end
theorem y_Tou_isOnePlace_0 : eg_seq m_Tou_isOnePlace 0 c_Tou_isOnePlace_0 = true := by decide +kernel
theorem y_Tou_isOnePlace_34 : eg_seq m_Tou_isOnePlace 34 c_Tou_isOnePlace_34 = true := by decide +kernel
theorem q_Tou_isOnePlace : ∀ q ∈ T_Tou_isOnePlace, eg_seq m_Tou_isOnePlace q.1 q.2 = true := by
  intro q hq
  simp only [T_Tou_isOnePlace, List.mem_cons, List.not_mem_nil, or_false] at hq
  rcases hq with rfl | rfl
  · exact y_Tou_isOnePlace_34
  · exact (eg_seq_drop y_Tou_isOnePlace_34 1 : eg_seq m_Tou_isOnePlace 35 c_Tou_isOnePlace_35 = true)
theorem b_Tou_isOnePlace {as : List Value} {h : List eg_E} {Q : Option Value → List eg_E → Prop} (hf : (eg_fl as).length ≤ 3) (hw : wps (eg_rm m_Tou_isOnePlace) (eg_run (eg_rm m_Tou_isOnePlace) (eg_R m_Tou_isOnePlace Q (h.length + 0)) Q T_Tou_isOnePlace 4) Q c_Tou_isOnePlace_0 0 0 (eg_entry 3 as) [] h) : eg_Runs n_Tou_isOnePlace as h Q := eg_begin2 (d := m_Tou_isOnePlace) rfl (by decide) y_Tou_isOnePlace_0 q_Tou_isOnePlace hf hw
/-! ===== X_init ===== -/
def z_X_init_97 : List eg_I := [.inl (97, 0, .nop, 0, 0)]
def z_X_init_123 : List eg_I := [.inl (123, 0, .nop, 0, 0)]
def z_X_init_149 : List eg_I := [.inl (149, 0, .nop, 0, 0)]
def c_X_init_174 : List eg_I := .inl (174, 1, .return_, 0, 0) :: []
def c_X_init_171 : List eg_I := .inl (171, 3, .goto (-22), 149, 0) :: []
def c_X_init_168 : List eg_I := .inl (168, 3, .iinc 1 (1), 0, 0) :: c_X_init_171
def c_X_init_167 : List eg_I := .inl (167, 1, .aastore, 0, 0) :: c_X_init_168
def c_X_init_164 : List eg_I := .inr (164, 3, 71, n_Fig_init, 0, 2, 5, 15) :: c_X_init_167
def c_X_init_163 : List eg_I := .inl (163, 1, .dup, 0, 0) :: c_X_init_164
def c_X_init_160 : List eg_I := .inl (160, 3, .new 21, 2, 7) :: c_X_init_163
def c_X_init_159 : List eg_I := .inl (159, 1, .iload 1, 0, 0) :: c_X_init_160
def c_X_init_156 : List eg_I := .inl (156, 3, .getfield 23, 11, 2) :: c_X_init_159
def c_X_init_155 : List eg_I := .inl (155, 1, .aload 0, 0, 0) :: c_X_init_156
def c_X_init_152 : List eg_I := .inl (152, 3, .if_icmp .ge (22), 174, 0) :: c_X_init_155
def c_X_init_150 : List eg_I := .inl (150, 2, .iconst (6), 0, 0) :: c_X_init_152
def c_X_init_149 : List eg_I := .inl (149, 1, .iload 1, 0, 0) :: c_X_init_150
def c_X_init_148 : List eg_I := .inl (148, 1, .istore 1, 0, 0) :: z_X_init_149
def c_X_init_147 : List eg_I := .inl (147, 1, .iconst (0), 0, 0) :: c_X_init_148
def c_X_init_144 : List eg_I := .inl (144, 3, .goto (-21), 123, 0) :: []
def c_X_init_141 : List eg_I := .inl (141, 3, .iinc 1 (1), 0, 0) :: c_X_init_144
def c_X_init_140 : List eg_I := .inl (140, 1, .aastore, 0, 0) :: c_X_init_141
def c_X_init_137 : List eg_I := .inr (137, 3, 70, n_Sheet_init, 0, 9, 1, 48) :: c_X_init_140
def c_X_init_136 : List eg_I := .inl (136, 1, .dup, 0, 0) :: c_X_init_137
def c_X_init_133 : List eg_I := .inl (133, 3, .new 15, 9, 3) :: c_X_init_136
def c_X_init_132 : List eg_I := .inl (132, 1, .iload 1, 0, 0) :: c_X_init_133
def c_X_init_129 : List eg_I := .inl (129, 3, .getfield 17, 11, 1) :: c_X_init_132
def c_X_init_128 : List eg_I := .inl (128, 1, .aload 0, 0, 0) :: c_X_init_129
def c_X_init_125 : List eg_I := .inl (125, 3, .if_icmp .ge (22), 147, 0) :: c_X_init_128
def c_X_init_124 : List eg_I := .inl (124, 1, .iconst (4), 0, 0) :: c_X_init_125
def c_X_init_123 : List eg_I := .inl (123, 1, .iload 1, 0, 0) :: c_X_init_124
def c_X_init_122 : List eg_I := .inl (122, 1, .istore 1, 0, 0) :: z_X_init_123
def c_X_init_121 : List eg_I := .inl (121, 1, .iconst (0), 0, 0) :: c_X_init_122
def c_X_init_118 : List eg_I := .inl (118, 3, .goto (-21), 97, 0) :: []
def c_X_init_115 : List eg_I := .inl (115, 3, .iinc 1 (1), 0, 0) :: c_X_init_118
def c_X_init_114 : List eg_I := .inl (114, 1, .aastore, 0, 0) :: c_X_init_115
def c_X_init_111 : List eg_I := .inr (111, 3, 69, n_Part_init, 0, 8, 4, 64) :: c_X_init_114
def c_X_init_110 : List eg_I := .inl (110, 1, .dup, 0, 0) :: c_X_init_111
def c_X_init_107 : List eg_I := .inl (107, 3, .new 9, 8, 5) :: c_X_init_110
def c_X_init_106 : List eg_I := .inl (106, 1, .iload 1, 0, 0) :: c_X_init_107
def c_X_init_103 : List eg_I := .inl (103, 3, .getfield 11, 11, 0) :: c_X_init_106
def c_X_init_102 : List eg_I := .inl (102, 1, .aload 0, 0, 0) :: c_X_init_103
def c_X_init_99 : List eg_I := .inl (99, 3, .if_icmp .ge (22), 121, 0) :: c_X_init_102
def c_X_init_98 : List eg_I := .inl (98, 1, .iconst (4), 0, 0) :: c_X_init_99
def c_X_init_97 : List eg_I := .inl (97, 1, .iload 1, 0, 0) :: c_X_init_98
def c_X_init_96 : List eg_I := .inl (96, 1, .istore 1, 0, 0) :: z_X_init_97
def c_X_init_95 : List eg_I := .inl (95, 1, .iconst (0), 0, 0) :: c_X_init_96
def c_X_init_92 : List eg_I := .inl (92, 3, .putfield 65, 11, 8) :: c_X_init_95
def c_X_init_89 : List eg_I := .inr (89, 3, 64, n_Boxes_init, 0, 0, 2, 36) :: c_X_init_92
def c_X_init_88 : List eg_I := .inl (88, 1, .dup, 0, 0) :: c_X_init_89
def c_X_init_85 : List eg_I := .inl (85, 3, .new 62, 0, 7) :: c_X_init_88
def c_X_init_84 : List eg_I := .inl (84, 1, .aload 0, 0, 0) :: c_X_init_85
def c_X_init_81 : List eg_I := .inl (81, 3, .putfield 58, 11, 7) :: c_X_init_84
def c_X_init_78 : List eg_I := .inr (78, 3, 57, n_Outl_init, 0, 7, 3, 22) :: c_X_init_81
def c_X_init_77 : List eg_I := .inl (77, 1, .dup, 0, 0) :: c_X_init_78
def c_X_init_74 : List eg_I := .inl (74, 3, .new 55, 7, 6) :: c_X_init_77
def c_X_init_73 : List eg_I := .inl (73, 1, .aload 0, 0, 0) :: c_X_init_74
def c_X_init_70 : List eg_I := .inl (70, 3, .putfield 51, 11, 6) :: c_X_init_73
def c_X_init_67 : List eg_I := .inr (67, 3, 50, n_Frame_init, 0, 5, 1, 9) :: c_X_init_70
def c_X_init_66 : List eg_I := .inl (66, 1, .dup, 0, 0) :: c_X_init_67
def c_X_init_63 : List eg_I := .inl (63, 3, .new 48, 5, 5) :: c_X_init_66
def c_X_init_62 : List eg_I := .inl (62, 1, .aload 0, 0, 0) :: c_X_init_63
def c_X_init_59 : List eg_I := .inl (59, 3, .putfield 44, 11, 5) :: c_X_init_62
def c_X_init_56 : List eg_I := .inr (56, 3, 43, n_Circ_init, 0, 1, 5, 69) :: c_X_init_59
def c_X_init_55 : List eg_I := .inl (55, 1, .dup, 0, 0) :: c_X_init_56
def c_X_init_52 : List eg_I := .inl (52, 3, .new 41, 1, 5) :: c_X_init_55
def c_X_init_51 : List eg_I := .inl (51, 1, .aload 0, 0, 0) :: c_X_init_52
def c_X_init_48 : List eg_I := .inl (48, 3, .putfield 37, 11, 4) :: c_X_init_51
def c_X_init_45 : List eg_I := .inr (45, 3, 36, n_Flat_init, 0, 3, 8, 81) :: c_X_init_48
def c_X_init_44 : List eg_I := .inl (44, 1, .dup, 0, 0) :: c_X_init_45
def c_X_init_41 : List eg_I := .inl (41, 3, .new 34, 3, 9) :: c_X_init_44
def c_X_init_40 : List eg_I := .inl (40, 1, .aload 0, 0, 0) :: c_X_init_41
def c_X_init_37 : List eg_I := .inl (37, 3, .putfield 30, 11, 3) :: c_X_init_40
def c_X_init_34 : List eg_I := .inr (34, 3, 29, n_Grid_init, 0, 6, 2, 18) :: c_X_init_37
def c_X_init_33 : List eg_I := .inl (33, 1, .dup, 0, 0) :: c_X_init_34
def c_X_init_30 : List eg_I := .inl (30, 3, .new 27, 6, 2) :: c_X_init_33
def c_X_init_29 : List eg_I := .inl (29, 1, .aload 0, 0, 0) :: c_X_init_30
def c_X_init_26 : List eg_I := .inl (26, 3, .putfield 23, 11, 2) :: c_X_init_29
def c_X_init_23 : List eg_I := .inl (23, 3, .anewarray 21, 6, 0) :: c_X_init_26
def c_X_init_21 : List eg_I := .inl (21, 2, .iconst (6), 0, 0) :: c_X_init_23
def c_X_init_20 : List eg_I := .inl (20, 1, .aload 0, 0, 0) :: c_X_init_21
def c_X_init_17 : List eg_I := .inl (17, 3, .putfield 17, 11, 1) :: c_X_init_20
def c_X_init_14 : List eg_I := .inl (14, 3, .anewarray 15, 5, 0) :: c_X_init_17
def c_X_init_13 : List eg_I := .inl (13, 1, .iconst (4), 0, 0) :: c_X_init_14
def c_X_init_12 : List eg_I := .inl (12, 1, .aload 0, 0, 0) :: c_X_init_13
def c_X_init_9 : List eg_I := .inl (9, 3, .putfield 11, 11, 0) :: c_X_init_12
def c_X_init_6 : List eg_I := .inl (6, 3, .anewarray 9, 4, 0) :: c_X_init_9
def c_X_init_5 : List eg_I := .inl (5, 1, .iconst (4), 0, 0) :: c_X_init_6
def c_X_init_4 : List eg_I := .inl (4, 1, .aload 0, 0, 0) :: c_X_init_5
def c_X_init_1 : List eg_I := .inl (1, 3, .athrow, 3, 0) :: c_X_init_4
def c_X_init_0 : List eg_I := .inl (0, 1, .aload 0, 0, 0) :: c_X_init_1
section
variable {rm : Room} {K : Nat → Nat → Nat → eg_Lo → List Value → List eg_E → Prop} {Q : Option Value → List eg_E → Prop} {kc ks : Nat} {loc : eg_Lo} {st : List Value} {h : List eg_E}
theorem s_X_init_0 {x : Nat} {l : eg_Lo} : wps rm K Q c_X_init_0 kc ks (some (.ref x) :: l) (st) h = wps rm K Q c_X_init_1 kc ks (some (.ref x) :: l) (.ref x :: st) h := gk_aload rfl
theorem s_X_init_1 {x : Nat} : wps rm K Q c_X_init_1 kc ks loc (.ref (x + 1) :: st) h = (st.length ≤ 4 ∧ wps rm K Q c_X_init_4 kc ks loc (st) h) := gk_oi
theorem s_X_init_4 {x : Nat} {l : eg_Lo} : wps rm K Q c_X_init_4 kc ks (some (.ref x) :: l) (st) h = wps rm K Q c_X_init_5 kc ks (some (.ref x) :: l) (.ref x :: st) h := gk_aload rfl
theorem s_X_init_5  : wps rm K Q c_X_init_5 kc ks loc (st) h = wps rm K Q c_X_init_6 kc ks loc (.int (4) :: st) h := gk_ic (by decide)
theorem s_X_init_6 {x : Int32} : wps rm K Q c_X_init_6 kc ks loc (.int x :: st) h = (¬ x < 0 ∧ x.toNatClampNeg ≤ 1000 ∧ kc + 1 ≤ rm.cells ∧ ks + x.toNatClampNeg ≤ rm.slots ∧ wps rm K Q c_X_init_9 (kc + 1) (ks + x.toNatClampNeg) loc (.ref (h.length + 1) :: st) (h ++ [.inl (4, x.toNatClampNeg, .inr (.inr (.inr (.inr (fun _ => none)))))])) := gk_an
theorem s_X_init_9 {x : Nat} {v : Value} : wps rm K Q c_X_init_9 kc ks loc (v :: .ref (x + 1) :: st) h = eg_pf h x 11 0 v (fun h9 => wps rm K Q c_X_init_12 kc ks loc (st) h9) := gk_pf
theorem s_X_init_12 {x : Nat} {l : eg_Lo} : wps rm K Q c_X_init_12 kc ks (some (.ref x) :: l) (st) h = wps rm K Q c_X_init_13 kc ks (some (.ref x) :: l) (.ref x :: st) h := gk_aload rfl
theorem s_X_init_13  : wps rm K Q c_X_init_13 kc ks loc (st) h = wps rm K Q c_X_init_14 kc ks loc (.int (4) :: st) h := gk_ic (by decide)
theorem s_X_init_14 {x : Int32} : wps rm K Q c_X_init_14 kc ks loc (.int x :: st) h = (¬ x < 0 ∧ x.toNatClampNeg ≤ 1000 ∧ kc + 1 ≤ rm.cells ∧ ks + x.toNatClampNeg ≤ rm.slots ∧ wps rm K Q c_X_init_17 (kc + 1) (ks + x.toNatClampNeg) loc (.ref (h.length + 1) :: st) (h ++ [.inl (5, x.toNatClampNeg, .inr (.inr (.inr (.inr (fun _ => none)))))])) := gk_an
theorem s_X_init_17 {x : Nat} {v : Value} : wps rm K Q c_X_init_17 kc ks loc (v :: .ref (x + 1) :: st) h = eg_pf h x 11 1 v (fun h9 => wps rm K Q c_X_init_20 kc ks loc (st) h9) := gk_pf
theorem s_X_init_20 {x : Nat} {l : eg_Lo} : wps rm K Q c_X_init_20 kc ks (some (.ref x) :: l) (st) h = wps rm K Q c_X_init_21 kc ks (some (.ref x) :: l) (.ref x :: st) h := gk_aload rfl
theorem s_X_init_21  : wps rm K Q c_X_init_21 kc ks loc (st) h = wps rm K Q c_X_init_23 kc ks loc (.int (6) :: st) h := gk_ic (by decide)
theorem s_X_init_23 {x : Int32} : wps rm K Q c_X_init_23 kc ks loc (.int x :: st) h = (¬ x < 0 ∧ x.toNatClampNeg ≤ 1000 ∧ kc + 1 ≤ rm.cells ∧ ks + x.toNatClampNeg ≤ rm.slots ∧ wps rm K Q c_X_init_26 (kc + 1) (ks + x.toNatClampNeg) loc (.ref (h.length + 1) :: st) (h ++ [.inl (6, x.toNatClampNeg, .inr (.inr (.inr (.inr (fun _ => none)))))])) := gk_an
theorem s_X_init_26 {x : Nat} {v : Value} : wps rm K Q c_X_init_26 kc ks loc (v :: .ref (x + 1) :: st) h = eg_pf h x 11 2 v (fun h9 => wps rm K Q c_X_init_29 kc ks loc (st) h9) := gk_pf
theorem s_X_init_29 {x : Nat} {l : eg_Lo} : wps rm K Q c_X_init_29 kc ks (some (.ref x) :: l) (st) h = wps rm K Q c_X_init_30 kc ks (some (.ref x) :: l) (.ref x :: st) h := gk_aload rfl
theorem s_X_init_30  : wps rm K Q c_X_init_30 kc ks loc (st) h = (kc + 1 ≤ rm.cells ∧ ks + 2 ≤ rm.slots ∧ wps rm K Q c_X_init_33 (kc + 1) (ks + 2) loc (.ref (h.length + 1) :: st) (h ++ [.inr (6, eg_df 6)])) := gk_new
theorem s_X_init_33 {x : Nat} : wps rm K Q c_X_init_33 kc ks loc (.ref x :: st) h = wps rm K Q c_X_init_34 kc ks loc (.ref x :: .ref x :: st) h := gk_dup
theorem s_X_init_34  {x : Nat} : wps rm K Q c_X_init_34 kc ks loc (.ref (x + 1) :: st) h = (st.length ≤ 4 ∧ kc + 2 ≤ rm.cells ∧ ks + 18 ≤ rm.slots ∧ eg_Cs n_Grid_init [.ref (x + 1)] h (fun v h9 => wps rm K Q c_X_init_37 (kc + 2) (ks + 18) loc (v.toList ++ st) h9)) := eg_c3_0
theorem s_X_init_37 {x : Nat} {v : Value} : wps rm K Q c_X_init_37 kc ks loc (v :: .ref (x + 1) :: st) h = eg_pf h x 11 3 v (fun h9 => wps rm K Q c_X_init_40 kc ks loc (st) h9) := gk_pf
theorem s_X_init_40 {x : Nat} {l : eg_Lo} : wps rm K Q c_X_init_40 kc ks (some (.ref x) :: l) (st) h = wps rm K Q c_X_init_41 kc ks (some (.ref x) :: l) (.ref x :: st) h := gk_aload rfl
theorem s_X_init_41  : wps rm K Q c_X_init_41 kc ks loc (st) h = (kc + 1 ≤ rm.cells ∧ ks + 9 ≤ rm.slots ∧ wps rm K Q c_X_init_44 (kc + 1) (ks + 9) loc (.ref (h.length + 1) :: st) (h ++ [.inr (3, eg_df 3)])) := gk_new
theorem s_X_init_44 {x : Nat} : wps rm K Q c_X_init_44 kc ks loc (.ref x :: st) h = wps rm K Q c_X_init_45 kc ks loc (.ref x :: .ref x :: st) h := gk_dup
theorem s_X_init_45  {x : Nat} : wps rm K Q c_X_init_45 kc ks loc (.ref (x + 1) :: st) h = (st.length ≤ 4 ∧ kc + 8 ≤ rm.cells ∧ ks + 81 ≤ rm.slots ∧ eg_Cs n_Flat_init [.ref (x + 1)] h (fun v h9 => wps rm K Q c_X_init_48 (kc + 8) (ks + 81) loc (v.toList ++ st) h9)) := eg_c3_0
theorem s_X_init_48 {x : Nat} {v : Value} : wps rm K Q c_X_init_48 kc ks loc (v :: .ref (x + 1) :: st) h = eg_pf h x 11 4 v (fun h9 => wps rm K Q c_X_init_51 kc ks loc (st) h9) := gk_pf
theorem s_X_init_51 {x : Nat} {l : eg_Lo} : wps rm K Q c_X_init_51 kc ks (some (.ref x) :: l) (st) h = wps rm K Q c_X_init_52 kc ks (some (.ref x) :: l) (.ref x :: st) h := gk_aload rfl
theorem s_X_init_52  : wps rm K Q c_X_init_52 kc ks loc (st) h = (kc + 1 ≤ rm.cells ∧ ks + 5 ≤ rm.slots ∧ wps rm K Q c_X_init_55 (kc + 1) (ks + 5) loc (.ref (h.length + 1) :: st) (h ++ [.inr (1, eg_df 1)])) := gk_new
theorem s_X_init_55 {x : Nat} : wps rm K Q c_X_init_55 kc ks loc (.ref x :: st) h = wps rm K Q c_X_init_56 kc ks loc (.ref x :: .ref x :: st) h := gk_dup
theorem s_X_init_56  {x : Nat} : wps rm K Q c_X_init_56 kc ks loc (.ref (x + 1) :: st) h = (st.length ≤ 4 ∧ kc + 5 ≤ rm.cells ∧ ks + 69 ≤ rm.slots ∧ eg_Cs n_Circ_init [.ref (x + 1)] h (fun v h9 => wps rm K Q c_X_init_59 (kc + 5) (ks + 69) loc (v.toList ++ st) h9)) := eg_c3_0
theorem s_X_init_59 {x : Nat} {v : Value} : wps rm K Q c_X_init_59 kc ks loc (v :: .ref (x + 1) :: st) h = eg_pf h x 11 5 v (fun h9 => wps rm K Q c_X_init_62 kc ks loc (st) h9) := gk_pf
theorem s_X_init_62 {x : Nat} {l : eg_Lo} : wps rm K Q c_X_init_62 kc ks (some (.ref x) :: l) (st) h = wps rm K Q c_X_init_63 kc ks (some (.ref x) :: l) (.ref x :: st) h := gk_aload rfl
theorem s_X_init_63  : wps rm K Q c_X_init_63 kc ks loc (st) h = (kc + 1 ≤ rm.cells ∧ ks + 5 ≤ rm.slots ∧ wps rm K Q c_X_init_66 (kc + 1) (ks + 5) loc (.ref (h.length + 1) :: st) (h ++ [.inr (5, eg_df 5)])) := gk_new
theorem s_X_init_66 {x : Nat} : wps rm K Q c_X_init_66 kc ks loc (.ref x :: st) h = wps rm K Q c_X_init_67 kc ks loc (.ref x :: .ref x :: st) h := gk_dup
theorem s_X_init_67  {x : Nat} : wps rm K Q c_X_init_67 kc ks loc (.ref (x + 1) :: st) h = (st.length ≤ 4 ∧ kc + 1 ≤ rm.cells ∧ ks + 9 ≤ rm.slots ∧ eg_Cs n_Frame_init [.ref (x + 1)] h (fun v h9 => wps rm K Q c_X_init_70 (kc + 1) (ks + 9) loc (v.toList ++ st) h9)) := eg_c3_0
theorem s_X_init_70 {x : Nat} {v : Value} : wps rm K Q c_X_init_70 kc ks loc (v :: .ref (x + 1) :: st) h = eg_pf h x 11 6 v (fun h9 => wps rm K Q c_X_init_73 kc ks loc (st) h9) := gk_pf
theorem s_X_init_73 {x : Nat} {l : eg_Lo} : wps rm K Q c_X_init_73 kc ks (some (.ref x) :: l) (st) h = wps rm K Q c_X_init_74 kc ks (some (.ref x) :: l) (.ref x :: st) h := gk_aload rfl
theorem s_X_init_74  : wps rm K Q c_X_init_74 kc ks loc (st) h = (kc + 1 ≤ rm.cells ∧ ks + 6 ≤ rm.slots ∧ wps rm K Q c_X_init_77 (kc + 1) (ks + 6) loc (.ref (h.length + 1) :: st) (h ++ [.inr (7, eg_df 7)])) := gk_new
theorem s_X_init_77 {x : Nat} : wps rm K Q c_X_init_77 kc ks loc (.ref x :: st) h = wps rm K Q c_X_init_78 kc ks loc (.ref x :: .ref x :: st) h := gk_dup
theorem s_X_init_78  {x : Nat} : wps rm K Q c_X_init_78 kc ks loc (.ref (x + 1) :: st) h = (st.length ≤ 4 ∧ kc + 3 ≤ rm.cells ∧ ks + 22 ≤ rm.slots ∧ eg_Cs n_Outl_init [.ref (x + 1)] h (fun v h9 => wps rm K Q c_X_init_81 (kc + 3) (ks + 22) loc (v.toList ++ st) h9)) := eg_c3_0
theorem s_X_init_81 {x : Nat} {v : Value} : wps rm K Q c_X_init_81 kc ks loc (v :: .ref (x + 1) :: st) h = eg_pf h x 11 7 v (fun h9 => wps rm K Q c_X_init_84 kc ks loc (st) h9) := gk_pf
theorem s_X_init_84 {x : Nat} {l : eg_Lo} : wps rm K Q c_X_init_84 kc ks (some (.ref x) :: l) (st) h = wps rm K Q c_X_init_85 kc ks (some (.ref x) :: l) (.ref x :: st) h := gk_aload rfl
theorem s_X_init_85  : wps rm K Q c_X_init_85 kc ks loc (st) h = (kc + 1 ≤ rm.cells ∧ ks + 7 ≤ rm.slots ∧ wps rm K Q c_X_init_88 (kc + 1) (ks + 7) loc (.ref (h.length + 1) :: st) (h ++ [.inr (0, eg_df 0)])) := gk_new
theorem s_X_init_88 {x : Nat} : wps rm K Q c_X_init_88 kc ks loc (.ref x :: st) h = wps rm K Q c_X_init_89 kc ks loc (.ref x :: .ref x :: st) h := gk_dup
theorem s_X_init_89  {x : Nat} : wps rm K Q c_X_init_89 kc ks loc (.ref (x + 1) :: st) h = (st.length ≤ 4 ∧ kc + 2 ≤ rm.cells ∧ ks + 36 ≤ rm.slots ∧ eg_Cs n_Boxes_init [.ref (x + 1)] h (fun v h9 => wps rm K Q c_X_init_92 (kc + 2) (ks + 36) loc (v.toList ++ st) h9)) := eg_c3_0
theorem s_X_init_92 {x : Nat} {v : Value} : wps rm K Q c_X_init_92 kc ks loc (v :: .ref (x + 1) :: st) h = eg_pf h x 11 8 v (fun h9 => wps rm K Q c_X_init_95 kc ks loc (st) h9) := gk_pf
theorem s_X_init_95  : wps rm K Q c_X_init_95 kc ks loc (st) h = wps rm K Q c_X_init_96 kc ks loc (.int (0) :: st) h := gk_ic (by decide)
theorem s_X_init_96 {x : Int32} : wps rm K Q c_X_init_96 kc ks loc (.int x :: st) h = wps rm K Q z_X_init_97 kc ks (eg_set1 loc 1 (.int x)) (st) h := gk_istore
theorem s_X_init_97 {x : Int32} {l0 : Option Value} {l : eg_Lo} : wps rm K Q c_X_init_97 kc ks (l0 :: some (.int x) :: l) (st) h = wps rm K Q c_X_init_98 kc ks (l0 :: some (.int x) :: l) (.int x :: st) h := gk_iload rfl
theorem s_X_init_98  : wps rm K Q c_X_init_98 kc ks loc (st) h = wps rm K Q c_X_init_99 kc ks loc (.int (4) :: st) h := gk_ic (by decide)
theorem s_X_init_99 {x y : Int32} : wps rm K Q c_X_init_99 kc ks loc (.int y :: .int x :: st) h = ((y ≤ x → K 121 kc ks loc st h) ∧ (¬ y ≤ x → wps rm K Q c_X_init_102 kc ks loc (st) h)) := gk_if2_ge
theorem s_X_init_102 {x : Nat} {l : eg_Lo} : wps rm K Q c_X_init_102 kc ks (some (.ref x) :: l) (st) h = wps rm K Q c_X_init_103 kc ks (some (.ref x) :: l) (.ref x :: st) h := gk_aload rfl
theorem s_X_init_103 {x : Nat} : wps rm K Q c_X_init_103 kc ks loc (.ref (x + 1) :: st) h = eg_gf h x 11 0 (fun v => wps rm K Q c_X_init_106 kc ks loc (v :: st) h) := gk_gf
theorem s_X_init_106 {x : Int32} {l0 : Option Value} {l : eg_Lo} : wps rm K Q c_X_init_106 kc ks (l0 :: some (.int x) :: l) (st) h = wps rm K Q c_X_init_107 kc ks (l0 :: some (.int x) :: l) (.int x :: st) h := gk_iload rfl
theorem s_X_init_107  : wps rm K Q c_X_init_107 kc ks loc (st) h = (kc + 1 ≤ rm.cells ∧ ks + 5 ≤ rm.slots ∧ wps rm K Q c_X_init_110 (kc + 1) (ks + 5) loc (.ref (h.length + 1) :: st) (h ++ [.inr (8, eg_df 8)])) := gk_new
theorem s_X_init_110 {x : Nat} : wps rm K Q c_X_init_110 kc ks loc (.ref x :: st) h = wps rm K Q c_X_init_111 kc ks loc (.ref x :: .ref x :: st) h := gk_dup
theorem s_X_init_111  {x : Nat} : wps rm K Q c_X_init_111 kc ks loc (.ref (x + 1) :: st) h = (st.length ≤ 4 ∧ kc + 4 ≤ rm.cells ∧ ks + 64 ≤ rm.slots ∧ eg_Cs n_Part_init [.ref (x + 1)] h (fun v h9 => wps rm K Q c_X_init_114 (kc + 4) (ks + 64) loc (v.toList ++ st) h9)) := eg_c3_0
theorem s_X_init_114 {x v : Nat} {i : Int32} : wps rm K Q c_X_init_114 kc ks loc (.ref (v + 1) :: .int i :: .ref (x + 1) :: st) h = eg_as h x v i (fun h9 => wps rm K Q c_X_init_115 kc ks loc (st) h9) := gk_aastore
theorem s_X_init_115 {x : Int32} {l0 : Option Value} {lz : eg_Lo} : wps rm K Q c_X_init_115 kc ks (l0 :: some (.int x) :: lz) (st) h = wps rm K Q c_X_init_118 kc ks (eg_set1 (l0 :: some (.int x) :: lz) 1 (.int (x + (1)))) (st) h := gk_iinc rfl (by decide)
theorem s_X_init_118  : wps rm K Q c_X_init_118 kc ks loc (st) h = K 97 kc ks loc st h := gk_goto
theorem s_X_init_121  : wps rm K Q c_X_init_121 kc ks loc (st) h = wps rm K Q c_X_init_122 kc ks loc (.int (0) :: st) h := gk_ic (by decide)
theorem s_X_init_122 {x : Int32} : wps rm K Q c_X_init_122 kc ks loc (.int x :: st) h = wps rm K Q z_X_init_123 kc ks (eg_set1 loc 1 (.int x)) (st) h := gk_istore
theorem s_X_init_123 {x : Int32} {l0 : Option Value} {l : eg_Lo} : wps rm K Q c_X_init_123 kc ks (l0 :: some (.int x) :: l) (st) h = wps rm K Q c_X_init_124 kc ks (l0 :: some (.int x) :: l) (.int x :: st) h := gk_iload rfl
theorem s_X_init_124  : wps rm K Q c_X_init_124 kc ks loc (st) h = wps rm K Q c_X_init_125 kc ks loc (.int (4) :: st) h := gk_ic (by decide)
theorem s_X_init_125 {x y : Int32} : wps rm K Q c_X_init_125 kc ks loc (.int y :: .int x :: st) h = ((y ≤ x → K 147 kc ks loc st h) ∧ (¬ y ≤ x → wps rm K Q c_X_init_128 kc ks loc (st) h)) := gk_if2_ge
theorem s_X_init_128 {x : Nat} {l : eg_Lo} : wps rm K Q c_X_init_128 kc ks (some (.ref x) :: l) (st) h = wps rm K Q c_X_init_129 kc ks (some (.ref x) :: l) (.ref x :: st) h := gk_aload rfl
theorem s_X_init_129 {x : Nat} : wps rm K Q c_X_init_129 kc ks loc (.ref (x + 1) :: st) h = eg_gf h x 11 1 (fun v => wps rm K Q c_X_init_132 kc ks loc (v :: st) h) := gk_gf
theorem s_X_init_132 {x : Int32} {l0 : Option Value} {l : eg_Lo} : wps rm K Q c_X_init_132 kc ks (l0 :: some (.int x) :: l) (st) h = wps rm K Q c_X_init_133 kc ks (l0 :: some (.int x) :: l) (.int x :: st) h := gk_iload rfl
theorem s_X_init_133  : wps rm K Q c_X_init_133 kc ks loc (st) h = (kc + 1 ≤ rm.cells ∧ ks + 3 ≤ rm.slots ∧ wps rm K Q c_X_init_136 (kc + 1) (ks + 3) loc (.ref (h.length + 1) :: st) (h ++ [.inr (9, eg_df 9)])) := gk_new
theorem s_X_init_136 {x : Nat} : wps rm K Q c_X_init_136 kc ks loc (.ref x :: st) h = wps rm K Q c_X_init_137 kc ks loc (.ref x :: .ref x :: st) h := gk_dup
theorem s_X_init_137  {x : Nat} : wps rm K Q c_X_init_137 kc ks loc (.ref (x + 1) :: st) h = (st.length ≤ 4 ∧ kc + 1 ≤ rm.cells ∧ ks + 48 ≤ rm.slots ∧ eg_Cs n_Sheet_init [.ref (x + 1)] h (fun v h9 => wps rm K Q c_X_init_140 (kc + 1) (ks + 48) loc (v.toList ++ st) h9)) := eg_c3_0
theorem s_X_init_140 {x v : Nat} {i : Int32} : wps rm K Q c_X_init_140 kc ks loc (.ref (v + 1) :: .int i :: .ref (x + 1) :: st) h = eg_as h x v i (fun h9 => wps rm K Q c_X_init_141 kc ks loc (st) h9) := gk_aastore
theorem s_X_init_141 {x : Int32} {l0 : Option Value} {lz : eg_Lo} : wps rm K Q c_X_init_141 kc ks (l0 :: some (.int x) :: lz) (st) h = wps rm K Q c_X_init_144 kc ks (eg_set1 (l0 :: some (.int x) :: lz) 1 (.int (x + (1)))) (st) h := gk_iinc rfl (by decide)
theorem s_X_init_144  : wps rm K Q c_X_init_144 kc ks loc (st) h = K 123 kc ks loc st h := gk_goto
theorem s_X_init_147  : wps rm K Q c_X_init_147 kc ks loc (st) h = wps rm K Q c_X_init_148 kc ks loc (.int (0) :: st) h := gk_ic (by decide)
theorem s_X_init_148 {x : Int32} : wps rm K Q c_X_init_148 kc ks loc (.int x :: st) h = wps rm K Q z_X_init_149 kc ks (eg_set1 loc 1 (.int x)) (st) h := gk_istore
theorem s_X_init_149 {x : Int32} {l0 : Option Value} {l : eg_Lo} : wps rm K Q c_X_init_149 kc ks (l0 :: some (.int x) :: l) (st) h = wps rm K Q c_X_init_150 kc ks (l0 :: some (.int x) :: l) (.int x :: st) h := gk_iload rfl
theorem s_X_init_150  : wps rm K Q c_X_init_150 kc ks loc (st) h = wps rm K Q c_X_init_152 kc ks loc (.int (6) :: st) h := gk_ic (by decide)
theorem s_X_init_152 {x y : Int32} : wps rm K Q c_X_init_152 kc ks loc (.int y :: .int x :: st) h = ((y ≤ x → K 174 kc ks loc st h) ∧ (¬ y ≤ x → wps rm K Q c_X_init_155 kc ks loc (st) h)) := gk_if2_ge
theorem s_X_init_155 {x : Nat} {l : eg_Lo} : wps rm K Q c_X_init_155 kc ks (some (.ref x) :: l) (st) h = wps rm K Q c_X_init_156 kc ks (some (.ref x) :: l) (.ref x :: st) h := gk_aload rfl
theorem s_X_init_156 {x : Nat} : wps rm K Q c_X_init_156 kc ks loc (.ref (x + 1) :: st) h = eg_gf h x 11 2 (fun v => wps rm K Q c_X_init_159 kc ks loc (v :: st) h) := gk_gf
theorem s_X_init_159 {x : Int32} {l0 : Option Value} {l : eg_Lo} : wps rm K Q c_X_init_159 kc ks (l0 :: some (.int x) :: l) (st) h = wps rm K Q c_X_init_160 kc ks (l0 :: some (.int x) :: l) (.int x :: st) h := gk_iload rfl
theorem s_X_init_160  : wps rm K Q c_X_init_160 kc ks loc (st) h = (kc + 1 ≤ rm.cells ∧ ks + 7 ≤ rm.slots ∧ wps rm K Q c_X_init_163 (kc + 1) (ks + 7) loc (.ref (h.length + 1) :: st) (h ++ [.inr (2, eg_df 2)])) := gk_new
theorem s_X_init_163 {x : Nat} : wps rm K Q c_X_init_163 kc ks loc (.ref x :: st) h = wps rm K Q c_X_init_164 kc ks loc (.ref x :: .ref x :: st) h := gk_dup
theorem s_X_init_164  {x : Nat} : wps rm K Q c_X_init_164 kc ks loc (.ref (x + 1) :: st) h = (st.length ≤ 4 ∧ kc + 5 ≤ rm.cells ∧ ks + 15 ≤ rm.slots ∧ eg_Cs n_Fig_init [.ref (x + 1)] h (fun v h9 => wps rm K Q c_X_init_167 (kc + 5) (ks + 15) loc (v.toList ++ st) h9)) := eg_c3_0
theorem s_X_init_167 {x v : Nat} {i : Int32} : wps rm K Q c_X_init_167 kc ks loc (.ref (v + 1) :: .int i :: .ref (x + 1) :: st) h = eg_as h x v i (fun h9 => wps rm K Q c_X_init_168 kc ks loc (st) h9) := gk_aastore
theorem s_X_init_168 {x : Int32} {l0 : Option Value} {lz : eg_Lo} : wps rm K Q c_X_init_168 kc ks (l0 :: some (.int x) :: lz) (st) h = wps rm K Q c_X_init_171 kc ks (eg_set1 (l0 :: some (.int x) :: lz) 1 (.int (x + (1)))) (st) h := gk_iinc rfl (by decide)
theorem s_X_init_171  : wps rm K Q c_X_init_171 kc ks loc (st) h = K 149 kc ks loc st h := gk_goto
theorem s_X_init_174  : wps rm K Q c_X_init_174 kc ks loc ([]) h = (kc = rm.cells ∧ Q none h) := gk_vret
theorem sz_X_init_97 : wps rm K Q z_X_init_97 kc ks loc st h = K 97 kc ks loc st h := gk_nop
theorem sz_X_init_123 : wps rm K Q z_X_init_123 kc ks loc st h = K 123 kc ks loc st h := gk_nop
theorem sz_X_init_149 : wps rm K Q z_X_init_149 kc ks loc st h = K 149 kc ks loc st h := gk_nop
def T_X_init : List (Nat × List eg_I) := [(121, c_X_init_121), (147, c_X_init_147), (174, c_X_init_174)]
theorem j_X_init_121 {R : Nat → Nat → Nat → eg_Lo → List Value → List eg_E → Prop} {f pc0 : Nat} : eg_run rm R Q T_X_init (f + 1) 121 kc ks loc st h = wps rm (eg_run rm R Q T_X_init f) Q c_X_init_121 kc ks loc st h := rfl
theorem j_X_init_147 {R : Nat → Nat → Nat → eg_Lo → List Value → List eg_E → Prop} {f pc0 : Nat} : eg_run rm R Q T_X_init (f + 1) 147 kc ks loc st h = wps rm (eg_run rm R Q T_X_init f) Q c_X_init_147 kc ks loc st h := rfl
theorem j_X_init_174 {R : Nat → Nat → Nat → eg_Lo → List Value → List eg_E → Prop} {f pc0 : Nat} : eg_run rm R Q T_X_init (f + 1) 174 kc ks loc st h = wps rm (eg_run rm R Q T_X_init f) Q c_X_init_174 kc ks loc st h := rfl
theorem j_X_init_97 {R : Nat → Nat → Nat → eg_Lo → List Value → List eg_E → Prop} {f pc0 : Nat} : eg_run rm R Q T_X_init (f + 1) 97 kc ks loc st h = R 97 kc ks loc st h := rfl
theorem j_X_init_123 {R : Nat → Nat → Nat → eg_Lo → List Value → List eg_E → Prop} {f pc0 : Nat} : eg_run rm R Q T_X_init (f + 1) 123 kc ks loc st h = R 123 kc ks loc st h := rfl
theorem j_X_init_149 {R : Nat → Nat → Nat → eg_Lo → List Value → List eg_E → Prop} {f pc0 : Nat} : eg_run rm R Q T_X_init (f + 1) 149 kc ks loc st h = R 149 kc ks loc st h := rfl
end
theorem y_X_init_0 : eg_seq m_X_init 0 c_X_init_0 = true := by decide +kernel
theorem y_X_init_97 : eg_seq m_X_init 97 c_X_init_97 = true := by decide +kernel
theorem y_X_init_121 : eg_seq m_X_init 121 c_X_init_121 = true := by decide +kernel
theorem y_X_init_123 : eg_seq m_X_init 123 c_X_init_123 = true := by decide +kernel
theorem y_X_init_147 : eg_seq m_X_init 147 c_X_init_147 = true := by decide +kernel
theorem y_X_init_149 : eg_seq m_X_init 149 c_X_init_149 = true := by decide +kernel
theorem y_X_init_174 : eg_seq m_X_init 174 c_X_init_174 = true := by decide +kernel
theorem q_X_init : ∀ q ∈ T_X_init, eg_seq m_X_init q.1 q.2 = true := by
  intro q hq
  simp only [T_X_init, List.mem_cons, List.not_mem_nil, or_false] at hq
  rcases hq with rfl | rfl | rfl
  · exact y_X_init_121
  · exact y_X_init_147
  · exact y_X_init_174
theorem b_X_init {as : List Value} {h : List eg_E} {Q : Option Value → List eg_E → Prop} (hf : (eg_fl as).length ≤ 2) (hw : wps (eg_rm m_X_init) (eg_run (eg_rm m_X_init) (eg_R m_X_init Q (h.length + 94)) Q T_X_init 5) Q c_X_init_0 0 0 (eg_entry 2 as) [] h) : eg_Runs n_X_init as h Q := eg_begin2 (d := m_X_init) rfl (by decide) y_X_init_0 q_X_init hf hw
theorem p_X_init_97 {Q : Option Value → List eg_E → Prop} {n0 kc ks : Nat} {loc : eg_Lo} {st : List Value} {h : List eg_E} (hw : wps (eg_rm m_X_init) (eg_run (eg_rm m_X_init) (eg_R m_X_init Q n0) Q T_X_init 5) Q c_X_init_97 kc ks loc st h) : eg_R m_X_init Q n0 97 kc ks loc st h := eg_go2 y_X_init_97 q_X_init hw
theorem p_X_init_123 {Q : Option Value → List eg_E → Prop} {n0 kc ks : Nat} {loc : eg_Lo} {st : List Value} {h : List eg_E} (hw : wps (eg_rm m_X_init) (eg_run (eg_rm m_X_init) (eg_R m_X_init Q n0) Q T_X_init 5) Q c_X_init_123 kc ks loc st h) : eg_R m_X_init Q n0 123 kc ks loc st h := eg_go2 y_X_init_123 q_X_init hw
theorem p_X_init_149 {Q : Option Value → List eg_E → Prop} {n0 kc ks : Nat} {loc : eg_Lo} {st : List Value} {h : List eg_E} (hw : wps (eg_rm m_X_init) (eg_run (eg_rm m_X_init) (eg_R m_X_init Q n0) Q T_X_init 5) Q c_X_init_149 kc ks loc st h) : eg_R m_X_init Q n0 149 kc ks loc st h := eg_go2 y_X_init_149 q_X_init hw
/-! ===== X_point ===== -/
def c_X_point_72 : List eg_I := .inl (72, 1, .lreturn, 0, 0) :: []
def c_X_point_71 : List eg_I := .inl (71, 1, .i2l, 0, 0) :: c_X_point_72
def c_X_point_68 : List eg_I := .inr (68, 1, 96, n_Part_add, 3, 8, 0, 0) :: c_X_point_71
def c_X_point_66 : List eg_I := .inl (66, 2, .iload 4, 0, 0) :: c_X_point_68
def c_X_point_65 : List eg_I := .inl (65, 1, .iload 3, 0, 0) :: c_X_point_66
def c_X_point_64 : List eg_I := .inl (64, 1, .iload 2, 0, 0) :: c_X_point_65
def c_X_point_63 : List eg_I := .inl (63, 1, .aaload, 0, 0) :: c_X_point_64
def c_X_point_62 : List eg_I := .inl (62, 1, .iload 1, 0, 0) :: c_X_point_63
def c_X_point_59 : List eg_I := .inl (59, 3, .getfield 11, 11, 0) :: c_X_point_62
def c_X_point_58 : List eg_I := .inl (58, 1, .aload 0, 0, 0) :: c_X_point_59
def c_X_point_57 : List eg_I := .inl (57, 1, .lreturn, 0, 0) :: []
def c_X_point_54 : List eg_I := .inr (54, 1, 86, n_X_found, 1, 11, 0, 0) :: c_X_point_57
def c_X_point_51 : List eg_I := .inl (51, 3, .sipush (-1000000000000000005), 94, 0) :: c_X_point_54
def c_X_point_50 : List eg_I := .inl (50, 1, .aload 0, 0, 0) :: c_X_point_51
def c_X_point_47 : List eg_I := .inl (47, 3, .if_icmp .ge (11), 58, 0) :: c_X_point_50
def c_X_point_46 : List eg_I := .inl (46, 1, .iconst (1), 0, 0) :: c_X_point_47
def c_X_point_43 : List eg_I := .inr (43, 1, 90, n_Part_room, 0, 8, 0, 0) :: c_X_point_46
def c_X_point_42 : List eg_I := .inl (42, 1, .aaload, 0, 0) :: c_X_point_43
def c_X_point_41 : List eg_I := .inl (41, 1, .iload 1, 0, 0) :: c_X_point_42
def c_X_point_38 : List eg_I := .inl (38, 3, .getfield 11, 11, 0) :: c_X_point_41
def c_X_point_37 : List eg_I := .inl (37, 1, .aload 0, 0, 0) :: c_X_point_38
def c_X_point_36 : List eg_I := .inl (36, 1, .lreturn, 0, 0) :: []
def c_X_point_33 : List eg_I := .inr (33, 1, 86, n_X_found, 1, 11, 0, 0) :: c_X_point_36
def c_X_point_30 : List eg_I := .inl (30, 3, .sipush (-1000000000000000001), 84, 0) :: c_X_point_33
def c_X_point_29 : List eg_I := .inl (29, 1, .aload 0, 0, 0) :: c_X_point_30
def c_X_point_26 : List eg_I := .inl (26, 3, .ifCond .ne (11), 37, 0) :: c_X_point_29
def c_X_point_23 : List eg_I := .inr (23, 0, 80, n_X_isWithin, 3, 11, 0, 0) :: c_X_point_26
def c_X_point_20 : List eg_I := .inl (20, 3, .iconst (300), 0, 0) :: c_X_point_23
def c_X_point_17 : List eg_I := .inl (17, 3, .iconst (-300), 0, 0) :: c_X_point_20
def c_X_point_15 : List eg_I := .inl (15, 2, .iload 4, 0, 0) :: c_X_point_17
def c_X_point_12 : List eg_I := .inl (12, 3, .ifCond .eq (17), 29, 0) :: c_X_point_15
def c_X_point_9 : List eg_I := .inr (9, 0, 76, n_X_isPlace, 2, 11, 0, 0) :: c_X_point_12
def c_X_point_8 : List eg_I := .inl (8, 1, .iload 3, 0, 0) :: c_X_point_9
def c_X_point_7 : List eg_I := .inl (7, 1, .iload 2, 0, 0) :: c_X_point_8
def c_X_point_4 : List eg_I := .inl (4, 3, .ifCond .eq (25), 29, 0) :: c_X_point_7
def c_X_point_1 : List eg_I := .inr (1, 0, 72, n_X_isPart, 1, 11, 0, 0) :: c_X_point_4
def c_X_point_0 : List eg_I := .inl (0, 1, .iload 1, 0, 0) :: c_X_point_1
section
variable {rm : Room} {K : Nat → Nat → Nat → eg_Lo → List Value → List eg_E → Prop} {Q : Option Value → List eg_E → Prop} {kc ks : Nat} {loc : eg_Lo} {st : List Value} {h : List eg_E}
theorem s_X_point_0 {x : Int32} {l0 : Option Value} {l : eg_Lo} : wps rm K Q c_X_point_0 kc ks (l0 :: some (.int x) :: l) (st) h = wps rm K Q c_X_point_1 kc ks (l0 :: some (.int x) :: l) (.int x :: st) h := gk_iload rfl
theorem s_X_point_1  {a1 : Value} : wps rm K Q c_X_point_1 kc ks loc (a1 :: st) h = (st.length ≤ 4 ∧ eg_Cs n_X_isPart [a1] h (fun v h9 => wps rm K Q c_X_point_4 kc ks loc (v.toList ++ st) h9)) := eg_c0_1
theorem s_X_point_4 {x : Int32} : wps rm K Q c_X_point_4 kc ks loc (.int x :: st) h = ((x = 0 → K 29 kc ks loc st h) ∧ (¬ x = 0 → wps rm K Q c_X_point_7 kc ks loc (st) h)) := gk_if1_eq
theorem s_X_point_7 {x : Int32} {l0 l1 : Option Value} {l : eg_Lo} : wps rm K Q c_X_point_7 kc ks (l0 :: l1 :: some (.int x) :: l) (st) h = wps rm K Q c_X_point_8 kc ks (l0 :: l1 :: some (.int x) :: l) (.int x :: st) h := gk_iload rfl
theorem s_X_point_8 {x : Int32} {l0 l1 l2 : Option Value} {l : eg_Lo} : wps rm K Q c_X_point_8 kc ks (l0 :: l1 :: l2 :: some (.int x) :: l) (st) h = wps rm K Q c_X_point_9 kc ks (l0 :: l1 :: l2 :: some (.int x) :: l) (.int x :: st) h := gk_iload rfl
theorem s_X_point_9  {a1 : Value} {a2 : Value} : wps rm K Q c_X_point_9 kc ks loc (a2 :: a1 :: st) h = (st.length ≤ 4 ∧ eg_Cs n_X_isPlace [a1, a2] h (fun v h9 => wps rm K Q c_X_point_12 kc ks loc (v.toList ++ st) h9)) := eg_c0_2
theorem s_X_point_12 {x : Int32} : wps rm K Q c_X_point_12 kc ks loc (.int x :: st) h = ((x = 0 → K 29 kc ks loc st h) ∧ (¬ x = 0 → wps rm K Q c_X_point_15 kc ks loc (st) h)) := gk_if1_eq
theorem s_X_point_15 {x : Int32} {l0 l1 l2 l3 : Option Value} {l : eg_Lo} : wps rm K Q c_X_point_15 kc ks (l0 :: l1 :: l2 :: l3 :: some (.int x) :: l) (st) h = wps rm K Q c_X_point_17 kc ks (l0 :: l1 :: l2 :: l3 :: some (.int x) :: l) (.int x :: st) h := gk_iload rfl
theorem s_X_point_17  : wps rm K Q c_X_point_17 kc ks loc (st) h = wps rm K Q c_X_point_20 kc ks loc (.int (-300) :: st) h := gk_ic (by decide)
theorem s_X_point_20  : wps rm K Q c_X_point_20 kc ks loc (st) h = wps rm K Q c_X_point_23 kc ks loc (.int (300) :: st) h := gk_ic (by decide)
theorem s_X_point_23  {a1 : Value} {a2 : Value} {a3 : Value} : wps rm K Q c_X_point_23 kc ks loc (a3 :: a2 :: a1 :: st) h = (st.length ≤ 4 ∧ eg_Cs n_X_isWithin [a1, a2, a3] h (fun v h9 => wps rm K Q c_X_point_26 kc ks loc (v.toList ++ st) h9)) := eg_c0_3
theorem s_X_point_26 {x : Int32} : wps rm K Q c_X_point_26 kc ks loc (.int x :: st) h = ((¬ x = 0 → K 37 kc ks loc st h) ∧ (x = 0 → wps rm K Q c_X_point_29 kc ks loc (st) h)) := gk_if1_ne
theorem s_X_point_29 {x : Nat} {l : eg_Lo} : wps rm K Q c_X_point_29 kc ks (some (.ref x) :: l) (st) h = wps rm K Q c_X_point_30 kc ks (some (.ref x) :: l) (.ref x :: st) h := gk_aload rfl
theorem s_X_point_30  : wps rm K Q c_X_point_30 kc ks loc (st) h = wps rm K Q c_X_point_33 kc ks loc (.long (-1000000000000000001) :: st) h := gk_lc (by decide)
theorem s_X_point_33  {a1 : Value} {x : Nat} : wps rm K Q c_X_point_33 kc ks loc (a1 :: .ref (x + 1) :: st) h = (eg_cls h x 11 ∧ st.length ≤ 4 ∧ eg_Cs n_X_found (.ref (x + 1) :: [a1]) h (fun v h9 => wps rm K Q c_X_point_36 kc ks loc (v.toList ++ st) h9)) := eg_c1_1
theorem s_X_point_36 {x : Int64} : wps rm K Q c_X_point_36 kc ks loc ([.long x]) h = (kc = rm.cells ∧ Q (some (.long x)) h) := gk_lret
theorem s_X_point_37 {x : Nat} {l : eg_Lo} : wps rm K Q c_X_point_37 kc ks (some (.ref x) :: l) (st) h = wps rm K Q c_X_point_38 kc ks (some (.ref x) :: l) (.ref x :: st) h := gk_aload rfl
theorem s_X_point_38 {x : Nat} : wps rm K Q c_X_point_38 kc ks loc (.ref (x + 1) :: st) h = eg_gf h x 11 0 (fun v => wps rm K Q c_X_point_41 kc ks loc (v :: st) h) := gk_gf
theorem s_X_point_41 {x : Int32} {l0 : Option Value} {l : eg_Lo} : wps rm K Q c_X_point_41 kc ks (l0 :: some (.int x) :: l) (st) h = wps rm K Q c_X_point_42 kc ks (l0 :: some (.int x) :: l) (.int x :: st) h := gk_iload rfl
theorem s_X_point_42 {x : Nat} {i : Int32} : wps rm K Q c_X_point_42 kc ks loc (.int i :: .ref (x + 1) :: st) h = eg_aa h x i (fun v => wps rm K Q c_X_point_43 kc ks loc (v :: st) h) := gk_aaload
theorem s_X_point_43  {x : Nat} : wps rm K Q c_X_point_43 kc ks loc (.ref (x + 1) :: st) h = (eg_cls h x 8 ∧ st.length ≤ 4 ∧ eg_Cs n_Part_room (.ref (x + 1) :: []) h (fun v h9 => wps rm K Q c_X_point_46 kc ks loc (v.toList ++ st) h9)) := eg_c1_0
theorem s_X_point_46  : wps rm K Q c_X_point_46 kc ks loc (st) h = wps rm K Q c_X_point_47 kc ks loc (.int (1) :: st) h := gk_ic (by decide)
theorem s_X_point_47 {x y : Int32} : wps rm K Q c_X_point_47 kc ks loc (.int y :: .int x :: st) h = ((y ≤ x → K 58 kc ks loc st h) ∧ (¬ y ≤ x → wps rm K Q c_X_point_50 kc ks loc (st) h)) := gk_if2_ge
theorem s_X_point_50 {x : Nat} {l : eg_Lo} : wps rm K Q c_X_point_50 kc ks (some (.ref x) :: l) (st) h = wps rm K Q c_X_point_51 kc ks (some (.ref x) :: l) (.ref x :: st) h := gk_aload rfl
theorem s_X_point_51  : wps rm K Q c_X_point_51 kc ks loc (st) h = wps rm K Q c_X_point_54 kc ks loc (.long (-1000000000000000005) :: st) h := gk_lc (by decide)
theorem s_X_point_54  {a1 : Value} {x : Nat} : wps rm K Q c_X_point_54 kc ks loc (a1 :: .ref (x + 1) :: st) h = (eg_cls h x 11 ∧ st.length ≤ 4 ∧ eg_Cs n_X_found (.ref (x + 1) :: [a1]) h (fun v h9 => wps rm K Q c_X_point_57 kc ks loc (v.toList ++ st) h9)) := eg_c1_1
theorem s_X_point_57 {x : Int64} : wps rm K Q c_X_point_57 kc ks loc ([.long x]) h = (kc = rm.cells ∧ Q (some (.long x)) h) := gk_lret
theorem s_X_point_58 {x : Nat} {l : eg_Lo} : wps rm K Q c_X_point_58 kc ks (some (.ref x) :: l) (st) h = wps rm K Q c_X_point_59 kc ks (some (.ref x) :: l) (.ref x :: st) h := gk_aload rfl
theorem s_X_point_59 {x : Nat} : wps rm K Q c_X_point_59 kc ks loc (.ref (x + 1) :: st) h = eg_gf h x 11 0 (fun v => wps rm K Q c_X_point_62 kc ks loc (v :: st) h) := gk_gf
theorem s_X_point_62 {x : Int32} {l0 : Option Value} {l : eg_Lo} : wps rm K Q c_X_point_62 kc ks (l0 :: some (.int x) :: l) (st) h = wps rm K Q c_X_point_63 kc ks (l0 :: some (.int x) :: l) (.int x :: st) h := gk_iload rfl
theorem s_X_point_63 {x : Nat} {i : Int32} : wps rm K Q c_X_point_63 kc ks loc (.int i :: .ref (x + 1) :: st) h = eg_aa h x i (fun v => wps rm K Q c_X_point_64 kc ks loc (v :: st) h) := gk_aaload
theorem s_X_point_64 {x : Int32} {l0 l1 : Option Value} {l : eg_Lo} : wps rm K Q c_X_point_64 kc ks (l0 :: l1 :: some (.int x) :: l) (st) h = wps rm K Q c_X_point_65 kc ks (l0 :: l1 :: some (.int x) :: l) (.int x :: st) h := gk_iload rfl
theorem s_X_point_65 {x : Int32} {l0 l1 l2 : Option Value} {l : eg_Lo} : wps rm K Q c_X_point_65 kc ks (l0 :: l1 :: l2 :: some (.int x) :: l) (st) h = wps rm K Q c_X_point_66 kc ks (l0 :: l1 :: l2 :: some (.int x) :: l) (.int x :: st) h := gk_iload rfl
theorem s_X_point_66 {x : Int32} {l0 l1 l2 l3 : Option Value} {l : eg_Lo} : wps rm K Q c_X_point_66 kc ks (l0 :: l1 :: l2 :: l3 :: some (.int x) :: l) (st) h = wps rm K Q c_X_point_68 kc ks (l0 :: l1 :: l2 :: l3 :: some (.int x) :: l) (.int x :: st) h := gk_iload rfl
theorem s_X_point_68  {a1 : Value} {a2 : Value} {a3 : Value} {x : Nat} : wps rm K Q c_X_point_68 kc ks loc (a3 :: a2 :: a1 :: .ref (x + 1) :: st) h = (eg_cls h x 8 ∧ st.length ≤ 4 ∧ eg_Cs n_Part_add (.ref (x + 1) :: [a1, a2, a3]) h (fun v h9 => wps rm K Q c_X_point_71 kc ks loc (v.toList ++ st) h9)) := eg_c1_3
theorem s_X_point_71 {x : Int32} : wps rm K Q c_X_point_71 kc ks loc (.int x :: st) h = wps rm K Q c_X_point_72 kc ks loc (.long (x.toInt64) :: st) h := gk_i2l
theorem s_X_point_72 {x : Int64} : wps rm K Q c_X_point_72 kc ks loc ([.long x]) h = (kc = rm.cells ∧ Q (some (.long x)) h) := gk_lret
def T_X_point : List (Nat × List eg_I) := [(29, c_X_point_29), (37, c_X_point_37), (58, c_X_point_58)]
theorem j_X_point_29 {R : Nat → Nat → Nat → eg_Lo → List Value → List eg_E → Prop} {f pc0 : Nat} : eg_run rm R Q T_X_point (f + 1) 29 kc ks loc st h = wps rm (eg_run rm R Q T_X_point f) Q c_X_point_29 kc ks loc st h := rfl
theorem j_X_point_37 {R : Nat → Nat → Nat → eg_Lo → List Value → List eg_E → Prop} {f pc0 : Nat} : eg_run rm R Q T_X_point (f + 1) 37 kc ks loc st h = wps rm (eg_run rm R Q T_X_point f) Q c_X_point_37 kc ks loc st h := rfl
theorem j_X_point_58 {R : Nat → Nat → Nat → eg_Lo → List Value → List eg_E → Prop} {f pc0 : Nat} : eg_run rm R Q T_X_point (f + 1) 58 kc ks loc st h = wps rm (eg_run rm R Q T_X_point f) Q c_X_point_58 kc ks loc st h := rfl
end
theorem y_X_point_0 : eg_seq m_X_point 0 c_X_point_0 = true := by decide +kernel
theorem y_X_point_37 : eg_seq m_X_point 37 c_X_point_37 = true := by decide +kernel
theorem y_X_point_58 : eg_seq m_X_point 58 c_X_point_58 = true := by decide +kernel
theorem q_X_point : ∀ q ∈ T_X_point, eg_seq m_X_point q.1 q.2 = true := by
  intro q hq
  simp only [T_X_point, List.mem_cons, List.not_mem_nil, or_false] at hq
  rcases hq with rfl | rfl | rfl
  · exact (eg_seq_drop y_X_point_0 12 : eg_seq m_X_point 29 c_X_point_29 = true)
  · exact y_X_point_37
  · exact y_X_point_58
theorem b_X_point {as : List Value} {h : List eg_E} {Q : Option Value → List eg_E → Prop} (hf : (eg_fl as).length ≤ 5) (hw : wps (eg_rm m_X_point) (eg_run (eg_rm m_X_point) (eg_R m_X_point Q (h.length + 0)) Q T_X_point 5) Q c_X_point_0 0 0 (eg_entry 5 as) [] h) : eg_Runs n_X_point as h Q := eg_begin2 (d := m_X_point) rfl (by decide) y_X_point_0 q_X_point hf hw
/-! ===== X_miss ===== -/
def c_X_miss_46 : List eg_I := .inl (46, 1, .lreturn, 0, 0) :: []
def c_X_miss_45 : List eg_I := .inl (45, 1, .i2l, 0, 0) :: c_X_miss_46
def c_X_miss_42 : List eg_I := .inr (42, 1, 100, n_Part_addMissed, 0, 8, 0, 0) :: c_X_miss_45
def c_X_miss_41 : List eg_I := .inl (41, 1, .aaload, 0, 0) :: c_X_miss_42
def c_X_miss_40 : List eg_I := .inl (40, 1, .iload 1, 0, 0) :: c_X_miss_41
def c_X_miss_37 : List eg_I := .inl (37, 3, .getfield 11, 11, 0) :: c_X_miss_40
def c_X_miss_36 : List eg_I := .inl (36, 1, .aload 0, 0, 0) :: c_X_miss_37
def c_X_miss_35 : List eg_I := .inl (35, 1, .lreturn, 0, 0) :: []
def c_X_miss_32 : List eg_I := .inr (32, 1, 86, n_X_found, 1, 11, 0, 0) :: c_X_miss_35
def c_X_miss_29 : List eg_I := .inl (29, 3, .sipush (-1000000000000000005), 94, 0) :: c_X_miss_32
def c_X_miss_28 : List eg_I := .inl (28, 1, .aload 0, 0, 0) :: c_X_miss_29
def c_X_miss_25 : List eg_I := .inl (25, 3, .if_icmp .ge (11), 36, 0) :: c_X_miss_28
def c_X_miss_24 : List eg_I := .inl (24, 1, .iconst (1), 0, 0) :: c_X_miss_25
def c_X_miss_21 : List eg_I := .inr (21, 1, 90, n_Part_room, 0, 8, 0, 0) :: c_X_miss_24
def c_X_miss_20 : List eg_I := .inl (20, 1, .aaload, 0, 0) :: c_X_miss_21
def c_X_miss_19 : List eg_I := .inl (19, 1, .iload 1, 0, 0) :: c_X_miss_20
def c_X_miss_16 : List eg_I := .inl (16, 3, .getfield 11, 11, 0) :: c_X_miss_19
def c_X_miss_15 : List eg_I := .inl (15, 1, .aload 0, 0, 0) :: c_X_miss_16
def c_X_miss_14 : List eg_I := .inl (14, 1, .lreturn, 0, 0) :: []
def c_X_miss_11 : List eg_I := .inr (11, 1, 86, n_X_found, 1, 11, 0, 0) :: c_X_miss_14
def c_X_miss_8 : List eg_I := .inl (8, 3, .sipush (-1000000000000000001), 84, 0) :: c_X_miss_11
def c_X_miss_7 : List eg_I := .inl (7, 1, .aload 0, 0, 0) :: c_X_miss_8
def c_X_miss_4 : List eg_I := .inl (4, 3, .ifCond .ne (11), 15, 0) :: c_X_miss_7
def c_X_miss_1 : List eg_I := .inr (1, 0, 72, n_X_isPart, 1, 11, 0, 0) :: c_X_miss_4
def c_X_miss_0 : List eg_I := .inl (0, 1, .iload 1, 0, 0) :: c_X_miss_1
section
variable {rm : Room} {K : Nat → Nat → Nat → eg_Lo → List Value → List eg_E → Prop} {Q : Option Value → List eg_E → Prop} {kc ks : Nat} {loc : eg_Lo} {st : List Value} {h : List eg_E}
theorem s_X_miss_0 {x : Int32} {l0 : Option Value} {l : eg_Lo} : wps rm K Q c_X_miss_0 kc ks (l0 :: some (.int x) :: l) (st) h = wps rm K Q c_X_miss_1 kc ks (l0 :: some (.int x) :: l) (.int x :: st) h := gk_iload rfl
theorem s_X_miss_1  {a1 : Value} : wps rm K Q c_X_miss_1 kc ks loc (a1 :: st) h = (st.length ≤ 4 ∧ eg_Cs n_X_isPart [a1] h (fun v h9 => wps rm K Q c_X_miss_4 kc ks loc (v.toList ++ st) h9)) := eg_c0_1
theorem s_X_miss_4 {x : Int32} : wps rm K Q c_X_miss_4 kc ks loc (.int x :: st) h = ((¬ x = 0 → K 15 kc ks loc st h) ∧ (x = 0 → wps rm K Q c_X_miss_7 kc ks loc (st) h)) := gk_if1_ne
theorem s_X_miss_7 {x : Nat} {l : eg_Lo} : wps rm K Q c_X_miss_7 kc ks (some (.ref x) :: l) (st) h = wps rm K Q c_X_miss_8 kc ks (some (.ref x) :: l) (.ref x :: st) h := gk_aload rfl
theorem s_X_miss_8  : wps rm K Q c_X_miss_8 kc ks loc (st) h = wps rm K Q c_X_miss_11 kc ks loc (.long (-1000000000000000001) :: st) h := gk_lc (by decide)
theorem s_X_miss_11  {a1 : Value} {x : Nat} : wps rm K Q c_X_miss_11 kc ks loc (a1 :: .ref (x + 1) :: st) h = (eg_cls h x 11 ∧ st.length ≤ 4 ∧ eg_Cs n_X_found (.ref (x + 1) :: [a1]) h (fun v h9 => wps rm K Q c_X_miss_14 kc ks loc (v.toList ++ st) h9)) := eg_c1_1
theorem s_X_miss_14 {x : Int64} : wps rm K Q c_X_miss_14 kc ks loc ([.long x]) h = (kc = rm.cells ∧ Q (some (.long x)) h) := gk_lret
theorem s_X_miss_15 {x : Nat} {l : eg_Lo} : wps rm K Q c_X_miss_15 kc ks (some (.ref x) :: l) (st) h = wps rm K Q c_X_miss_16 kc ks (some (.ref x) :: l) (.ref x :: st) h := gk_aload rfl
theorem s_X_miss_16 {x : Nat} : wps rm K Q c_X_miss_16 kc ks loc (.ref (x + 1) :: st) h = eg_gf h x 11 0 (fun v => wps rm K Q c_X_miss_19 kc ks loc (v :: st) h) := gk_gf
theorem s_X_miss_19 {x : Int32} {l0 : Option Value} {l : eg_Lo} : wps rm K Q c_X_miss_19 kc ks (l0 :: some (.int x) :: l) (st) h = wps rm K Q c_X_miss_20 kc ks (l0 :: some (.int x) :: l) (.int x :: st) h := gk_iload rfl
theorem s_X_miss_20 {x : Nat} {i : Int32} : wps rm K Q c_X_miss_20 kc ks loc (.int i :: .ref (x + 1) :: st) h = eg_aa h x i (fun v => wps rm K Q c_X_miss_21 kc ks loc (v :: st) h) := gk_aaload
theorem s_X_miss_21  {x : Nat} : wps rm K Q c_X_miss_21 kc ks loc (.ref (x + 1) :: st) h = (eg_cls h x 8 ∧ st.length ≤ 4 ∧ eg_Cs n_Part_room (.ref (x + 1) :: []) h (fun v h9 => wps rm K Q c_X_miss_24 kc ks loc (v.toList ++ st) h9)) := eg_c1_0
theorem s_X_miss_24  : wps rm K Q c_X_miss_24 kc ks loc (st) h = wps rm K Q c_X_miss_25 kc ks loc (.int (1) :: st) h := gk_ic (by decide)
theorem s_X_miss_25 {x y : Int32} : wps rm K Q c_X_miss_25 kc ks loc (.int y :: .int x :: st) h = ((y ≤ x → K 36 kc ks loc st h) ∧ (¬ y ≤ x → wps rm K Q c_X_miss_28 kc ks loc (st) h)) := gk_if2_ge
theorem s_X_miss_28 {x : Nat} {l : eg_Lo} : wps rm K Q c_X_miss_28 kc ks (some (.ref x) :: l) (st) h = wps rm K Q c_X_miss_29 kc ks (some (.ref x) :: l) (.ref x :: st) h := gk_aload rfl
theorem s_X_miss_29  : wps rm K Q c_X_miss_29 kc ks loc (st) h = wps rm K Q c_X_miss_32 kc ks loc (.long (-1000000000000000005) :: st) h := gk_lc (by decide)
theorem s_X_miss_32  {a1 : Value} {x : Nat} : wps rm K Q c_X_miss_32 kc ks loc (a1 :: .ref (x + 1) :: st) h = (eg_cls h x 11 ∧ st.length ≤ 4 ∧ eg_Cs n_X_found (.ref (x + 1) :: [a1]) h (fun v h9 => wps rm K Q c_X_miss_35 kc ks loc (v.toList ++ st) h9)) := eg_c1_1
theorem s_X_miss_35 {x : Int64} : wps rm K Q c_X_miss_35 kc ks loc ([.long x]) h = (kc = rm.cells ∧ Q (some (.long x)) h) := gk_lret
theorem s_X_miss_36 {x : Nat} {l : eg_Lo} : wps rm K Q c_X_miss_36 kc ks (some (.ref x) :: l) (st) h = wps rm K Q c_X_miss_37 kc ks (some (.ref x) :: l) (.ref x :: st) h := gk_aload rfl
theorem s_X_miss_37 {x : Nat} : wps rm K Q c_X_miss_37 kc ks loc (.ref (x + 1) :: st) h = eg_gf h x 11 0 (fun v => wps rm K Q c_X_miss_40 kc ks loc (v :: st) h) := gk_gf
theorem s_X_miss_40 {x : Int32} {l0 : Option Value} {l : eg_Lo} : wps rm K Q c_X_miss_40 kc ks (l0 :: some (.int x) :: l) (st) h = wps rm K Q c_X_miss_41 kc ks (l0 :: some (.int x) :: l) (.int x :: st) h := gk_iload rfl
theorem s_X_miss_41 {x : Nat} {i : Int32} : wps rm K Q c_X_miss_41 kc ks loc (.int i :: .ref (x + 1) :: st) h = eg_aa h x i (fun v => wps rm K Q c_X_miss_42 kc ks loc (v :: st) h) := gk_aaload
theorem s_X_miss_42  {x : Nat} : wps rm K Q c_X_miss_42 kc ks loc (.ref (x + 1) :: st) h = (eg_cls h x 8 ∧ st.length ≤ 4 ∧ eg_Cs n_Part_addMissed (.ref (x + 1) :: []) h (fun v h9 => wps rm K Q c_X_miss_45 kc ks loc (v.toList ++ st) h9)) := eg_c1_0
theorem s_X_miss_45 {x : Int32} : wps rm K Q c_X_miss_45 kc ks loc (.int x :: st) h = wps rm K Q c_X_miss_46 kc ks loc (.long (x.toInt64) :: st) h := gk_i2l
theorem s_X_miss_46 {x : Int64} : wps rm K Q c_X_miss_46 kc ks loc ([.long x]) h = (kc = rm.cells ∧ Q (some (.long x)) h) := gk_lret
def T_X_miss : List (Nat × List eg_I) := [(15, c_X_miss_15), (36, c_X_miss_36)]
theorem j_X_miss_15 {R : Nat → Nat → Nat → eg_Lo → List Value → List eg_E → Prop} {f pc0 : Nat} : eg_run rm R Q T_X_miss (f + 1) 15 kc ks loc st h = wps rm (eg_run rm R Q T_X_miss f) Q c_X_miss_15 kc ks loc st h := rfl
theorem j_X_miss_36 {R : Nat → Nat → Nat → eg_Lo → List Value → List eg_E → Prop} {f pc0 : Nat} : eg_run rm R Q T_X_miss (f + 1) 36 kc ks loc st h = wps rm (eg_run rm R Q T_X_miss f) Q c_X_miss_36 kc ks loc st h := rfl
end
theorem y_X_miss_0 : eg_seq m_X_miss 0 c_X_miss_0 = true := by decide +kernel
theorem y_X_miss_15 : eg_seq m_X_miss 15 c_X_miss_15 = true := by decide +kernel
theorem y_X_miss_36 : eg_seq m_X_miss 36 c_X_miss_36 = true := by decide +kernel
theorem q_X_miss : ∀ q ∈ T_X_miss, eg_seq m_X_miss q.1 q.2 = true := by
  intro q hq
  simp only [T_X_miss, List.mem_cons, List.not_mem_nil, or_false] at hq
  rcases hq with rfl | rfl
  · exact y_X_miss_15
  · exact y_X_miss_36
theorem b_X_miss {as : List Value} {h : List eg_E} {Q : Option Value → List eg_E → Prop} (hf : (eg_fl as).length ≤ 2) (hw : wps (eg_rm m_X_miss) (eg_run (eg_rm m_X_miss) (eg_R m_X_miss Q (h.length + 0)) Q T_X_miss 4) Q c_X_miss_0 0 0 (eg_entry 2 as) [] h) : eg_Runs n_X_miss as h Q := eg_begin2 (d := m_X_miss) rfl (by decide) y_X_miss_0 q_X_miss hf hw
/-! ===== X_clear ===== -/
def c_X_clear_25 : List eg_I := .inl (25, 1, .lreturn, 0, 0) :: []
def c_X_clear_24 : List eg_I := .inl (24, 1, .i2l, 0, 0) :: c_X_clear_25
def c_X_clear_21 : List eg_I := .inr (21, 1, 103, n_Part_empty, 0, 8, 0, 0) :: c_X_clear_24
def c_X_clear_20 : List eg_I := .inl (20, 1, .aaload, 0, 0) :: c_X_clear_21
def c_X_clear_19 : List eg_I := .inl (19, 1, .iload 1, 0, 0) :: c_X_clear_20
def c_X_clear_16 : List eg_I := .inl (16, 3, .getfield 11, 11, 0) :: c_X_clear_19
def c_X_clear_15 : List eg_I := .inl (15, 1, .aload 0, 0, 0) :: c_X_clear_16
def c_X_clear_14 : List eg_I := .inl (14, 1, .lreturn, 0, 0) :: []
def c_X_clear_11 : List eg_I := .inr (11, 1, 86, n_X_found, 1, 11, 0, 0) :: c_X_clear_14
def c_X_clear_8 : List eg_I := .inl (8, 3, .sipush (-1000000000000000001), 84, 0) :: c_X_clear_11
def c_X_clear_7 : List eg_I := .inl (7, 1, .aload 0, 0, 0) :: c_X_clear_8
def c_X_clear_4 : List eg_I := .inl (4, 3, .ifCond .ne (11), 15, 0) :: c_X_clear_7
def c_X_clear_1 : List eg_I := .inr (1, 0, 72, n_X_isPart, 1, 11, 0, 0) :: c_X_clear_4
def c_X_clear_0 : List eg_I := .inl (0, 1, .iload 1, 0, 0) :: c_X_clear_1
section
variable {rm : Room} {K : Nat → Nat → Nat → eg_Lo → List Value → List eg_E → Prop} {Q : Option Value → List eg_E → Prop} {kc ks : Nat} {loc : eg_Lo} {st : List Value} {h : List eg_E}
theorem s_X_clear_0 {x : Int32} {l0 : Option Value} {l : eg_Lo} : wps rm K Q c_X_clear_0 kc ks (l0 :: some (.int x) :: l) (st) h = wps rm K Q c_X_clear_1 kc ks (l0 :: some (.int x) :: l) (.int x :: st) h := gk_iload rfl
theorem s_X_clear_1  {a1 : Value} : wps rm K Q c_X_clear_1 kc ks loc (a1 :: st) h = (st.length ≤ 4 ∧ eg_Cs n_X_isPart [a1] h (fun v h9 => wps rm K Q c_X_clear_4 kc ks loc (v.toList ++ st) h9)) := eg_c0_1
theorem s_X_clear_4 {x : Int32} : wps rm K Q c_X_clear_4 kc ks loc (.int x :: st) h = ((¬ x = 0 → K 15 kc ks loc st h) ∧ (x = 0 → wps rm K Q c_X_clear_7 kc ks loc (st) h)) := gk_if1_ne
theorem s_X_clear_7 {x : Nat} {l : eg_Lo} : wps rm K Q c_X_clear_7 kc ks (some (.ref x) :: l) (st) h = wps rm K Q c_X_clear_8 kc ks (some (.ref x) :: l) (.ref x :: st) h := gk_aload rfl
theorem s_X_clear_8  : wps rm K Q c_X_clear_8 kc ks loc (st) h = wps rm K Q c_X_clear_11 kc ks loc (.long (-1000000000000000001) :: st) h := gk_lc (by decide)
theorem s_X_clear_11  {a1 : Value} {x : Nat} : wps rm K Q c_X_clear_11 kc ks loc (a1 :: .ref (x + 1) :: st) h = (eg_cls h x 11 ∧ st.length ≤ 4 ∧ eg_Cs n_X_found (.ref (x + 1) :: [a1]) h (fun v h9 => wps rm K Q c_X_clear_14 kc ks loc (v.toList ++ st) h9)) := eg_c1_1
theorem s_X_clear_14 {x : Int64} : wps rm K Q c_X_clear_14 kc ks loc ([.long x]) h = (kc = rm.cells ∧ Q (some (.long x)) h) := gk_lret
theorem s_X_clear_15 {x : Nat} {l : eg_Lo} : wps rm K Q c_X_clear_15 kc ks (some (.ref x) :: l) (st) h = wps rm K Q c_X_clear_16 kc ks (some (.ref x) :: l) (.ref x :: st) h := gk_aload rfl
theorem s_X_clear_16 {x : Nat} : wps rm K Q c_X_clear_16 kc ks loc (.ref (x + 1) :: st) h = eg_gf h x 11 0 (fun v => wps rm K Q c_X_clear_19 kc ks loc (v :: st) h) := gk_gf
theorem s_X_clear_19 {x : Int32} {l0 : Option Value} {l : eg_Lo} : wps rm K Q c_X_clear_19 kc ks (l0 :: some (.int x) :: l) (st) h = wps rm K Q c_X_clear_20 kc ks (l0 :: some (.int x) :: l) (.int x :: st) h := gk_iload rfl
theorem s_X_clear_20 {x : Nat} {i : Int32} : wps rm K Q c_X_clear_20 kc ks loc (.int i :: .ref (x + 1) :: st) h = eg_aa h x i (fun v => wps rm K Q c_X_clear_21 kc ks loc (v :: st) h) := gk_aaload
theorem s_X_clear_21  {x : Nat} : wps rm K Q c_X_clear_21 kc ks loc (.ref (x + 1) :: st) h = (eg_cls h x 8 ∧ st.length ≤ 4 ∧ eg_Cs n_Part_empty (.ref (x + 1) :: []) h (fun v h9 => wps rm K Q c_X_clear_24 kc ks loc (v.toList ++ st) h9)) := eg_c1_0
theorem s_X_clear_24 {x : Int32} : wps rm K Q c_X_clear_24 kc ks loc (.int x :: st) h = wps rm K Q c_X_clear_25 kc ks loc (.long (x.toInt64) :: st) h := gk_i2l
theorem s_X_clear_25 {x : Int64} : wps rm K Q c_X_clear_25 kc ks loc ([.long x]) h = (kc = rm.cells ∧ Q (some (.long x)) h) := gk_lret
def T_X_clear : List (Nat × List eg_I) := [(15, c_X_clear_15)]
theorem j_X_clear_15 {R : Nat → Nat → Nat → eg_Lo → List Value → List eg_E → Prop} {f pc0 : Nat} : eg_run rm R Q T_X_clear (f + 1) 15 kc ks loc st h = wps rm (eg_run rm R Q T_X_clear f) Q c_X_clear_15 kc ks loc st h := rfl
end
theorem y_X_clear_0 : eg_seq m_X_clear 0 c_X_clear_0 = true := by decide +kernel
theorem y_X_clear_15 : eg_seq m_X_clear 15 c_X_clear_15 = true := by decide +kernel
theorem q_X_clear : ∀ q ∈ T_X_clear, eg_seq m_X_clear q.1 q.2 = true := by
  intro q hq
  simp only [T_X_clear, List.mem_cons, List.not_mem_nil, or_false] at hq
  rcases hq with rfl
  · exact y_X_clear_15
theorem b_X_clear {as : List Value} {h : List eg_E} {Q : Option Value → List eg_E → Prop} (hf : (eg_fl as).length ≤ 2) (hw : wps (eg_rm m_X_clear) (eg_run (eg_rm m_X_clear) (eg_R m_X_clear Q (h.length + 0)) Q T_X_clear 3) Q c_X_clear_0 0 0 (eg_entry 2 as) [] h) : eg_Runs n_X_clear as h Q := eg_begin2 (d := m_X_clear) rfl (by decide) y_X_clear_0 q_X_clear hf hw
/-! ===== X_at ===== -/
def c_X_at_91 : List eg_I := .inl (91, 1, .lreturn, 0, 0) :: []
def c_X_at_90 : List eg_I := .inl (90, 1, .i2l, 0, 0) :: c_X_at_91
def c_X_at_89 : List eg_I := .inl (89, 1, .iaload, 0, 0) :: c_X_at_90
def c_X_at_88 : List eg_I := .inl (88, 1, .iload 2, 0, 0) :: c_X_at_89
def c_X_at_85 : List eg_I := .inl (85, 3, .getfield 122, 8, 2) :: c_X_at_88
def c_X_at_83 : List eg_I := .inl (83, 2, .aload 4, 0, 0) :: c_X_at_85
def c_X_at_80 : List eg_I := .inl (80, 3, .goto (11), 91, 0) :: []
def c_X_at_79 : List eg_I := .inl (79, 1, .i2l, 0, 0) :: c_X_at_80
def c_X_at_78 : List eg_I := .inl (78, 1, .iaload, 0, 0) :: c_X_at_79
def c_X_at_77 : List eg_I := .inl (77, 1, .iload 2, 0, 0) :: c_X_at_78
def c_X_at_74 : List eg_I := .inl (74, 3, .getfield 119, 8, 1) :: c_X_at_77
def c_X_at_72 : List eg_I := .inl (72, 2, .aload 4, 0, 0) :: c_X_at_74
def c_X_at_69 : List eg_I := .inl (69, 3, .if_icmp .ne (14), 83, 0) :: c_X_at_72
def c_X_at_68 : List eg_I := .inl (68, 1, .iconst (1), 0, 0) :: c_X_at_69
def c_X_at_67 : List eg_I := .inl (67, 1, .iload 3, 0, 0) :: c_X_at_68
def c_X_at_64 : List eg_I := .inl (64, 3, .goto (27), 91, 0) :: []
def c_X_at_63 : List eg_I := .inl (63, 1, .i2l, 0, 0) :: c_X_at_64
def c_X_at_62 : List eg_I := .inl (62, 1, .iaload, 0, 0) :: c_X_at_63
def c_X_at_61 : List eg_I := .inl (61, 1, .iload 2, 0, 0) :: c_X_at_62
def c_X_at_58 : List eg_I := .inl (58, 3, .getfield 115, 8, 0) :: c_X_at_61
def c_X_at_56 : List eg_I := .inl (56, 2, .aload 4, 0, 0) :: c_X_at_58
def c_X_at_53 : List eg_I := .inl (53, 3, .ifCond .ne (14), 67, 0) :: c_X_at_56
def c_X_at_52 : List eg_I := .inl (52, 1, .iload 3, 0, 0) :: c_X_at_53
def c_X_at_51 : List eg_I := .inl (51, 1, .lreturn, 0, 0) :: []
def c_X_at_48 : List eg_I := .inr (48, 1, 86, n_X_found, 1, 11, 0, 0) :: c_X_at_51
def c_X_at_45 : List eg_I := .inl (45, 3, .sipush (-1000000000000000007), 113, 0) :: c_X_at_48
def c_X_at_44 : List eg_I := .inl (44, 1, .aload 0, 0, 0) :: c_X_at_45
def c_X_at_41 : List eg_I := .inl (41, 3, .ifCond .eq (11), 52, 0) :: c_X_at_44
def c_X_at_40 : List eg_I := .inl (40, 1, .baload, 0, 0) :: c_X_at_41
def c_X_at_39 : List eg_I := .inl (39, 1, .iload 2, 0, 0) :: c_X_at_40
def c_X_at_36 : List eg_I := .inl (36, 3, .getfield 109, 8, 3) :: c_X_at_39
def c_X_at_34 : List eg_I := .inl (34, 2, .aload 4, 0, 0) :: c_X_at_36
def c_X_at_32 : List eg_I := .inl (32, 2, .astore 4, 0, 0) :: c_X_at_34
def c_X_at_31 : List eg_I := .inl (31, 1, .aaload, 0, 0) :: c_X_at_32
def c_X_at_30 : List eg_I := .inl (30, 1, .iload 1, 0, 0) :: c_X_at_31
def c_X_at_27 : List eg_I := .inl (27, 3, .getfield 11, 11, 0) :: c_X_at_30
def c_X_at_26 : List eg_I := .inl (26, 1, .aload 0, 0, 0) :: c_X_at_27
def c_X_at_25 : List eg_I := .inl (25, 1, .lreturn, 0, 0) :: []
def c_X_at_22 : List eg_I := .inr (22, 1, 86, n_X_found, 1, 11, 0, 0) :: c_X_at_25
def c_X_at_19 : List eg_I := .inl (19, 3, .sipush (-1000000000000000001), 84, 0) :: c_X_at_22
def c_X_at_18 : List eg_I := .inl (18, 1, .aload 0, 0, 0) :: c_X_at_19
def c_X_at_15 : List eg_I := .inl (15, 3, .ifCond .ne (11), 26, 0) :: c_X_at_18
def c_X_at_12 : List eg_I := .inr (12, 0, 80, n_X_isWithin, 3, 11, 0, 0) :: c_X_at_15
def c_X_at_11 : List eg_I := .inl (11, 1, .iconst (2), 0, 0) :: c_X_at_12
def c_X_at_10 : List eg_I := .inl (10, 1, .iconst (0), 0, 0) :: c_X_at_11
def c_X_at_9 : List eg_I := .inl (9, 1, .iload 3, 0, 0) :: c_X_at_10
def c_X_at_6 : List eg_I := .inl (6, 3, .ifCond .eq (12), 18, 0) :: c_X_at_9
def c_X_at_3 : List eg_I := .inr (3, 1, 106, n_X_isPoint, 2, 11, 0, 0) :: c_X_at_6
def c_X_at_2 : List eg_I := .inl (2, 1, .iload 2, 0, 0) :: c_X_at_3
def c_X_at_1 : List eg_I := .inl (1, 1, .iload 1, 0, 0) :: c_X_at_2
def c_X_at_0 : List eg_I := .inl (0, 1, .aload 0, 0, 0) :: c_X_at_1
section
variable {rm : Room} {K : Nat → Nat → Nat → eg_Lo → List Value → List eg_E → Prop} {Q : Option Value → List eg_E → Prop} {kc ks : Nat} {loc : eg_Lo} {st : List Value} {h : List eg_E}
theorem s_X_at_0 {x : Nat} {l : eg_Lo} : wps rm K Q c_X_at_0 kc ks (some (.ref x) :: l) (st) h = wps rm K Q c_X_at_1 kc ks (some (.ref x) :: l) (.ref x :: st) h := gk_aload rfl
theorem s_X_at_1 {x : Int32} {l0 : Option Value} {l : eg_Lo} : wps rm K Q c_X_at_1 kc ks (l0 :: some (.int x) :: l) (st) h = wps rm K Q c_X_at_2 kc ks (l0 :: some (.int x) :: l) (.int x :: st) h := gk_iload rfl
theorem s_X_at_2 {x : Int32} {l0 l1 : Option Value} {l : eg_Lo} : wps rm K Q c_X_at_2 kc ks (l0 :: l1 :: some (.int x) :: l) (st) h = wps rm K Q c_X_at_3 kc ks (l0 :: l1 :: some (.int x) :: l) (.int x :: st) h := gk_iload rfl
theorem s_X_at_3  {a1 : Value} {a2 : Value} {x : Nat} : wps rm K Q c_X_at_3 kc ks loc (a2 :: a1 :: .ref (x + 1) :: st) h = (eg_cls h x 11 ∧ st.length ≤ 4 ∧ eg_Cs n_X_isPoint (.ref (x + 1) :: [a1, a2]) h (fun v h9 => wps rm K Q c_X_at_6 kc ks loc (v.toList ++ st) h9)) := eg_c1_2
theorem s_X_at_6 {x : Int32} : wps rm K Q c_X_at_6 kc ks loc (.int x :: st) h = ((x = 0 → K 18 kc ks loc st h) ∧ (¬ x = 0 → wps rm K Q c_X_at_9 kc ks loc (st) h)) := gk_if1_eq
theorem s_X_at_9 {x : Int32} {l0 l1 l2 : Option Value} {l : eg_Lo} : wps rm K Q c_X_at_9 kc ks (l0 :: l1 :: l2 :: some (.int x) :: l) (st) h = wps rm K Q c_X_at_10 kc ks (l0 :: l1 :: l2 :: some (.int x) :: l) (.int x :: st) h := gk_iload rfl
theorem s_X_at_10  : wps rm K Q c_X_at_10 kc ks loc (st) h = wps rm K Q c_X_at_11 kc ks loc (.int (0) :: st) h := gk_ic (by decide)
theorem s_X_at_11  : wps rm K Q c_X_at_11 kc ks loc (st) h = wps rm K Q c_X_at_12 kc ks loc (.int (2) :: st) h := gk_ic (by decide)
theorem s_X_at_12  {a1 : Value} {a2 : Value} {a3 : Value} : wps rm K Q c_X_at_12 kc ks loc (a3 :: a2 :: a1 :: st) h = (st.length ≤ 4 ∧ eg_Cs n_X_isWithin [a1, a2, a3] h (fun v h9 => wps rm K Q c_X_at_15 kc ks loc (v.toList ++ st) h9)) := eg_c0_3
theorem s_X_at_15 {x : Int32} : wps rm K Q c_X_at_15 kc ks loc (.int x :: st) h = ((¬ x = 0 → K 26 kc ks loc st h) ∧ (x = 0 → wps rm K Q c_X_at_18 kc ks loc (st) h)) := gk_if1_ne
theorem s_X_at_18 {x : Nat} {l : eg_Lo} : wps rm K Q c_X_at_18 kc ks (some (.ref x) :: l) (st) h = wps rm K Q c_X_at_19 kc ks (some (.ref x) :: l) (.ref x :: st) h := gk_aload rfl
theorem s_X_at_19  : wps rm K Q c_X_at_19 kc ks loc (st) h = wps rm K Q c_X_at_22 kc ks loc (.long (-1000000000000000001) :: st) h := gk_lc (by decide)
theorem s_X_at_22  {a1 : Value} {x : Nat} : wps rm K Q c_X_at_22 kc ks loc (a1 :: .ref (x + 1) :: st) h = (eg_cls h x 11 ∧ st.length ≤ 4 ∧ eg_Cs n_X_found (.ref (x + 1) :: [a1]) h (fun v h9 => wps rm K Q c_X_at_25 kc ks loc (v.toList ++ st) h9)) := eg_c1_1
theorem s_X_at_25 {x : Int64} : wps rm K Q c_X_at_25 kc ks loc ([.long x]) h = (kc = rm.cells ∧ Q (some (.long x)) h) := gk_lret
theorem s_X_at_26 {x : Nat} {l : eg_Lo} : wps rm K Q c_X_at_26 kc ks (some (.ref x) :: l) (st) h = wps rm K Q c_X_at_27 kc ks (some (.ref x) :: l) (.ref x :: st) h := gk_aload rfl
theorem s_X_at_27 {x : Nat} : wps rm K Q c_X_at_27 kc ks loc (.ref (x + 1) :: st) h = eg_gf h x 11 0 (fun v => wps rm K Q c_X_at_30 kc ks loc (v :: st) h) := gk_gf
theorem s_X_at_30 {x : Int32} {l0 : Option Value} {l : eg_Lo} : wps rm K Q c_X_at_30 kc ks (l0 :: some (.int x) :: l) (st) h = wps rm K Q c_X_at_31 kc ks (l0 :: some (.int x) :: l) (.int x :: st) h := gk_iload rfl
theorem s_X_at_31 {x : Nat} {i : Int32} : wps rm K Q c_X_at_31 kc ks loc (.int i :: .ref (x + 1) :: st) h = eg_aa h x i (fun v => wps rm K Q c_X_at_32 kc ks loc (v :: st) h) := gk_aaload
theorem s_X_at_32 {x : Nat} : wps rm K Q c_X_at_32 kc ks loc (.ref x :: st) h = wps rm K Q c_X_at_34 kc ks (eg_set1 loc 4 (.ref x)) (st) h := gk_astore
theorem s_X_at_34 {x : Nat} {l0 l1 l2 l3 : Option Value} {l : eg_Lo} : wps rm K Q c_X_at_34 kc ks (l0 :: l1 :: l2 :: l3 :: some (.ref x) :: l) (st) h = wps rm K Q c_X_at_36 kc ks (l0 :: l1 :: l2 :: l3 :: some (.ref x) :: l) (.ref x :: st) h := gk_aload rfl
theorem s_X_at_36 {x : Nat} : wps rm K Q c_X_at_36 kc ks loc (.ref (x + 1) :: st) h = eg_gf h x 8 3 (fun v => wps rm K Q c_X_at_39 kc ks loc (v :: st) h) := gk_gf
theorem s_X_at_39 {x : Int32} {l0 l1 : Option Value} {l : eg_Lo} : wps rm K Q c_X_at_39 kc ks (l0 :: l1 :: some (.int x) :: l) (st) h = wps rm K Q c_X_at_40 kc ks (l0 :: l1 :: some (.int x) :: l) (.int x :: st) h := gk_iload rfl
theorem s_X_at_40 {x : Nat} {i : Int32} : wps rm K Q c_X_at_40 kc ks loc (.int i :: .ref (x + 1) :: st) h = eg_ba h x i (fun v => wps rm K Q c_X_at_41 kc ks loc (.int v :: st) h) := gk_baload
theorem s_X_at_41 {x : Int32} : wps rm K Q c_X_at_41 kc ks loc (.int x :: st) h = ((x = 0 → K 52 kc ks loc st h) ∧ (¬ x = 0 → wps rm K Q c_X_at_44 kc ks loc (st) h)) := gk_if1_eq
theorem s_X_at_44 {x : Nat} {l : eg_Lo} : wps rm K Q c_X_at_44 kc ks (some (.ref x) :: l) (st) h = wps rm K Q c_X_at_45 kc ks (some (.ref x) :: l) (.ref x :: st) h := gk_aload rfl
theorem s_X_at_45  : wps rm K Q c_X_at_45 kc ks loc (st) h = wps rm K Q c_X_at_48 kc ks loc (.long (-1000000000000000007) :: st) h := gk_lc (by decide)
theorem s_X_at_48  {a1 : Value} {x : Nat} : wps rm K Q c_X_at_48 kc ks loc (a1 :: .ref (x + 1) :: st) h = (eg_cls h x 11 ∧ st.length ≤ 4 ∧ eg_Cs n_X_found (.ref (x + 1) :: [a1]) h (fun v h9 => wps rm K Q c_X_at_51 kc ks loc (v.toList ++ st) h9)) := eg_c1_1
theorem s_X_at_51 {x : Int64} : wps rm K Q c_X_at_51 kc ks loc ([.long x]) h = (kc = rm.cells ∧ Q (some (.long x)) h) := gk_lret
theorem s_X_at_52 {x : Int32} {l0 l1 l2 : Option Value} {l : eg_Lo} : wps rm K Q c_X_at_52 kc ks (l0 :: l1 :: l2 :: some (.int x) :: l) (st) h = wps rm K Q c_X_at_53 kc ks (l0 :: l1 :: l2 :: some (.int x) :: l) (.int x :: st) h := gk_iload rfl
theorem s_X_at_53 {x : Int32} : wps rm K Q c_X_at_53 kc ks loc (.int x :: st) h = ((¬ x = 0 → K 67 kc ks loc st h) ∧ (x = 0 → wps rm K Q c_X_at_56 kc ks loc (st) h)) := gk_if1_ne
theorem s_X_at_56 {x : Nat} {l0 l1 l2 l3 : Option Value} {l : eg_Lo} : wps rm K Q c_X_at_56 kc ks (l0 :: l1 :: l2 :: l3 :: some (.ref x) :: l) (st) h = wps rm K Q c_X_at_58 kc ks (l0 :: l1 :: l2 :: l3 :: some (.ref x) :: l) (.ref x :: st) h := gk_aload rfl
theorem s_X_at_58 {x : Nat} : wps rm K Q c_X_at_58 kc ks loc (.ref (x + 1) :: st) h = eg_gf h x 8 0 (fun v => wps rm K Q c_X_at_61 kc ks loc (v :: st) h) := gk_gf
theorem s_X_at_61 {x : Int32} {l0 l1 : Option Value} {l : eg_Lo} : wps rm K Q c_X_at_61 kc ks (l0 :: l1 :: some (.int x) :: l) (st) h = wps rm K Q c_X_at_62 kc ks (l0 :: l1 :: some (.int x) :: l) (.int x :: st) h := gk_iload rfl
theorem s_X_at_62 {x : Nat} {i : Int32} : wps rm K Q c_X_at_62 kc ks loc (.int i :: .ref (x + 1) :: st) h = eg_ia h x i (fun v => wps rm K Q c_X_at_63 kc ks loc (.int v :: st) h) := gk_iaload
theorem s_X_at_63 {x : Int32} : wps rm K Q c_X_at_63 kc ks loc (.int x :: st) h = wps rm K Q c_X_at_64 kc ks loc (.long (x.toInt64) :: st) h := gk_i2l
theorem s_X_at_64  : wps rm K Q c_X_at_64 kc ks loc (st) h = K 91 kc ks loc st h := gk_goto
theorem s_X_at_67 {x : Int32} {l0 l1 l2 : Option Value} {l : eg_Lo} : wps rm K Q c_X_at_67 kc ks (l0 :: l1 :: l2 :: some (.int x) :: l) (st) h = wps rm K Q c_X_at_68 kc ks (l0 :: l1 :: l2 :: some (.int x) :: l) (.int x :: st) h := gk_iload rfl
theorem s_X_at_68  : wps rm K Q c_X_at_68 kc ks loc (st) h = wps rm K Q c_X_at_69 kc ks loc (.int (1) :: st) h := gk_ic (by decide)
theorem s_X_at_69 {x y : Int32} : wps rm K Q c_X_at_69 kc ks loc (.int y :: .int x :: st) h = ((¬ x = y → K 83 kc ks loc st h) ∧ (x = y → wps rm K Q c_X_at_72 kc ks loc (st) h)) := gk_if2_ne
theorem s_X_at_72 {x : Nat} {l0 l1 l2 l3 : Option Value} {l : eg_Lo} : wps rm K Q c_X_at_72 kc ks (l0 :: l1 :: l2 :: l3 :: some (.ref x) :: l) (st) h = wps rm K Q c_X_at_74 kc ks (l0 :: l1 :: l2 :: l3 :: some (.ref x) :: l) (.ref x :: st) h := gk_aload rfl
theorem s_X_at_74 {x : Nat} : wps rm K Q c_X_at_74 kc ks loc (.ref (x + 1) :: st) h = eg_gf h x 8 1 (fun v => wps rm K Q c_X_at_77 kc ks loc (v :: st) h) := gk_gf
theorem s_X_at_77 {x : Int32} {l0 l1 : Option Value} {l : eg_Lo} : wps rm K Q c_X_at_77 kc ks (l0 :: l1 :: some (.int x) :: l) (st) h = wps rm K Q c_X_at_78 kc ks (l0 :: l1 :: some (.int x) :: l) (.int x :: st) h := gk_iload rfl
theorem s_X_at_78 {x : Nat} {i : Int32} : wps rm K Q c_X_at_78 kc ks loc (.int i :: .ref (x + 1) :: st) h = eg_ia h x i (fun v => wps rm K Q c_X_at_79 kc ks loc (.int v :: st) h) := gk_iaload
theorem s_X_at_79 {x : Int32} : wps rm K Q c_X_at_79 kc ks loc (.int x :: st) h = wps rm K Q c_X_at_80 kc ks loc (.long (x.toInt64) :: st) h := gk_i2l
theorem s_X_at_80  : wps rm K Q c_X_at_80 kc ks loc (st) h = K 91 kc ks loc st h := gk_goto
theorem s_X_at_83 {x : Nat} {l0 l1 l2 l3 : Option Value} {l : eg_Lo} : wps rm K Q c_X_at_83 kc ks (l0 :: l1 :: l2 :: l3 :: some (.ref x) :: l) (st) h = wps rm K Q c_X_at_85 kc ks (l0 :: l1 :: l2 :: l3 :: some (.ref x) :: l) (.ref x :: st) h := gk_aload rfl
theorem s_X_at_85 {x : Nat} : wps rm K Q c_X_at_85 kc ks loc (.ref (x + 1) :: st) h = eg_gf h x 8 2 (fun v => wps rm K Q c_X_at_88 kc ks loc (v :: st) h) := gk_gf
theorem s_X_at_88 {x : Int32} {l0 l1 : Option Value} {l : eg_Lo} : wps rm K Q c_X_at_88 kc ks (l0 :: l1 :: some (.int x) :: l) (st) h = wps rm K Q c_X_at_89 kc ks (l0 :: l1 :: some (.int x) :: l) (.int x :: st) h := gk_iload rfl
theorem s_X_at_89 {x : Nat} {i : Int32} : wps rm K Q c_X_at_89 kc ks loc (.int i :: .ref (x + 1) :: st) h = eg_ia h x i (fun v => wps rm K Q c_X_at_90 kc ks loc (.int v :: st) h) := gk_iaload
theorem s_X_at_90 {x : Int32} : wps rm K Q c_X_at_90 kc ks loc (.int x :: st) h = wps rm K Q c_X_at_91 kc ks loc (.long (x.toInt64) :: st) h := gk_i2l
theorem s_X_at_91 {x : Int64} : wps rm K Q c_X_at_91 kc ks loc ([.long x]) h = (kc = rm.cells ∧ Q (some (.long x)) h) := gk_lret
def T_X_at : List (Nat × List eg_I) := [(18, c_X_at_18), (26, c_X_at_26), (52, c_X_at_52), (67, c_X_at_67), (83, c_X_at_83), (91, c_X_at_91)]
theorem j_X_at_18 {R : Nat → Nat → Nat → eg_Lo → List Value → List eg_E → Prop} {f pc0 : Nat} : eg_run rm R Q T_X_at (f + 1) 18 kc ks loc st h = wps rm (eg_run rm R Q T_X_at f) Q c_X_at_18 kc ks loc st h := rfl
theorem j_X_at_26 {R : Nat → Nat → Nat → eg_Lo → List Value → List eg_E → Prop} {f pc0 : Nat} : eg_run rm R Q T_X_at (f + 1) 26 kc ks loc st h = wps rm (eg_run rm R Q T_X_at f) Q c_X_at_26 kc ks loc st h := rfl
theorem j_X_at_52 {R : Nat → Nat → Nat → eg_Lo → List Value → List eg_E → Prop} {f pc0 : Nat} : eg_run rm R Q T_X_at (f + 1) 52 kc ks loc st h = wps rm (eg_run rm R Q T_X_at f) Q c_X_at_52 kc ks loc st h := rfl
theorem j_X_at_67 {R : Nat → Nat → Nat → eg_Lo → List Value → List eg_E → Prop} {f pc0 : Nat} : eg_run rm R Q T_X_at (f + 1) 67 kc ks loc st h = wps rm (eg_run rm R Q T_X_at f) Q c_X_at_67 kc ks loc st h := rfl
theorem j_X_at_83 {R : Nat → Nat → Nat → eg_Lo → List Value → List eg_E → Prop} {f pc0 : Nat} : eg_run rm R Q T_X_at (f + 1) 83 kc ks loc st h = wps rm (eg_run rm R Q T_X_at f) Q c_X_at_83 kc ks loc st h := rfl
theorem j_X_at_91 {R : Nat → Nat → Nat → eg_Lo → List Value → List eg_E → Prop} {f pc0 : Nat} : eg_run rm R Q T_X_at (f + 1) 91 kc ks loc st h = wps rm (eg_run rm R Q T_X_at f) Q c_X_at_91 kc ks loc st h := rfl
end
theorem y_X_at_0 : eg_seq m_X_at 0 c_X_at_0 = true := by decide +kernel
theorem y_X_at_26 : eg_seq m_X_at 26 c_X_at_26 = true := by decide +kernel
theorem y_X_at_52 : eg_seq m_X_at 52 c_X_at_52 = true := by decide +kernel
theorem y_X_at_67 : eg_seq m_X_at 67 c_X_at_67 = true := by decide +kernel
theorem y_X_at_83 : eg_seq m_X_at 83 c_X_at_83 = true := by decide +kernel
theorem q_X_at : ∀ q ∈ T_X_at, eg_seq m_X_at q.1 q.2 = true := by
  intro q hq
  simp only [T_X_at, List.mem_cons, List.not_mem_nil, or_false] at hq
  rcases hq with rfl | rfl | rfl | rfl | rfl | rfl
  · exact (eg_seq_drop y_X_at_0 10 : eg_seq m_X_at 18 c_X_at_18 = true)
  · exact y_X_at_26
  · exact y_X_at_52
  · exact y_X_at_67
  · exact y_X_at_83
  · exact (eg_seq_drop y_X_at_83 5 : eg_seq m_X_at 91 c_X_at_91 = true)
theorem b_X_at {as : List Value} {h : List eg_E} {Q : Option Value → List eg_E → Prop} (hf : (eg_fl as).length ≤ 5) (hw : wps (eg_rm m_X_at) (eg_run (eg_rm m_X_at) (eg_R m_X_at Q (h.length + 0)) Q T_X_at 8) Q c_X_at_0 0 0 (eg_entry 5 as) [] h) : eg_Runs n_X_at as h Q := eg_begin2 (d := m_X_at) rfl (by decide) y_X_at_0 q_X_at hf hw
