/-! ===== X_points ===== -/
def c_X_points_42 : List eg_I := .inl (42, 1, .lreturn, 0, 0) :: []
def c_X_points_41 : List eg_I := .inl (41, 1, .i2l, 0, 0) :: c_X_points_42
def c_X_points_38 : List eg_I := .inl (38, 3, .getfield 128, 8, 4) :: c_X_points_41
def c_X_points_37 : List eg_I := .inl (37, 1, .aaload, 0, 0) :: c_X_points_38
def c_X_points_36 : List eg_I := .inl (36, 1, .iload 1, 0, 0) :: c_X_points_37
def c_X_points_33 : List eg_I := .inl (33, 3, .getfield 11, 11, 0) :: c_X_points_36
def c_X_points_32 : List eg_I := .inl (32, 1, .aload 0, 0, 0) :: c_X_points_33
def c_X_points_29 : List eg_I := .inl (29, 3, .goto (13), 42, 0) :: []
def c_X_points_28 : List eg_I := .inl (28, 1, .i2l, 0, 0) :: c_X_points_29
def c_X_points_25 : List eg_I := .inr (25, 1, 125, n_Part_touchedCount, 0, 8, 0, 0) :: c_X_points_28
def c_X_points_24 : List eg_I := .inl (24, 1, .aaload, 0, 0) :: c_X_points_25
def c_X_points_23 : List eg_I := .inl (23, 1, .iload 1, 0, 0) :: c_X_points_24
def c_X_points_20 : List eg_I := .inl (20, 3, .getfield 11, 11, 0) :: c_X_points_23
def c_X_points_19 : List eg_I := .inl (19, 1, .aload 0, 0, 0) :: c_X_points_20
def c_X_points_16 : List eg_I := .inl (16, 3, .ifCond .eq (16), 32, 0) :: c_X_points_19
def c_X_points_15 : List eg_I := .inl (15, 1, .iload 2, 0, 0) :: c_X_points_16
def c_X_points_14 : List eg_I := .inl (14, 1, .lreturn, 0, 0) :: []
def c_X_points_11 : List eg_I := .inr (11, 1, 86, n_X_found, 1, 11, 0, 0) :: c_X_points_14
def c_X_points_8 : List eg_I := .inl (8, 3, .sipush (-1000000000000000001), 84, 0) :: c_X_points_11
def c_X_points_7 : List eg_I := .inl (7, 1, .aload 0, 0, 0) :: c_X_points_8
def c_X_points_4 : List eg_I := .inl (4, 3, .ifCond .ne (11), 15, 0) :: c_X_points_7
def c_X_points_1 : List eg_I := .inr (1, 0, 72, n_X_isPart, 1, 11, 0, 0) :: c_X_points_4
def c_X_points_0 : List eg_I := .inl (0, 1, .iload 1, 0, 0) :: c_X_points_1
section
variable {rm : Room} {K : Nat → Nat → Nat → eg_Lo → List Value → List eg_E → Prop} {Q : Option Value → List eg_E → Prop} {kc ks : Nat} {loc : eg_Lo} {st : List Value} {h : List eg_E}
theorem s_X_points_0 {x : Int32} {l0 : Option Value} {l : eg_Lo} : wps rm K Q c_X_points_0 kc ks (l0 :: some (.int x) :: l) (st) h = wps rm K Q c_X_points_1 kc ks (l0 :: some (.int x) :: l) (.int x :: st) h := gk_iload rfl
theorem s_X_points_1  {a1 : Value} : wps rm K Q c_X_points_1 kc ks loc (a1 :: st) h = (st.length ≤ 4 ∧ eg_Cs n_X_isPart [a1] h (fun v h9 => wps rm K Q c_X_points_4 kc ks loc (v.toList ++ st) h9)) := eg_c0_1
theorem s_X_points_4 {x : Int32} : wps rm K Q c_X_points_4 kc ks loc (.int x :: st) h = ((¬ x = 0 → K 15 kc ks loc st h) ∧ (x = 0 → wps rm K Q c_X_points_7 kc ks loc (st) h)) := gk_if1_ne
theorem s_X_points_7 {x : Nat} {l : eg_Lo} : wps rm K Q c_X_points_7 kc ks (some (.ref x) :: l) (st) h = wps rm K Q c_X_points_8 kc ks (some (.ref x) :: l) (.ref x :: st) h := gk_aload rfl
theorem s_X_points_8  : wps rm K Q c_X_points_8 kc ks loc (st) h = wps rm K Q c_X_points_11 kc ks loc (.long (-1000000000000000001) :: st) h := gk_lc (by decide)
theorem s_X_points_11  {a1 : Value} {x : Nat} : wps rm K Q c_X_points_11 kc ks loc (a1 :: .ref (x + 1) :: st) h = (eg_cls h x 11 ∧ st.length ≤ 4 ∧ eg_Cs n_X_found (.ref (x + 1) :: [a1]) h (fun v h9 => wps rm K Q c_X_points_14 kc ks loc (v.toList ++ st) h9)) := eg_c1_1
theorem s_X_points_14 {x : Int64} : wps rm K Q c_X_points_14 kc ks loc ([.long x]) h = (kc = rm.cells ∧ Q (some (.long x)) h) := gk_lret
theorem s_X_points_15 {x : Int32} {l0 l1 : Option Value} {l : eg_Lo} : wps rm K Q c_X_points_15 kc ks (l0 :: l1 :: some (.int x) :: l) (st) h = wps rm K Q c_X_points_16 kc ks (l0 :: l1 :: some (.int x) :: l) (.int x :: st) h := gk_iload rfl
theorem s_X_points_16 {x : Int32} : wps rm K Q c_X_points_16 kc ks loc (.int x :: st) h = ((x = 0 → K 32 kc ks loc st h) ∧ (¬ x = 0 → wps rm K Q c_X_points_19 kc ks loc (st) h)) := gk_if1_eq
theorem s_X_points_19 {x : Nat} {l : eg_Lo} : wps rm K Q c_X_points_19 kc ks (some (.ref x) :: l) (st) h = wps rm K Q c_X_points_20 kc ks (some (.ref x) :: l) (.ref x :: st) h := gk_aload rfl
theorem s_X_points_20 {x : Nat} : wps rm K Q c_X_points_20 kc ks loc (.ref (x + 1) :: st) h = eg_gf h x 11 0 (fun v => wps rm K Q c_X_points_23 kc ks loc (v :: st) h) := gk_gf
theorem s_X_points_23 {x : Int32} {l0 : Option Value} {l : eg_Lo} : wps rm K Q c_X_points_23 kc ks (l0 :: some (.int x) :: l) (st) h = wps rm K Q c_X_points_24 kc ks (l0 :: some (.int x) :: l) (.int x :: st) h := gk_iload rfl
theorem s_X_points_24 {x : Nat} {i : Int32} : wps rm K Q c_X_points_24 kc ks loc (.int i :: .ref (x + 1) :: st) h = eg_aa h x i (fun v => wps rm K Q c_X_points_25 kc ks loc (v :: st) h) := gk_aaload
theorem s_X_points_25  {x : Nat} : wps rm K Q c_X_points_25 kc ks loc (.ref (x + 1) :: st) h = (eg_cls h x 8 ∧ st.length ≤ 4 ∧ eg_Cs n_Part_touchedCount (.ref (x + 1) :: []) h (fun v h9 => wps rm K Q c_X_points_28 kc ks loc (v.toList ++ st) h9)) := eg_c1_0
theorem s_X_points_28 {x : Int32} : wps rm K Q c_X_points_28 kc ks loc (.int x :: st) h = wps rm K Q c_X_points_29 kc ks loc (.long (x.toInt64) :: st) h := gk_i2l
theorem s_X_points_29  : wps rm K Q c_X_points_29 kc ks loc (st) h = K 42 kc ks loc st h := gk_goto
theorem s_X_points_32 {x : Nat} {l : eg_Lo} : wps rm K Q c_X_points_32 kc ks (some (.ref x) :: l) (st) h = wps rm K Q c_X_points_33 kc ks (some (.ref x) :: l) (.ref x :: st) h := gk_aload rfl
theorem s_X_points_33 {x : Nat} : wps rm K Q c_X_points_33 kc ks loc (.ref (x + 1) :: st) h = eg_gf h x 11 0 (fun v => wps rm K Q c_X_points_36 kc ks loc (v :: st) h) := gk_gf
theorem s_X_points_36 {x : Int32} {l0 : Option Value} {l : eg_Lo} : wps rm K Q c_X_points_36 kc ks (l0 :: some (.int x) :: l) (st) h = wps rm K Q c_X_points_37 kc ks (l0 :: some (.int x) :: l) (.int x :: st) h := gk_iload rfl
theorem s_X_points_37 {x : Nat} {i : Int32} : wps rm K Q c_X_points_37 kc ks loc (.int i :: .ref (x + 1) :: st) h = eg_aa h x i (fun v => wps rm K Q c_X_points_38 kc ks loc (v :: st) h) := gk_aaload
theorem s_X_points_38 {x : Nat} : wps rm K Q c_X_points_38 kc ks loc (.ref (x + 1) :: st) h = eg_gf h x 8 4 (fun v => wps rm K Q c_X_points_41 kc ks loc (v :: st) h) := gk_gf
theorem s_X_points_41 {x : Int32} : wps rm K Q c_X_points_41 kc ks loc (.int x :: st) h = wps rm K Q c_X_points_42 kc ks loc (.long (x.toInt64) :: st) h := gk_i2l
theorem s_X_points_42 {x : Int64} : wps rm K Q c_X_points_42 kc ks loc ([.long x]) h = (kc = rm.cells ∧ Q (some (.long x)) h) := gk_lret
def T_X_points : List (Nat × List eg_I) := [(15, c_X_points_15), (32, c_X_points_32), (42, c_X_points_42)]
theorem j_X_points_15 {R : Nat → Nat → Nat → eg_Lo → List Value → List eg_E → Prop} {f pc0 : Nat} : eg_run rm R Q T_X_points (f + 1) 15 kc ks loc st h = wps rm (eg_run rm R Q T_X_points f) Q c_X_points_15 kc ks loc st h := rfl
theorem j_X_points_32 {R : Nat → Nat → Nat → eg_Lo → List Value → List eg_E → Prop} {f pc0 : Nat} : eg_run rm R Q T_X_points (f + 1) 32 kc ks loc st h = wps rm (eg_run rm R Q T_X_points f) Q c_X_points_32 kc ks loc st h := rfl
theorem j_X_points_42 {R : Nat → Nat → Nat → eg_Lo → List Value → List eg_E → Prop} {f pc0 : Nat} : eg_run rm R Q T_X_points (f + 1) 42 kc ks loc st h = wps rm (eg_run rm R Q T_X_points f) Q c_X_points_42 kc ks loc st h := rfl
end
theorem y_X_points_0 : eg_seq m_X_points 0 c_X_points_0 = true := by decide +kernel
theorem y_X_points_15 : eg_seq m_X_points 15 c_X_points_15 = true := by decide +kernel
theorem y_X_points_32 : eg_seq m_X_points 32 c_X_points_32 = true := by decide +kernel
theorem q_X_points : ∀ q ∈ T_X_points, eg_seq m_X_points q.1 q.2 = true := by
  intro q hq
  simp only [T_X_points, List.mem_cons, List.not_mem_nil, or_false] at hq
  rcases hq with rfl | rfl | rfl
  · exact y_X_points_15
  · exact y_X_points_32
  · exact (eg_seq_drop y_X_points_32 6 : eg_seq m_X_points 42 c_X_points_42 = true)
theorem b_X_points {as : List Value} {h : List eg_E} {Q : Option Value → List eg_E → Prop} (hf : (eg_fl as).length ≤ 3) (hw : wps (eg_rm m_X_points) (eg_run (eg_rm m_X_points) (eg_R m_X_points Q (h.length + 0)) Q T_X_points 5) Q c_X_points_0 0 0 (eg_entry 3 as) [] h) : eg_Runs n_X_points as h Q := eg_begin2 (d := m_X_points) rfl (by decide) y_X_points_0 q_X_points hf hw
/-! ===== X_mend ===== -/
def z_X_mend_27 : List eg_I := [.inl (27, 0, .nop, 0, 0)]
def c_X_mend_67 : List eg_I := .inl (67, 1, .lreturn, 0, 0) :: []
def c_X_mend_66 : List eg_I := .inl (66, 1, .i2l, 0, 0) :: c_X_mend_67
def c_X_mend_65 : List eg_I := .inl (65, 1, .iload 3, 0, 0) :: c_X_mend_66
def c_X_mend_62 : List eg_I := .inl (62, 3, .goto (-35), 27, 0) :: []
def c_X_mend_59 : List eg_I := .inl (59, 3, .iinc 4 (1), 0, 0) :: c_X_mend_62
def c_X_mend_56 : List eg_I := .inl (56, 3, .iinc 3 (1), 0, 0) :: c_X_mend_59
def c_X_mend_53 : List eg_I := .inl (53, 3, .ifCond .eq (6), 59, 0) :: c_X_mend_56
def c_X_mend_50 : List eg_I := .inr (50, 1, 132, n_X_mendPoint, 2, 11, 0, 0) :: c_X_mend_53
def c_X_mend_48 : List eg_I := .inl (48, 2, .iload 4, 0, 0) :: c_X_mend_50
def c_X_mend_47 : List eg_I := .inl (47, 1, .aload 2, 0, 0) :: c_X_mend_48
def c_X_mend_46 : List eg_I := .inl (46, 1, .aload 0, 0, 0) :: c_X_mend_47
def c_X_mend_43 : List eg_I := .inl (43, 3, .ifCond .ne (16), 59, 0) :: c_X_mend_46
def c_X_mend_42 : List eg_I := .inl (42, 1, .baload, 0, 0) :: c_X_mend_43
def c_X_mend_40 : List eg_I := .inl (40, 2, .iload 4, 0, 0) :: c_X_mend_42
def c_X_mend_37 : List eg_I := .inl (37, 3, .getfield 109, 8, 3) :: c_X_mend_40
def c_X_mend_36 : List eg_I := .inl (36, 1, .aload 2, 0, 0) :: c_X_mend_37
def c_X_mend_33 : List eg_I := .inl (33, 3, .if_icmp .ge (32), 65, 0) :: c_X_mend_36
def c_X_mend_30 : List eg_I := .inl (30, 3, .getfield 128, 8, 4) :: c_X_mend_33
def c_X_mend_29 : List eg_I := .inl (29, 1, .aload 2, 0, 0) :: c_X_mend_30
def c_X_mend_27 : List eg_I := .inl (27, 2, .iload 4, 0, 0) :: c_X_mend_29
def c_X_mend_25 : List eg_I := .inl (25, 2, .istore 4, 0, 0) :: z_X_mend_27
def c_X_mend_24 : List eg_I := .inl (24, 1, .iconst (0), 0, 0) :: c_X_mend_25
def c_X_mend_23 : List eg_I := .inl (23, 1, .istore 3, 0, 0) :: c_X_mend_24
def c_X_mend_22 : List eg_I := .inl (22, 1, .iconst (0), 0, 0) :: c_X_mend_23
def c_X_mend_21 : List eg_I := .inl (21, 1, .astore 2, 0, 0) :: c_X_mend_22
def c_X_mend_20 : List eg_I := .inl (20, 1, .aaload, 0, 0) :: c_X_mend_21
def c_X_mend_19 : List eg_I := .inl (19, 1, .iload 1, 0, 0) :: c_X_mend_20
def c_X_mend_16 : List eg_I := .inl (16, 3, .getfield 11, 11, 0) :: c_X_mend_19
def c_X_mend_15 : List eg_I := .inl (15, 1, .aload 0, 0, 0) :: c_X_mend_16
def c_X_mend_14 : List eg_I := .inl (14, 1, .lreturn, 0, 0) :: []
def c_X_mend_11 : List eg_I := .inr (11, 1, 86, n_X_found, 1, 11, 0, 0) :: c_X_mend_14
def c_X_mend_8 : List eg_I := .inl (8, 3, .sipush (-1000000000000000001), 84, 0) :: c_X_mend_11
def c_X_mend_7 : List eg_I := .inl (7, 1, .aload 0, 0, 0) :: c_X_mend_8
def c_X_mend_4 : List eg_I := .inl (4, 3, .ifCond .ne (11), 15, 0) :: c_X_mend_7
def c_X_mend_1 : List eg_I := .inr (1, 0, 72, n_X_isPart, 1, 11, 0, 0) :: c_X_mend_4
def c_X_mend_0 : List eg_I := .inl (0, 1, .iload 1, 0, 0) :: c_X_mend_1
section
variable {rm : Room} {K : Nat → Nat → Nat → eg_Lo → List Value → List eg_E → Prop} {Q : Option Value → List eg_E → Prop} {kc ks : Nat} {loc : eg_Lo} {st : List Value} {h : List eg_E}
theorem s_X_mend_0 {x : Int32} {l0 : Option Value} {l : eg_Lo} : wps rm K Q c_X_mend_0 kc ks (l0 :: some (.int x) :: l) (st) h = wps rm K Q c_X_mend_1 kc ks (l0 :: some (.int x) :: l) (.int x :: st) h := gk_iload rfl
theorem s_X_mend_1  {a1 : Value} : wps rm K Q c_X_mend_1 kc ks loc (a1 :: st) h = (st.length ≤ 4 ∧ eg_Cs n_X_isPart [a1] h (fun v h9 => wps rm K Q c_X_mend_4 kc ks loc (v.toList ++ st) h9)) := eg_c0_1
theorem s_X_mend_4 {x : Int32} : wps rm K Q c_X_mend_4 kc ks loc (.int x :: st) h = ((¬ x = 0 → K 15 kc ks loc st h) ∧ (x = 0 → wps rm K Q c_X_mend_7 kc ks loc (st) h)) := gk_if1_ne
theorem s_X_mend_7 {x : Nat} {l : eg_Lo} : wps rm K Q c_X_mend_7 kc ks (some (.ref x) :: l) (st) h = wps rm K Q c_X_mend_8 kc ks (some (.ref x) :: l) (.ref x :: st) h := gk_aload rfl
theorem s_X_mend_8  : wps rm K Q c_X_mend_8 kc ks loc (st) h = wps rm K Q c_X_mend_11 kc ks loc (.long (-1000000000000000001) :: st) h := gk_lc (by decide)
theorem s_X_mend_11  {a1 : Value} {x : Nat} : wps rm K Q c_X_mend_11 kc ks loc (a1 :: .ref (x + 1) :: st) h = (eg_cls h x 11 ∧ st.length ≤ 4 ∧ eg_Cs n_X_found (.ref (x + 1) :: [a1]) h (fun v h9 => wps rm K Q c_X_mend_14 kc ks loc (v.toList ++ st) h9)) := eg_c1_1
theorem s_X_mend_14 {x : Int64} : wps rm K Q c_X_mend_14 kc ks loc ([.long x]) h = (kc = rm.cells ∧ Q (some (.long x)) h) := gk_lret
theorem s_X_mend_15 {x : Nat} {l : eg_Lo} : wps rm K Q c_X_mend_15 kc ks (some (.ref x) :: l) (st) h = wps rm K Q c_X_mend_16 kc ks (some (.ref x) :: l) (.ref x :: st) h := gk_aload rfl
theorem s_X_mend_16 {x : Nat} : wps rm K Q c_X_mend_16 kc ks loc (.ref (x + 1) :: st) h = eg_gf h x 11 0 (fun v => wps rm K Q c_X_mend_19 kc ks loc (v :: st) h) := gk_gf
theorem s_X_mend_19 {x : Int32} {l0 : Option Value} {l : eg_Lo} : wps rm K Q c_X_mend_19 kc ks (l0 :: some (.int x) :: l) (st) h = wps rm K Q c_X_mend_20 kc ks (l0 :: some (.int x) :: l) (.int x :: st) h := gk_iload rfl
theorem s_X_mend_20 {x : Nat} {i : Int32} : wps rm K Q c_X_mend_20 kc ks loc (.int i :: .ref (x + 1) :: st) h = eg_aa h x i (fun v => wps rm K Q c_X_mend_21 kc ks loc (v :: st) h) := gk_aaload
theorem s_X_mend_21 {x : Nat} : wps rm K Q c_X_mend_21 kc ks loc (.ref x :: st) h = wps rm K Q c_X_mend_22 kc ks (eg_set1 loc 2 (.ref x)) (st) h := gk_astore
theorem s_X_mend_22  : wps rm K Q c_X_mend_22 kc ks loc (st) h = wps rm K Q c_X_mend_23 kc ks loc (.int (0) :: st) h := gk_ic (by decide)
theorem s_X_mend_23 {x : Int32} : wps rm K Q c_X_mend_23 kc ks loc (.int x :: st) h = wps rm K Q c_X_mend_24 kc ks (eg_set1 loc 3 (.int x)) (st) h := gk_istore
theorem s_X_mend_24  : wps rm K Q c_X_mend_24 kc ks loc (st) h = wps rm K Q c_X_mend_25 kc ks loc (.int (0) :: st) h := gk_ic (by decide)
theorem s_X_mend_25 {x : Int32} : wps rm K Q c_X_mend_25 kc ks loc (.int x :: st) h = wps rm K Q z_X_mend_27 kc ks (eg_set1 loc 4 (.int x)) (st) h := gk_istore
theorem s_X_mend_27 {x : Int32} {l0 l1 l2 l3 : Option Value} {l : eg_Lo} : wps rm K Q c_X_mend_27 kc ks (l0 :: l1 :: l2 :: l3 :: some (.int x) :: l) (st) h = wps rm K Q c_X_mend_29 kc ks (l0 :: l1 :: l2 :: l3 :: some (.int x) :: l) (.int x :: st) h := gk_iload rfl
theorem s_X_mend_29 {x : Nat} {l0 l1 : Option Value} {l : eg_Lo} : wps rm K Q c_X_mend_29 kc ks (l0 :: l1 :: some (.ref x) :: l) (st) h = wps rm K Q c_X_mend_30 kc ks (l0 :: l1 :: some (.ref x) :: l) (.ref x :: st) h := gk_aload rfl
theorem s_X_mend_30 {x : Nat} : wps rm K Q c_X_mend_30 kc ks loc (.ref (x + 1) :: st) h = eg_gf h x 8 4 (fun v => wps rm K Q c_X_mend_33 kc ks loc (v :: st) h) := gk_gf
theorem s_X_mend_33 {x y : Int32} : wps rm K Q c_X_mend_33 kc ks loc (.int y :: .int x :: st) h = ((y ≤ x → K 65 kc ks loc st h) ∧ (¬ y ≤ x → wps rm K Q c_X_mend_36 kc ks loc (st) h)) := gk_if2_ge
theorem s_X_mend_36 {x : Nat} {l0 l1 : Option Value} {l : eg_Lo} : wps rm K Q c_X_mend_36 kc ks (l0 :: l1 :: some (.ref x) :: l) (st) h = wps rm K Q c_X_mend_37 kc ks (l0 :: l1 :: some (.ref x) :: l) (.ref x :: st) h := gk_aload rfl
theorem s_X_mend_37 {x : Nat} : wps rm K Q c_X_mend_37 kc ks loc (.ref (x + 1) :: st) h = eg_gf h x 8 3 (fun v => wps rm K Q c_X_mend_40 kc ks loc (v :: st) h) := gk_gf
theorem s_X_mend_40 {x : Int32} {l0 l1 l2 l3 : Option Value} {l : eg_Lo} : wps rm K Q c_X_mend_40 kc ks (l0 :: l1 :: l2 :: l3 :: some (.int x) :: l) (st) h = wps rm K Q c_X_mend_42 kc ks (l0 :: l1 :: l2 :: l3 :: some (.int x) :: l) (.int x :: st) h := gk_iload rfl
theorem s_X_mend_42 {x : Nat} {i : Int32} : wps rm K Q c_X_mend_42 kc ks loc (.int i :: .ref (x + 1) :: st) h = eg_ba h x i (fun v => wps rm K Q c_X_mend_43 kc ks loc (.int v :: st) h) := gk_baload
theorem s_X_mend_43 {x : Int32} : wps rm K Q c_X_mend_43 kc ks loc (.int x :: st) h = ((¬ x = 0 → K 59 kc ks loc st h) ∧ (x = 0 → wps rm K Q c_X_mend_46 kc ks loc (st) h)) := gk_if1_ne
theorem s_X_mend_46 {x : Nat} {l : eg_Lo} : wps rm K Q c_X_mend_46 kc ks (some (.ref x) :: l) (st) h = wps rm K Q c_X_mend_47 kc ks (some (.ref x) :: l) (.ref x :: st) h := gk_aload rfl
theorem s_X_mend_47 {x : Nat} {l0 l1 : Option Value} {l : eg_Lo} : wps rm K Q c_X_mend_47 kc ks (l0 :: l1 :: some (.ref x) :: l) (st) h = wps rm K Q c_X_mend_48 kc ks (l0 :: l1 :: some (.ref x) :: l) (.ref x :: st) h := gk_aload rfl
theorem s_X_mend_48 {x : Int32} {l0 l1 l2 l3 : Option Value} {l : eg_Lo} : wps rm K Q c_X_mend_48 kc ks (l0 :: l1 :: l2 :: l3 :: some (.int x) :: l) (st) h = wps rm K Q c_X_mend_50 kc ks (l0 :: l1 :: l2 :: l3 :: some (.int x) :: l) (.int x :: st) h := gk_iload rfl
theorem s_X_mend_50  {a1 : Value} {a2 : Value} {x : Nat} : wps rm K Q c_X_mend_50 kc ks loc (a2 :: a1 :: .ref (x + 1) :: st) h = (eg_cls h x 11 ∧ st.length ≤ 4 ∧ eg_Cs n_X_mendPoint (.ref (x + 1) :: [a1, a2]) h (fun v h9 => wps rm K Q c_X_mend_53 kc ks loc (v.toList ++ st) h9)) := eg_c1_2
theorem s_X_mend_53 {x : Int32} : wps rm K Q c_X_mend_53 kc ks loc (.int x :: st) h = ((x = 0 → K 59 kc ks loc st h) ∧ (¬ x = 0 → wps rm K Q c_X_mend_56 kc ks loc (st) h)) := gk_if1_eq
theorem s_X_mend_56 {x : Int32} {l0 l1 l2 : Option Value} {lz : eg_Lo} : wps rm K Q c_X_mend_56 kc ks (l0 :: l1 :: l2 :: some (.int x) :: lz) (st) h = wps rm K Q c_X_mend_59 kc ks (eg_set1 (l0 :: l1 :: l2 :: some (.int x) :: lz) 3 (.int (x + (1)))) (st) h := gk_iinc rfl (by decide)
theorem s_X_mend_59 {x : Int32} {l0 l1 l2 l3 : Option Value} {lz : eg_Lo} : wps rm K Q c_X_mend_59 kc ks (l0 :: l1 :: l2 :: l3 :: some (.int x) :: lz) (st) h = wps rm K Q c_X_mend_62 kc ks (eg_set1 (l0 :: l1 :: l2 :: l3 :: some (.int x) :: lz) 4 (.int (x + (1)))) (st) h := gk_iinc rfl (by decide)
theorem s_X_mend_62  : wps rm K Q c_X_mend_62 kc ks loc (st) h = K 27 kc ks loc st h := gk_goto
theorem s_X_mend_65 {x : Int32} {l0 l1 l2 : Option Value} {l : eg_Lo} : wps rm K Q c_X_mend_65 kc ks (l0 :: l1 :: l2 :: some (.int x) :: l) (st) h = wps rm K Q c_X_mend_66 kc ks (l0 :: l1 :: l2 :: some (.int x) :: l) (.int x :: st) h := gk_iload rfl
theorem s_X_mend_66 {x : Int32} : wps rm K Q c_X_mend_66 kc ks loc (.int x :: st) h = wps rm K Q c_X_mend_67 kc ks loc (.long (x.toInt64) :: st) h := gk_i2l
theorem s_X_mend_67 {x : Int64} : wps rm K Q c_X_mend_67 kc ks loc ([.long x]) h = (kc = rm.cells ∧ Q (some (.long x)) h) := gk_lret
theorem sz_X_mend_27 : wps rm K Q z_X_mend_27 kc ks loc st h = K 27 kc ks loc st h := gk_nop
def T_X_mend : List (Nat × List eg_I) := [(15, c_X_mend_15), (59, c_X_mend_59), (65, c_X_mend_65)]
theorem j_X_mend_15 {R : Nat → Nat → Nat → eg_Lo → List Value → List eg_E → Prop} {f pc0 : Nat} : eg_run rm R Q T_X_mend (f + 1) 15 kc ks loc st h = wps rm (eg_run rm R Q T_X_mend f) Q c_X_mend_15 kc ks loc st h := rfl
theorem j_X_mend_59 {R : Nat → Nat → Nat → eg_Lo → List Value → List eg_E → Prop} {f pc0 : Nat} : eg_run rm R Q T_X_mend (f + 1) 59 kc ks loc st h = wps rm (eg_run rm R Q T_X_mend f) Q c_X_mend_59 kc ks loc st h := rfl
theorem j_X_mend_65 {R : Nat → Nat → Nat → eg_Lo → List Value → List eg_E → Prop} {f pc0 : Nat} : eg_run rm R Q T_X_mend (f + 1) 65 kc ks loc st h = wps rm (eg_run rm R Q T_X_mend f) Q c_X_mend_65 kc ks loc st h := rfl
theorem j_X_mend_27 {R : Nat → Nat → Nat → eg_Lo → List Value → List eg_E → Prop} {f pc0 : Nat} : eg_run rm R Q T_X_mend (f + 1) 27 kc ks loc st h = R 27 kc ks loc st h := rfl
end
theorem y_X_mend_0 : eg_seq m_X_mend 0 c_X_mend_0 = true := by decide +kernel
theorem y_X_mend_15 : eg_seq m_X_mend 15 c_X_mend_15 = true := by decide +kernel
theorem y_X_mend_27 : eg_seq m_X_mend 27 c_X_mend_27 = true := by decide +kernel
theorem y_X_mend_65 : eg_seq m_X_mend 65 c_X_mend_65 = true := by decide +kernel
theorem q_X_mend : ∀ q ∈ T_X_mend, eg_seq m_X_mend q.1 q.2 = true := by
  intro q hq
  simp only [T_X_mend, List.mem_cons, List.not_mem_nil, or_false] at hq
  rcases hq with rfl | rfl | rfl
  · exact y_X_mend_15
  · exact (eg_seq_drop y_X_mend_27 15 : eg_seq m_X_mend 59 c_X_mend_59 = true)
  · exact y_X_mend_65
theorem b_X_mend {as : List Value} {h : List eg_E} {Q : Option Value → List eg_E → Prop} (hf : (eg_fl as).length ≤ 5) (hw : wps (eg_rm m_X_mend) (eg_run (eg_rm m_X_mend) (eg_R m_X_mend Q (h.length + 0)) Q T_X_mend 5) Q c_X_mend_0 0 0 (eg_entry 5 as) [] h) : eg_Runs n_X_mend as h Q := eg_begin2 (d := m_X_mend) rfl (by decide) y_X_mend_0 q_X_mend hf hw
theorem p_X_mend_27 {Q : Option Value → List eg_E → Prop} {n0 kc ks : Nat} {loc : eg_Lo} {st : List Value} {h : List eg_E} (hw : wps (eg_rm m_X_mend) (eg_run (eg_rm m_X_mend) (eg_R m_X_mend Q n0) Q T_X_mend 5) Q c_X_mend_27 kc ks loc st h) : eg_R m_X_mend Q n0 27 kc ks loc st h := eg_go2 y_X_mend_27 q_X_mend hw
/-! ===== X_grid ===== -/
def c_X_grid_61 : List eg_I := .inl (61, 1, .lreturn, 0, 0) :: []
def c_X_grid_60 : List eg_I := .inl (60, 1, .sipush (1), 0, 0) :: c_X_grid_61
def c_X_grid_59 : List eg_I := .inl (59, 1, .iastore, 0, 0) :: c_X_grid_60
def c_X_grid_58 : List eg_I := .inl (58, 1, .iload 3, 0, 0) :: c_X_grid_59
def c_X_grid_57 : List eg_I := .inl (57, 1, .iload 1, 0, 0) :: c_X_grid_58
def c_X_grid_54 : List eg_I := .inl (54, 3, .getfield 139, 6, 1) :: c_X_grid_57
def c_X_grid_51 : List eg_I := .inl (51, 3, .getfield 30, 11, 3) :: c_X_grid_54
def c_X_grid_50 : List eg_I := .inl (50, 1, .aload 0, 0, 0) :: c_X_grid_51
def c_X_grid_49 : List eg_I := .inl (49, 1, .iastore, 0, 0) :: c_X_grid_50
def c_X_grid_48 : List eg_I := .inl (48, 1, .iload 2, 0, 0) :: c_X_grid_49
def c_X_grid_47 : List eg_I := .inl (47, 1, .iload 1, 0, 0) :: c_X_grid_48
def c_X_grid_44 : List eg_I := .inl (44, 3, .getfield 136, 6, 0) :: c_X_grid_47
def c_X_grid_41 : List eg_I := .inl (41, 3, .getfield 30, 11, 3) :: c_X_grid_44
def c_X_grid_40 : List eg_I := .inl (40, 1, .aload 0, 0, 0) :: c_X_grid_41
def c_X_grid_39 : List eg_I := .inl (39, 1, .lreturn, 0, 0) :: []
def c_X_grid_36 : List eg_I := .inr (36, 1, 86, n_X_found, 1, 11, 0, 0) :: c_X_grid_39
def c_X_grid_33 : List eg_I := .inl (33, 3, .sipush (-1000000000000000001), 84, 0) :: c_X_grid_36
def c_X_grid_32 : List eg_I := .inl (32, 1, .aload 0, 0, 0) :: c_X_grid_33
def c_X_grid_29 : List eg_I := .inl (29, 3, .ifCond .ne (11), 40, 0) :: c_X_grid_32
def c_X_grid_26 : List eg_I := .inr (26, 0, 80, n_X_isWithin, 3, 11, 0, 0) :: c_X_grid_29
def c_X_grid_24 : List eg_I := .inl (24, 2, .iconst (50), 0, 0) :: c_X_grid_26
def c_X_grid_22 : List eg_I := .inl (22, 2, .iconst (-50), 0, 0) :: c_X_grid_24
def c_X_grid_21 : List eg_I := .inl (21, 1, .iload 3, 0, 0) :: c_X_grid_22
def c_X_grid_18 : List eg_I := .inl (18, 3, .ifCond .eq (14), 32, 0) :: c_X_grid_21
def c_X_grid_15 : List eg_I := .inr (15, 0, 80, n_X_isWithin, 3, 11, 0, 0) :: c_X_grid_18
def c_X_grid_13 : List eg_I := .inl (13, 2, .iconst (50), 0, 0) :: c_X_grid_15
def c_X_grid_11 : List eg_I := .inl (11, 2, .iconst (-50), 0, 0) :: c_X_grid_13
def c_X_grid_10 : List eg_I := .inl (10, 1, .iload 2, 0, 0) :: c_X_grid_11
def c_X_grid_7 : List eg_I := .inl (7, 3, .ifCond .eq (25), 32, 0) :: c_X_grid_10
def c_X_grid_4 : List eg_I := .inr (4, 0, 80, n_X_isWithin, 3, 11, 0, 0) :: c_X_grid_7
def c_X_grid_2 : List eg_I := .inl (2, 2, .iconst (8), 0, 0) :: c_X_grid_4
def c_X_grid_1 : List eg_I := .inl (1, 1, .iconst (0), 0, 0) :: c_X_grid_2
def c_X_grid_0 : List eg_I := .inl (0, 1, .iload 1, 0, 0) :: c_X_grid_1
section
variable {rm : Room} {K : Nat → Nat → Nat → eg_Lo → List Value → List eg_E → Prop} {Q : Option Value → List eg_E → Prop} {kc ks : Nat} {loc : eg_Lo} {st : List Value} {h : List eg_E}
theorem s_X_grid_0 {x : Int32} {l0 : Option Value} {l : eg_Lo} : wps rm K Q c_X_grid_0 kc ks (l0 :: some (.int x) :: l) (st) h = wps rm K Q c_X_grid_1 kc ks (l0 :: some (.int x) :: l) (.int x :: st) h := gk_iload rfl
theorem s_X_grid_1  : wps rm K Q c_X_grid_1 kc ks loc (st) h = wps rm K Q c_X_grid_2 kc ks loc (.int (0) :: st) h := gk_ic (by decide)
theorem s_X_grid_2  : wps rm K Q c_X_grid_2 kc ks loc (st) h = wps rm K Q c_X_grid_4 kc ks loc (.int (8) :: st) h := gk_ic (by decide)
theorem s_X_grid_4  {a1 : Value} {a2 : Value} {a3 : Value} : wps rm K Q c_X_grid_4 kc ks loc (a3 :: a2 :: a1 :: st) h = (st.length ≤ 4 ∧ eg_Cs n_X_isWithin [a1, a2, a3] h (fun v h9 => wps rm K Q c_X_grid_7 kc ks loc (v.toList ++ st) h9)) := eg_c0_3
theorem s_X_grid_7 {x : Int32} : wps rm K Q c_X_grid_7 kc ks loc (.int x :: st) h = ((x = 0 → K 32 kc ks loc st h) ∧ (¬ x = 0 → wps rm K Q c_X_grid_10 kc ks loc (st) h)) := gk_if1_eq
theorem s_X_grid_10 {x : Int32} {l0 l1 : Option Value} {l : eg_Lo} : wps rm K Q c_X_grid_10 kc ks (l0 :: l1 :: some (.int x) :: l) (st) h = wps rm K Q c_X_grid_11 kc ks (l0 :: l1 :: some (.int x) :: l) (.int x :: st) h := gk_iload rfl
theorem s_X_grid_11  : wps rm K Q c_X_grid_11 kc ks loc (st) h = wps rm K Q c_X_grid_13 kc ks loc (.int (-50) :: st) h := gk_ic (by decide)
theorem s_X_grid_13  : wps rm K Q c_X_grid_13 kc ks loc (st) h = wps rm K Q c_X_grid_15 kc ks loc (.int (50) :: st) h := gk_ic (by decide)
theorem s_X_grid_15  {a1 : Value} {a2 : Value} {a3 : Value} : wps rm K Q c_X_grid_15 kc ks loc (a3 :: a2 :: a1 :: st) h = (st.length ≤ 4 ∧ eg_Cs n_X_isWithin [a1, a2, a3] h (fun v h9 => wps rm K Q c_X_grid_18 kc ks loc (v.toList ++ st) h9)) := eg_c0_3
theorem s_X_grid_18 {x : Int32} : wps rm K Q c_X_grid_18 kc ks loc (.int x :: st) h = ((x = 0 → K 32 kc ks loc st h) ∧ (¬ x = 0 → wps rm K Q c_X_grid_21 kc ks loc (st) h)) := gk_if1_eq
theorem s_X_grid_21 {x : Int32} {l0 l1 l2 : Option Value} {l : eg_Lo} : wps rm K Q c_X_grid_21 kc ks (l0 :: l1 :: l2 :: some (.int x) :: l) (st) h = wps rm K Q c_X_grid_22 kc ks (l0 :: l1 :: l2 :: some (.int x) :: l) (.int x :: st) h := gk_iload rfl
theorem s_X_grid_22  : wps rm K Q c_X_grid_22 kc ks loc (st) h = wps rm K Q c_X_grid_24 kc ks loc (.int (-50) :: st) h := gk_ic (by decide)
theorem s_X_grid_24  : wps rm K Q c_X_grid_24 kc ks loc (st) h = wps rm K Q c_X_grid_26 kc ks loc (.int (50) :: st) h := gk_ic (by decide)
theorem s_X_grid_26  {a1 : Value} {a2 : Value} {a3 : Value} : wps rm K Q c_X_grid_26 kc ks loc (a3 :: a2 :: a1 :: st) h = (st.length ≤ 4 ∧ eg_Cs n_X_isWithin [a1, a2, a3] h (fun v h9 => wps rm K Q c_X_grid_29 kc ks loc (v.toList ++ st) h9)) := eg_c0_3
theorem s_X_grid_29 {x : Int32} : wps rm K Q c_X_grid_29 kc ks loc (.int x :: st) h = ((¬ x = 0 → K 40 kc ks loc st h) ∧ (x = 0 → wps rm K Q c_X_grid_32 kc ks loc (st) h)) := gk_if1_ne
theorem s_X_grid_32 {x : Nat} {l : eg_Lo} : wps rm K Q c_X_grid_32 kc ks (some (.ref x) :: l) (st) h = wps rm K Q c_X_grid_33 kc ks (some (.ref x) :: l) (.ref x :: st) h := gk_aload rfl
theorem s_X_grid_33  : wps rm K Q c_X_grid_33 kc ks loc (st) h = wps rm K Q c_X_grid_36 kc ks loc (.long (-1000000000000000001) :: st) h := gk_lc (by decide)
theorem s_X_grid_36  {a1 : Value} {x : Nat} : wps rm K Q c_X_grid_36 kc ks loc (a1 :: .ref (x + 1) :: st) h = (eg_cls h x 11 ∧ st.length ≤ 4 ∧ eg_Cs n_X_found (.ref (x + 1) :: [a1]) h (fun v h9 => wps rm K Q c_X_grid_39 kc ks loc (v.toList ++ st) h9)) := eg_c1_1
theorem s_X_grid_39 {x : Int64} : wps rm K Q c_X_grid_39 kc ks loc ([.long x]) h = (kc = rm.cells ∧ Q (some (.long x)) h) := gk_lret
theorem s_X_grid_40 {x : Nat} {l : eg_Lo} : wps rm K Q c_X_grid_40 kc ks (some (.ref x) :: l) (st) h = wps rm K Q c_X_grid_41 kc ks (some (.ref x) :: l) (.ref x :: st) h := gk_aload rfl
theorem s_X_grid_41 {x : Nat} : wps rm K Q c_X_grid_41 kc ks loc (.ref (x + 1) :: st) h = eg_gf h x 11 3 (fun v => wps rm K Q c_X_grid_44 kc ks loc (v :: st) h) := gk_gf
theorem s_X_grid_44 {x : Nat} : wps rm K Q c_X_grid_44 kc ks loc (.ref (x + 1) :: st) h = eg_gf h x 6 0 (fun v => wps rm K Q c_X_grid_47 kc ks loc (v :: st) h) := gk_gf
theorem s_X_grid_47 {x : Int32} {l0 : Option Value} {l : eg_Lo} : wps rm K Q c_X_grid_47 kc ks (l0 :: some (.int x) :: l) (st) h = wps rm K Q c_X_grid_48 kc ks (l0 :: some (.int x) :: l) (.int x :: st) h := gk_iload rfl
theorem s_X_grid_48 {x : Int32} {l0 l1 : Option Value} {l : eg_Lo} : wps rm K Q c_X_grid_48 kc ks (l0 :: l1 :: some (.int x) :: l) (st) h = wps rm K Q c_X_grid_49 kc ks (l0 :: l1 :: some (.int x) :: l) (.int x :: st) h := gk_iload rfl
theorem s_X_grid_49 {x : Nat} {i : Int32} {v : Int32} : wps rm K Q c_X_grid_49 kc ks loc (.int v :: .int i :: .ref (x + 1) :: st) h = eg_is h x i v (fun h9 => wps rm K Q c_X_grid_50 kc ks loc (st) h9) := gk_iastore
theorem s_X_grid_50 {x : Nat} {l : eg_Lo} : wps rm K Q c_X_grid_50 kc ks (some (.ref x) :: l) (st) h = wps rm K Q c_X_grid_51 kc ks (some (.ref x) :: l) (.ref x :: st) h := gk_aload rfl
theorem s_X_grid_51 {x : Nat} : wps rm K Q c_X_grid_51 kc ks loc (.ref (x + 1) :: st) h = eg_gf h x 11 3 (fun v => wps rm K Q c_X_grid_54 kc ks loc (v :: st) h) := gk_gf
theorem s_X_grid_54 {x : Nat} : wps rm K Q c_X_grid_54 kc ks loc (.ref (x + 1) :: st) h = eg_gf h x 6 1 (fun v => wps rm K Q c_X_grid_57 kc ks loc (v :: st) h) := gk_gf
theorem s_X_grid_57 {x : Int32} {l0 : Option Value} {l : eg_Lo} : wps rm K Q c_X_grid_57 kc ks (l0 :: some (.int x) :: l) (st) h = wps rm K Q c_X_grid_58 kc ks (l0 :: some (.int x) :: l) (.int x :: st) h := gk_iload rfl
theorem s_X_grid_58 {x : Int32} {l0 l1 l2 : Option Value} {l : eg_Lo} : wps rm K Q c_X_grid_58 kc ks (l0 :: l1 :: l2 :: some (.int x) :: l) (st) h = wps rm K Q c_X_grid_59 kc ks (l0 :: l1 :: l2 :: some (.int x) :: l) (.int x :: st) h := gk_iload rfl
theorem s_X_grid_59 {x : Nat} {i : Int32} {v : Int32} : wps rm K Q c_X_grid_59 kc ks loc (.int v :: .int i :: .ref (x + 1) :: st) h = eg_is h x i v (fun h9 => wps rm K Q c_X_grid_60 kc ks loc (st) h9) := gk_iastore
theorem s_X_grid_60  : wps rm K Q c_X_grid_60 kc ks loc (st) h = wps rm K Q c_X_grid_61 kc ks loc (.long (1) :: st) h := gk_lc (by decide)
theorem s_X_grid_61 {x : Int64} : wps rm K Q c_X_grid_61 kc ks loc ([.long x]) h = (kc = rm.cells ∧ Q (some (.long x)) h) := gk_lret
def T_X_grid : List (Nat × List eg_I) := [(32, c_X_grid_32), (40, c_X_grid_40)]
theorem j_X_grid_32 {R : Nat → Nat → Nat → eg_Lo → List Value → List eg_E → Prop} {f pc0 : Nat} : eg_run rm R Q T_X_grid (f + 1) 32 kc ks loc st h = wps rm (eg_run rm R Q T_X_grid f) Q c_X_grid_32 kc ks loc st h := rfl
theorem j_X_grid_40 {R : Nat → Nat → Nat → eg_Lo → List Value → List eg_E → Prop} {f pc0 : Nat} : eg_run rm R Q T_X_grid (f + 1) 40 kc ks loc st h = wps rm (eg_run rm R Q T_X_grid f) Q c_X_grid_40 kc ks loc st h := rfl
end
theorem y_X_grid_0 : eg_seq m_X_grid 0 c_X_grid_0 = true := by decide +kernel
theorem y_X_grid_40 : eg_seq m_X_grid 40 c_X_grid_40 = true := by decide +kernel
theorem q_X_grid : ∀ q ∈ T_X_grid, eg_seq m_X_grid q.1 q.2 = true := by
  intro q hq
  simp only [T_X_grid, List.mem_cons, List.not_mem_nil, or_false] at hq
  rcases hq with rfl | rfl
  · exact (eg_seq_drop y_X_grid_0 15 : eg_seq m_X_grid 32 c_X_grid_32 = true)
  · exact y_X_grid_40
theorem b_X_grid {as : List Value} {h : List eg_E} {Q : Option Value → List eg_E → Prop} (hf : (eg_fl as).length ≤ 4) (hw : wps (eg_rm m_X_grid) (eg_run (eg_rm m_X_grid) (eg_R m_X_grid Q (h.length + 0)) Q T_X_grid 4) Q c_X_grid_0 0 0 (eg_entry 4 as) [] h) : eg_Runs n_X_grid as h Q := eg_begin2 (d := m_X_grid) rfl (by decide) y_X_grid_0 q_X_grid hf hw
/-! ===== X_off ===== -/
def c_X_off_43 : List eg_I := .inl (43, 1, .lreturn, 0, 0) :: []
def c_X_off_42 : List eg_I := .inl (42, 1, .i2l, 0, 0) :: c_X_off_43
def c_X_off_39 : List eg_I := .inr (39, 0, 142, n_Grid_tooGreat, 3, 6, 0, 0) :: c_X_off_42
def c_X_off_38 : List eg_I := .inl (38, 1, .iload 2, 0, 0) :: c_X_off_39
def c_X_off_37 : List eg_I := .inl (37, 1, .iload 1, 0, 0) :: c_X_off_38
def c_X_off_34 : List eg_I := .inl (34, 3, .getfield 136, 6, 0) :: c_X_off_37
def c_X_off_31 : List eg_I := .inl (31, 3, .getfield 30, 11, 3) :: c_X_off_34
def c_X_off_30 : List eg_I := .inl (30, 1, .aload 0, 0, 0) :: c_X_off_31
def c_X_off_27 : List eg_I := .inl (27, 3, .goto (10), 37, 0) :: []
def c_X_off_24 : List eg_I := .inl (24, 3, .getfield 139, 6, 1) :: c_X_off_27
def c_X_off_21 : List eg_I := .inl (21, 3, .getfield 30, 11, 3) :: c_X_off_24
def c_X_off_20 : List eg_I := .inl (20, 1, .aload 0, 0, 0) :: c_X_off_21
def c_X_off_17 : List eg_I := .inl (17, 3, .ifCond .eq (13), 30, 0) :: c_X_off_20
def c_X_off_16 : List eg_I := .inl (16, 1, .iload 3, 0, 0) :: c_X_off_17
def c_X_off_15 : List eg_I := .inl (15, 1, .lreturn, 0, 0) :: []
def c_X_off_12 : List eg_I := .inr (12, 1, 86, n_X_found, 1, 11, 0, 0) :: c_X_off_15
def c_X_off_9 : List eg_I := .inl (9, 3, .sipush (-1000000000000000001), 84, 0) :: c_X_off_12
def c_X_off_8 : List eg_I := .inl (8, 1, .aload 0, 0, 0) :: c_X_off_9
def c_X_off_5 : List eg_I := .inl (5, 3, .ifCond .ne (11), 16, 0) :: c_X_off_8
def c_X_off_2 : List eg_I := .inr (2, 0, 76, n_X_isPlace, 2, 11, 0, 0) :: c_X_off_5
def c_X_off_1 : List eg_I := .inl (1, 1, .iload 2, 0, 0) :: c_X_off_2
def c_X_off_0 : List eg_I := .inl (0, 1, .iload 1, 0, 0) :: c_X_off_1
section
variable {rm : Room} {K : Nat → Nat → Nat → eg_Lo → List Value → List eg_E → Prop} {Q : Option Value → List eg_E → Prop} {kc ks : Nat} {loc : eg_Lo} {st : List Value} {h : List eg_E}
theorem s_X_off_0 {x : Int32} {l0 : Option Value} {l : eg_Lo} : wps rm K Q c_X_off_0 kc ks (l0 :: some (.int x) :: l) (st) h = wps rm K Q c_X_off_1 kc ks (l0 :: some (.int x) :: l) (.int x :: st) h := gk_iload rfl
theorem s_X_off_1 {x : Int32} {l0 l1 : Option Value} {l : eg_Lo} : wps rm K Q c_X_off_1 kc ks (l0 :: l1 :: some (.int x) :: l) (st) h = wps rm K Q c_X_off_2 kc ks (l0 :: l1 :: some (.int x) :: l) (.int x :: st) h := gk_iload rfl
theorem s_X_off_2  {a1 : Value} {a2 : Value} : wps rm K Q c_X_off_2 kc ks loc (a2 :: a1 :: st) h = (st.length ≤ 4 ∧ eg_Cs n_X_isPlace [a1, a2] h (fun v h9 => wps rm K Q c_X_off_5 kc ks loc (v.toList ++ st) h9)) := eg_c0_2
theorem s_X_off_5 {x : Int32} : wps rm K Q c_X_off_5 kc ks loc (.int x :: st) h = ((¬ x = 0 → K 16 kc ks loc st h) ∧ (x = 0 → wps rm K Q c_X_off_8 kc ks loc (st) h)) := gk_if1_ne
theorem s_X_off_8 {x : Nat} {l : eg_Lo} : wps rm K Q c_X_off_8 kc ks (some (.ref x) :: l) (st) h = wps rm K Q c_X_off_9 kc ks (some (.ref x) :: l) (.ref x :: st) h := gk_aload rfl
theorem s_X_off_9  : wps rm K Q c_X_off_9 kc ks loc (st) h = wps rm K Q c_X_off_12 kc ks loc (.long (-1000000000000000001) :: st) h := gk_lc (by decide)
theorem s_X_off_12  {a1 : Value} {x : Nat} : wps rm K Q c_X_off_12 kc ks loc (a1 :: .ref (x + 1) :: st) h = (eg_cls h x 11 ∧ st.length ≤ 4 ∧ eg_Cs n_X_found (.ref (x + 1) :: [a1]) h (fun v h9 => wps rm K Q c_X_off_15 kc ks loc (v.toList ++ st) h9)) := eg_c1_1
theorem s_X_off_15 {x : Int64} : wps rm K Q c_X_off_15 kc ks loc ([.long x]) h = (kc = rm.cells ∧ Q (some (.long x)) h) := gk_lret
theorem s_X_off_16 {x : Int32} {l0 l1 l2 : Option Value} {l : eg_Lo} : wps rm K Q c_X_off_16 kc ks (l0 :: l1 :: l2 :: some (.int x) :: l) (st) h = wps rm K Q c_X_off_17 kc ks (l0 :: l1 :: l2 :: some (.int x) :: l) (.int x :: st) h := gk_iload rfl
theorem s_X_off_17 {x : Int32} : wps rm K Q c_X_off_17 kc ks loc (.int x :: st) h = ((x = 0 → K 30 kc ks loc st h) ∧ (¬ x = 0 → wps rm K Q c_X_off_20 kc ks loc (st) h)) := gk_if1_eq
theorem s_X_off_20 {x : Nat} {l : eg_Lo} : wps rm K Q c_X_off_20 kc ks (some (.ref x) :: l) (st) h = wps rm K Q c_X_off_21 kc ks (some (.ref x) :: l) (.ref x :: st) h := gk_aload rfl
theorem s_X_off_21 {x : Nat} : wps rm K Q c_X_off_21 kc ks loc (.ref (x + 1) :: st) h = eg_gf h x 11 3 (fun v => wps rm K Q c_X_off_24 kc ks loc (v :: st) h) := gk_gf
theorem s_X_off_24 {x : Nat} : wps rm K Q c_X_off_24 kc ks loc (.ref (x + 1) :: st) h = eg_gf h x 6 1 (fun v => wps rm K Q c_X_off_27 kc ks loc (v :: st) h) := gk_gf
theorem s_X_off_27  : wps rm K Q c_X_off_27 kc ks loc (st) h = K 37 kc ks loc st h := gk_goto
theorem s_X_off_30 {x : Nat} {l : eg_Lo} : wps rm K Q c_X_off_30 kc ks (some (.ref x) :: l) (st) h = wps rm K Q c_X_off_31 kc ks (some (.ref x) :: l) (.ref x :: st) h := gk_aload rfl
theorem s_X_off_31 {x : Nat} : wps rm K Q c_X_off_31 kc ks loc (.ref (x + 1) :: st) h = eg_gf h x 11 3 (fun v => wps rm K Q c_X_off_34 kc ks loc (v :: st) h) := gk_gf
theorem s_X_off_34 {x : Nat} : wps rm K Q c_X_off_34 kc ks loc (.ref (x + 1) :: st) h = eg_gf h x 6 0 (fun v => wps rm K Q c_X_off_37 kc ks loc (v :: st) h) := gk_gf
theorem s_X_off_37 {x : Int32} {l0 : Option Value} {l : eg_Lo} : wps rm K Q c_X_off_37 kc ks (l0 :: some (.int x) :: l) (st) h = wps rm K Q c_X_off_38 kc ks (l0 :: some (.int x) :: l) (.int x :: st) h := gk_iload rfl
theorem s_X_off_38 {x : Int32} {l0 l1 : Option Value} {l : eg_Lo} : wps rm K Q c_X_off_38 kc ks (l0 :: l1 :: some (.int x) :: l) (st) h = wps rm K Q c_X_off_39 kc ks (l0 :: l1 :: some (.int x) :: l) (.int x :: st) h := gk_iload rfl
theorem s_X_off_39  {a1 : Value} {a2 : Value} {a3 : Value} : wps rm K Q c_X_off_39 kc ks loc (a3 :: a2 :: a1 :: st) h = (st.length ≤ 4 ∧ eg_Cs n_Grid_tooGreat [a1, a2, a3] h (fun v h9 => wps rm K Q c_X_off_42 kc ks loc (v.toList ++ st) h9)) := eg_c0_3
theorem s_X_off_42 {x : Int32} : wps rm K Q c_X_off_42 kc ks loc (.int x :: st) h = wps rm K Q c_X_off_43 kc ks loc (.long (x.toInt64) :: st) h := gk_i2l
theorem s_X_off_43 {x : Int64} : wps rm K Q c_X_off_43 kc ks loc ([.long x]) h = (kc = rm.cells ∧ Q (some (.long x)) h) := gk_lret
def T_X_off : List (Nat × List eg_I) := [(16, c_X_off_16), (30, c_X_off_30), (37, c_X_off_37)]
theorem j_X_off_16 {R : Nat → Nat → Nat → eg_Lo → List Value → List eg_E → Prop} {f pc0 : Nat} : eg_run rm R Q T_X_off (f + 1) 16 kc ks loc st h = wps rm (eg_run rm R Q T_X_off f) Q c_X_off_16 kc ks loc st h := rfl
theorem j_X_off_30 {R : Nat → Nat → Nat → eg_Lo → List Value → List eg_E → Prop} {f pc0 : Nat} : eg_run rm R Q T_X_off (f + 1) 30 kc ks loc st h = wps rm (eg_run rm R Q T_X_off f) Q c_X_off_30 kc ks loc st h := rfl
theorem j_X_off_37 {R : Nat → Nat → Nat → eg_Lo → List Value → List eg_E → Prop} {f pc0 : Nat} : eg_run rm R Q T_X_off (f + 1) 37 kc ks loc st h = wps rm (eg_run rm R Q T_X_off f) Q c_X_off_37 kc ks loc st h := rfl
end
theorem y_X_off_0 : eg_seq m_X_off 0 c_X_off_0 = true := by decide +kernel
theorem y_X_off_16 : eg_seq m_X_off 16 c_X_off_16 = true := by decide +kernel
theorem y_X_off_30 : eg_seq m_X_off 30 c_X_off_30 = true := by decide +kernel
theorem q_X_off : ∀ q ∈ T_X_off, eg_seq m_X_off q.1 q.2 = true := by
  intro q hq
  simp only [T_X_off, List.mem_cons, List.not_mem_nil, or_false] at hq
  rcases hq with rfl | rfl | rfl
  · exact y_X_off_16
  · exact y_X_off_30
  · exact (eg_seq_drop y_X_off_30 3 : eg_seq m_X_off 37 c_X_off_37 = true)
theorem b_X_off {as : List Value} {h : List eg_E} {Q : Option Value → List eg_E → Prop} (hf : (eg_fl as).length ≤ 4) (hw : wps (eg_rm m_X_off) (eg_run (eg_rm m_X_off) (eg_R m_X_off Q (h.length + 0)) Q T_X_off 5) Q c_X_off_0 0 0 (eg_entry 4 as) [] h) : eg_Runs n_X_off as h Q := eg_begin2 (d := m_X_off) rfl (by decide) y_X_off_0 q_X_off hf hw
/-! ===== X_apart ===== -/
def z_X_apart_65 : List eg_I := [.inl (65, 0, .nop, 0, 0)]
def c_X_apart_140 : List eg_I := .inl (140, 1, .lreturn, 0, 0) :: []
def c_X_apart_139 : List eg_I := .inl (139, 1, .i2l, 0, 0) :: c_X_apart_140
def c_X_apart_137 : List eg_I := .inl (137, 2, .iload 7, 0, 0) :: c_X_apart_139
def c_X_apart_134 : List eg_I := .inl (134, 3, .goto (6), 140, 0) :: []
def c_X_apart_132 : List eg_I := .inl (132, 2, .lload 5, 0, 0) :: c_X_apart_134
def c_X_apart_129 : List eg_I := .inl (129, 3, .ifCond .ne (8), 137, 0) :: c_X_apart_132
def c_X_apart_128 : List eg_I := .inl (128, 1, .iload 3, 0, 0) :: c_X_apart_129
def c_X_apart_127 : List eg_I := .inl (127, 1, .lreturn, 0, 0) :: []
def c_X_apart_124 : List eg_I := .inr (124, 1, 86, n_X_found, 1, 11, 0, 0) :: c_X_apart_127
def c_X_apart_121 : List eg_I := .inl (121, 3, .sipush (-1000000000000000006), 158, 0) :: c_X_apart_124
def c_X_apart_120 : List eg_I := .inl (120, 1, .aload 0, 0, 0) :: c_X_apart_121
def c_X_apart_117 : List eg_I := .inl (117, 3, .ifCond .ge (11), 128, 0) :: c_X_apart_120
def c_X_apart_116 : List eg_I := .inl (116, 1, .lcmp, 0, 0) :: c_X_apart_117
def c_X_apart_115 : List eg_I := .inl (115, 1, .sipush (0), 0, 0) :: c_X_apart_116
def c_X_apart_113 : List eg_I := .inl (113, 2, .lload 5, 0, 0) :: c_X_apart_115
def c_X_apart_110 : List eg_I := .inl (110, 3, .goto (-45), 65, 0) :: []
def c_X_apart_107 : List eg_I := .inl (107, 3, .iinc 8 (1), 0, 0) :: c_X_apart_110
def c_X_apart_105 : List eg_I := .inl (105, 2, .istore 7, 0, 0) :: c_X_apart_107
def c_X_apart_103 : List eg_I := .inl (103, 2, .iload 8, 0, 0) :: c_X_apart_105
def c_X_apart_101 : List eg_I := .inl (101, 2, .lstore 5, 0, 0) :: c_X_apart_103
def c_X_apart_99 : List eg_I := .inl (99, 2, .lload 9, 0, 0) :: c_X_apart_101
def c_X_apart_96 : List eg_I := .inl (96, 3, .ifCond .le (11), 107, 0) :: c_X_apart_99
def c_X_apart_95 : List eg_I := .inl (95, 1, .lcmp, 0, 0) :: c_X_apart_96
def c_X_apart_93 : List eg_I := .inl (93, 2, .lload 5, 0, 0) :: c_X_apart_95
def c_X_apart_91 : List eg_I := .inl (91, 2, .lload 9, 0, 0) :: c_X_apart_93
def c_X_apart_89 : List eg_I := .inl (89, 2, .lstore 9, 0, 0) :: c_X_apart_91
def c_X_apart_86 : List eg_I := .inr (86, 0, 154, n_X_squareApart, 3, 11, 0, 0) :: c_X_apart_89
def c_X_apart_84 : List eg_I := .inl (84, 2, .iload 8, 0, 0) :: c_X_apart_86
def c_X_apart_83 : List eg_I := .inl (83, 1, .aaload, 0, 0) :: c_X_apart_84
def c_X_apart_82 : List eg_I := .inl (82, 1, .iload 2, 0, 0) :: c_X_apart_83
def c_X_apart_79 : List eg_I := .inl (79, 3, .getfield 11, 11, 0) :: c_X_apart_82
def c_X_apart_78 : List eg_I := .inl (78, 1, .aload 0, 0, 0) :: c_X_apart_79
def c_X_apart_77 : List eg_I := .inl (77, 1, .aaload, 0, 0) :: c_X_apart_78
def c_X_apart_76 : List eg_I := .inl (76, 1, .iload 1, 0, 0) :: c_X_apart_77
def c_X_apart_73 : List eg_I := .inl (73, 3, .getfield 11, 11, 0) :: c_X_apart_76
def c_X_apart_72 : List eg_I := .inl (72, 1, .aload 0, 0, 0) :: c_X_apart_73
def c_X_apart_69 : List eg_I := .inl (69, 3, .if_icmp .ge (44), 113, 0) :: c_X_apart_72
def c_X_apart_67 : List eg_I := .inl (67, 2, .iload 4, 0, 0) :: c_X_apart_69
def c_X_apart_65 : List eg_I := .inl (65, 2, .iload 8, 0, 0) :: c_X_apart_67
def c_X_apart_63 : List eg_I := .inl (63, 2, .istore 8, 0, 0) :: z_X_apart_65
def c_X_apart_62 : List eg_I := .inl (62, 1, .iconst (0), 0, 0) :: c_X_apart_63
def c_X_apart_60 : List eg_I := .inl (60, 2, .istore 7, 0, 0) :: c_X_apart_62
def c_X_apart_59 : List eg_I := .inl (59, 1, .iconst (0), 0, 0) :: c_X_apart_60
def c_X_apart_57 : List eg_I := .inl (57, 2, .lstore 5, 0, 0) :: c_X_apart_59
def c_X_apart_54 : List eg_I := .inl (54, 3, .sipush (-1), 152, 0) :: c_X_apart_57
def c_X_apart_52 : List eg_I := .inl (52, 2, .istore 4, 0, 0) :: c_X_apart_54
def c_X_apart_49 : List eg_I := .inr (49, 0, 146, n_Math_min, 2, 13, 0, 0) :: c_X_apart_52
def c_X_apart_46 : List eg_I := .inl (46, 3, .getfield 128, 8, 4) :: c_X_apart_49
def c_X_apart_45 : List eg_I := .inl (45, 1, .aaload, 0, 0) :: c_X_apart_46
def c_X_apart_44 : List eg_I := .inl (44, 1, .iload 2, 0, 0) :: c_X_apart_45
def c_X_apart_41 : List eg_I := .inl (41, 3, .getfield 11, 11, 0) :: c_X_apart_44
def c_X_apart_40 : List eg_I := .inl (40, 1, .aload 0, 0, 0) :: c_X_apart_41
def c_X_apart_37 : List eg_I := .inl (37, 3, .getfield 128, 8, 4) :: c_X_apart_40
def c_X_apart_36 : List eg_I := .inl (36, 1, .aaload, 0, 0) :: c_X_apart_37
def c_X_apart_35 : List eg_I := .inl (35, 1, .iload 1, 0, 0) :: c_X_apart_36
def c_X_apart_32 : List eg_I := .inl (32, 3, .getfield 11, 11, 0) :: c_X_apart_35
def c_X_apart_31 : List eg_I := .inl (31, 1, .aload 0, 0, 0) :: c_X_apart_32
def c_X_apart_30 : List eg_I := .inl (30, 1, .lreturn, 0, 0) :: []
def c_X_apart_27 : List eg_I := .inr (27, 1, 86, n_X_found, 1, 11, 0, 0) :: c_X_apart_30
def c_X_apart_24 : List eg_I := .inl (24, 3, .sipush (-1000000000000000001), 84, 0) :: c_X_apart_27
def c_X_apart_23 : List eg_I := .inl (23, 1, .aload 0, 0, 0) :: c_X_apart_24
def c_X_apart_20 : List eg_I := .inl (20, 3, .ifCond .ne (11), 31, 0) :: c_X_apart_23
def c_X_apart_17 : List eg_I := .inr (17, 0, 80, n_X_isWithin, 3, 11, 0, 0) :: c_X_apart_20
def c_X_apart_16 : List eg_I := .inl (16, 1, .iconst (1), 0, 0) :: c_X_apart_17
def c_X_apart_15 : List eg_I := .inl (15, 1, .iconst (0), 0, 0) :: c_X_apart_16
def c_X_apart_14 : List eg_I := .inl (14, 1, .iload 3, 0, 0) :: c_X_apart_15
def c_X_apart_11 : List eg_I := .inl (11, 3, .ifCond .eq (12), 23, 0) :: c_X_apart_14
def c_X_apart_8 : List eg_I := .inr (8, 0, 72, n_X_isPart, 1, 11, 0, 0) :: c_X_apart_11
def c_X_apart_7 : List eg_I := .inl (7, 1, .iload 2, 0, 0) :: c_X_apart_8
def c_X_apart_4 : List eg_I := .inl (4, 3, .ifCond .eq (19), 23, 0) :: c_X_apart_7
def c_X_apart_1 : List eg_I := .inr (1, 0, 72, n_X_isPart, 1, 11, 0, 0) :: c_X_apart_4
def c_X_apart_0 : List eg_I := .inl (0, 1, .iload 1, 0, 0) :: c_X_apart_1
section
variable {rm : Room} {K : Nat → Nat → Nat → eg_Lo → List Value → List eg_E → Prop} {Q : Option Value → List eg_E → Prop} {kc ks : Nat} {loc : eg_Lo} {st : List Value} {h : List eg_E}
theorem s_X_apart_0 {x : Int32} {l0 : Option Value} {l : eg_Lo} : wps rm K Q c_X_apart_0 kc ks (l0 :: some (.int x) :: l) (st) h = wps rm K Q c_X_apart_1 kc ks (l0 :: some (.int x) :: l) (.int x :: st) h := gk_iload rfl
theorem s_X_apart_1  {a1 : Value} : wps rm K Q c_X_apart_1 kc ks loc (a1 :: st) h = (st.length ≤ 4 ∧ eg_Cs n_X_isPart [a1] h (fun v h9 => wps rm K Q c_X_apart_4 kc ks loc (v.toList ++ st) h9)) := eg_c0_1
theorem s_X_apart_4 {x : Int32} : wps rm K Q c_X_apart_4 kc ks loc (.int x :: st) h = ((x = 0 → K 23 kc ks loc st h) ∧ (¬ x = 0 → wps rm K Q c_X_apart_7 kc ks loc (st) h)) := gk_if1_eq
theorem s_X_apart_7 {x : Int32} {l0 l1 : Option Value} {l : eg_Lo} : wps rm K Q c_X_apart_7 kc ks (l0 :: l1 :: some (.int x) :: l) (st) h = wps rm K Q c_X_apart_8 kc ks (l0 :: l1 :: some (.int x) :: l) (.int x :: st) h := gk_iload rfl
theorem s_X_apart_8  {a1 : Value} : wps rm K Q c_X_apart_8 kc ks loc (a1 :: st) h = (st.length ≤ 4 ∧ eg_Cs n_X_isPart [a1] h (fun v h9 => wps rm K Q c_X_apart_11 kc ks loc (v.toList ++ st) h9)) := eg_c0_1
theorem s_X_apart_11 {x : Int32} : wps rm K Q c_X_apart_11 kc ks loc (.int x :: st) h = ((x = 0 → K 23 kc ks loc st h) ∧ (¬ x = 0 → wps rm K Q c_X_apart_14 kc ks loc (st) h)) := gk_if1_eq
theorem s_X_apart_14 {x : Int32} {l0 l1 l2 : Option Value} {l : eg_Lo} : wps rm K Q c_X_apart_14 kc ks (l0 :: l1 :: l2 :: some (.int x) :: l) (st) h = wps rm K Q c_X_apart_15 kc ks (l0 :: l1 :: l2 :: some (.int x) :: l) (.int x :: st) h := gk_iload rfl
theorem s_X_apart_15  : wps rm K Q c_X_apart_15 kc ks loc (st) h = wps rm K Q c_X_apart_16 kc ks loc (.int (0) :: st) h := gk_ic (by decide)
theorem s_X_apart_16  : wps rm K Q c_X_apart_16 kc ks loc (st) h = wps rm K Q c_X_apart_17 kc ks loc (.int (1) :: st) h := gk_ic (by decide)
theorem s_X_apart_17  {a1 : Value} {a2 : Value} {a3 : Value} : wps rm K Q c_X_apart_17 kc ks loc (a3 :: a2 :: a1 :: st) h = (st.length ≤ 4 ∧ eg_Cs n_X_isWithin [a1, a2, a3] h (fun v h9 => wps rm K Q c_X_apart_20 kc ks loc (v.toList ++ st) h9)) := eg_c0_3
theorem s_X_apart_20 {x : Int32} : wps rm K Q c_X_apart_20 kc ks loc (.int x :: st) h = ((¬ x = 0 → K 31 kc ks loc st h) ∧ (x = 0 → wps rm K Q c_X_apart_23 kc ks loc (st) h)) := gk_if1_ne
theorem s_X_apart_23 {x : Nat} {l : eg_Lo} : wps rm K Q c_X_apart_23 kc ks (some (.ref x) :: l) (st) h = wps rm K Q c_X_apart_24 kc ks (some (.ref x) :: l) (.ref x :: st) h := gk_aload rfl
theorem s_X_apart_24  : wps rm K Q c_X_apart_24 kc ks loc (st) h = wps rm K Q c_X_apart_27 kc ks loc (.long (-1000000000000000001) :: st) h := gk_lc (by decide)
theorem s_X_apart_27  {a1 : Value} {x : Nat} : wps rm K Q c_X_apart_27 kc ks loc (a1 :: .ref (x + 1) :: st) h = (eg_cls h x 11 ∧ st.length ≤ 4 ∧ eg_Cs n_X_found (.ref (x + 1) :: [a1]) h (fun v h9 => wps rm K Q c_X_apart_30 kc ks loc (v.toList ++ st) h9)) := eg_c1_1
theorem s_X_apart_30 {x : Int64} : wps rm K Q c_X_apart_30 kc ks loc ([.long x]) h = (kc = rm.cells ∧ Q (some (.long x)) h) := gk_lret
theorem s_X_apart_31 {x : Nat} {l : eg_Lo} : wps rm K Q c_X_apart_31 kc ks (some (.ref x) :: l) (st) h = wps rm K Q c_X_apart_32 kc ks (some (.ref x) :: l) (.ref x :: st) h := gk_aload rfl
theorem s_X_apart_32 {x : Nat} : wps rm K Q c_X_apart_32 kc ks loc (.ref (x + 1) :: st) h = eg_gf h x 11 0 (fun v => wps rm K Q c_X_apart_35 kc ks loc (v :: st) h) := gk_gf
theorem s_X_apart_35 {x : Int32} {l0 : Option Value} {l : eg_Lo} : wps rm K Q c_X_apart_35 kc ks (l0 :: some (.int x) :: l) (st) h = wps rm K Q c_X_apart_36 kc ks (l0 :: some (.int x) :: l) (.int x :: st) h := gk_iload rfl
theorem s_X_apart_36 {x : Nat} {i : Int32} : wps rm K Q c_X_apart_36 kc ks loc (.int i :: .ref (x + 1) :: st) h = eg_aa h x i (fun v => wps rm K Q c_X_apart_37 kc ks loc (v :: st) h) := gk_aaload
theorem s_X_apart_37 {x : Nat} : wps rm K Q c_X_apart_37 kc ks loc (.ref (x + 1) :: st) h = eg_gf h x 8 4 (fun v => wps rm K Q c_X_apart_40 kc ks loc (v :: st) h) := gk_gf
theorem s_X_apart_40 {x : Nat} {l : eg_Lo} : wps rm K Q c_X_apart_40 kc ks (some (.ref x) :: l) (st) h = wps rm K Q c_X_apart_41 kc ks (some (.ref x) :: l) (.ref x :: st) h := gk_aload rfl
theorem s_X_apart_41 {x : Nat} : wps rm K Q c_X_apart_41 kc ks loc (.ref (x + 1) :: st) h = eg_gf h x 11 0 (fun v => wps rm K Q c_X_apart_44 kc ks loc (v :: st) h) := gk_gf
theorem s_X_apart_44 {x : Int32} {l0 l1 : Option Value} {l : eg_Lo} : wps rm K Q c_X_apart_44 kc ks (l0 :: l1 :: some (.int x) :: l) (st) h = wps rm K Q c_X_apart_45 kc ks (l0 :: l1 :: some (.int x) :: l) (.int x :: st) h := gk_iload rfl
theorem s_X_apart_45 {x : Nat} {i : Int32} : wps rm K Q c_X_apart_45 kc ks loc (.int i :: .ref (x + 1) :: st) h = eg_aa h x i (fun v => wps rm K Q c_X_apart_46 kc ks loc (v :: st) h) := gk_aaload
theorem s_X_apart_46 {x : Nat} : wps rm K Q c_X_apart_46 kc ks loc (.ref (x + 1) :: st) h = eg_gf h x 8 4 (fun v => wps rm K Q c_X_apart_49 kc ks loc (v :: st) h) := gk_gf
theorem s_X_apart_49  {a1 : Value} {a2 : Value} : wps rm K Q c_X_apart_49 kc ks loc (a2 :: a1 :: st) h = (st.length ≤ 4 ∧ eg_Cs n_Math_min [a1, a2] h (fun v h9 => wps rm K Q c_X_apart_52 kc ks loc (v.toList ++ st) h9)) := eg_c0_2
theorem s_X_apart_52 {x : Int32} : wps rm K Q c_X_apart_52 kc ks loc (.int x :: st) h = wps rm K Q c_X_apart_54 kc ks (eg_set1 loc 4 (.int x)) (st) h := gk_istore
theorem s_X_apart_54  : wps rm K Q c_X_apart_54 kc ks loc (st) h = wps rm K Q c_X_apart_57 kc ks loc (.long (-1) :: st) h := gk_lc (by decide)
theorem s_X_apart_57 {x : Int64} : wps rm K Q c_X_apart_57 kc ks loc (.long x :: st) h = wps rm K Q c_X_apart_59 kc ks (eg_set2 loc 5 (.long x)) (st) h := gk_lstore
theorem s_X_apart_59  : wps rm K Q c_X_apart_59 kc ks loc (st) h = wps rm K Q c_X_apart_60 kc ks loc (.int (0) :: st) h := gk_ic (by decide)
theorem s_X_apart_60 {x : Int32} : wps rm K Q c_X_apart_60 kc ks loc (.int x :: st) h = wps rm K Q c_X_apart_62 kc ks (eg_set1 loc 7 (.int x)) (st) h := gk_istore
theorem s_X_apart_62  : wps rm K Q c_X_apart_62 kc ks loc (st) h = wps rm K Q c_X_apart_63 kc ks loc (.int (0) :: st) h := gk_ic (by decide)
theorem s_X_apart_63 {x : Int32} : wps rm K Q c_X_apart_63 kc ks loc (.int x :: st) h = wps rm K Q z_X_apart_65 kc ks (eg_set1 loc 8 (.int x)) (st) h := gk_istore
theorem s_X_apart_65 {x : Int32} {l0 l1 l2 l3 l4 l5 l6 l7 : Option Value} {l : eg_Lo} : wps rm K Q c_X_apart_65 kc ks (l0 :: l1 :: l2 :: l3 :: l4 :: l5 :: l6 :: l7 :: some (.int x) :: l) (st) h = wps rm K Q c_X_apart_67 kc ks (l0 :: l1 :: l2 :: l3 :: l4 :: l5 :: l6 :: l7 :: some (.int x) :: l) (.int x :: st) h := gk_iload rfl
theorem s_X_apart_67 {x : Int32} {l0 l1 l2 l3 : Option Value} {l : eg_Lo} : wps rm K Q c_X_apart_67 kc ks (l0 :: l1 :: l2 :: l3 :: some (.int x) :: l) (st) h = wps rm K Q c_X_apart_69 kc ks (l0 :: l1 :: l2 :: l3 :: some (.int x) :: l) (.int x :: st) h := gk_iload rfl
theorem s_X_apart_69 {x y : Int32} : wps rm K Q c_X_apart_69 kc ks loc (.int y :: .int x :: st) h = ((y ≤ x → K 113 kc ks loc st h) ∧ (¬ y ≤ x → wps rm K Q c_X_apart_72 kc ks loc (st) h)) := gk_if2_ge
theorem s_X_apart_72 {x : Nat} {l : eg_Lo} : wps rm K Q c_X_apart_72 kc ks (some (.ref x) :: l) (st) h = wps rm K Q c_X_apart_73 kc ks (some (.ref x) :: l) (.ref x :: st) h := gk_aload rfl
theorem s_X_apart_73 {x : Nat} : wps rm K Q c_X_apart_73 kc ks loc (.ref (x + 1) :: st) h = eg_gf h x 11 0 (fun v => wps rm K Q c_X_apart_76 kc ks loc (v :: st) h) := gk_gf
theorem s_X_apart_76 {x : Int32} {l0 : Option Value} {l : eg_Lo} : wps rm K Q c_X_apart_76 kc ks (l0 :: some (.int x) :: l) (st) h = wps rm K Q c_X_apart_77 kc ks (l0 :: some (.int x) :: l) (.int x :: st) h := gk_iload rfl
theorem s_X_apart_77 {x : Nat} {i : Int32} : wps rm K Q c_X_apart_77 kc ks loc (.int i :: .ref (x + 1) :: st) h = eg_aa h x i (fun v => wps rm K Q c_X_apart_78 kc ks loc (v :: st) h) := gk_aaload
theorem s_X_apart_78 {x : Nat} {l : eg_Lo} : wps rm K Q c_X_apart_78 kc ks (some (.ref x) :: l) (st) h = wps rm K Q c_X_apart_79 kc ks (some (.ref x) :: l) (.ref x :: st) h := gk_aload rfl
theorem s_X_apart_79 {x : Nat} : wps rm K Q c_X_apart_79 kc ks loc (.ref (x + 1) :: st) h = eg_gf h x 11 0 (fun v => wps rm K Q c_X_apart_82 kc ks loc (v :: st) h) := gk_gf
theorem s_X_apart_82 {x : Int32} {l0 l1 : Option Value} {l : eg_Lo} : wps rm K Q c_X_apart_82 kc ks (l0 :: l1 :: some (.int x) :: l) (st) h = wps rm K Q c_X_apart_83 kc ks (l0 :: l1 :: some (.int x) :: l) (.int x :: st) h := gk_iload rfl
theorem s_X_apart_83 {x : Nat} {i : Int32} : wps rm K Q c_X_apart_83 kc ks loc (.int i :: .ref (x + 1) :: st) h = eg_aa h x i (fun v => wps rm K Q c_X_apart_84 kc ks loc (v :: st) h) := gk_aaload
theorem s_X_apart_84 {x : Int32} {l0 l1 l2 l3 l4 l5 l6 l7 : Option Value} {l : eg_Lo} : wps rm K Q c_X_apart_84 kc ks (l0 :: l1 :: l2 :: l3 :: l4 :: l5 :: l6 :: l7 :: some (.int x) :: l) (st) h = wps rm K Q c_X_apart_86 kc ks (l0 :: l1 :: l2 :: l3 :: l4 :: l5 :: l6 :: l7 :: some (.int x) :: l) (.int x :: st) h := gk_iload rfl
theorem s_X_apart_86  {a1 : Value} {a2 : Value} {a3 : Value} : wps rm K Q c_X_apart_86 kc ks loc (a3 :: a2 :: a1 :: st) h = (st.length ≤ 4 ∧ eg_Cs n_X_squareApart [a1, a2, a3] h (fun v h9 => wps rm K Q c_X_apart_89 kc ks loc (v.toList ++ st) h9)) := eg_c0_3
theorem s_X_apart_89 {x : Int64} : wps rm K Q c_X_apart_89 kc ks loc (.long x :: st) h = wps rm K Q c_X_apart_91 kc ks (eg_set2 loc 9 (.long x)) (st) h := gk_lstore
theorem s_X_apart_91 {x : Int64} {l0 l1 l2 l3 l4 l5 l6 l7 l8 : Option Value} {l : eg_Lo} : wps rm K Q c_X_apart_91 kc ks (l0 :: l1 :: l2 :: l3 :: l4 :: l5 :: l6 :: l7 :: l8 :: some (.long x) :: l) (st) h = wps rm K Q c_X_apart_93 kc ks (l0 :: l1 :: l2 :: l3 :: l4 :: l5 :: l6 :: l7 :: l8 :: some (.long x) :: l) (.long x :: st) h := gk_lload rfl
theorem s_X_apart_93 {x : Int64} {l0 l1 l2 l3 l4 : Option Value} {l : eg_Lo} : wps rm K Q c_X_apart_93 kc ks (l0 :: l1 :: l2 :: l3 :: l4 :: some (.long x) :: l) (st) h = wps rm K Q c_X_apart_95 kc ks (l0 :: l1 :: l2 :: l3 :: l4 :: some (.long x) :: l) (.long x :: st) h := gk_lload rfl
theorem s_X_apart_95 {x y : Int64} : wps rm K Q c_X_apart_95 kc ks loc (.long y :: .long x :: st) h = wps rm K Q c_X_apart_96 kc ks loc (.int (lg_cmp x y) :: st) h := gk_lcmp
theorem s_X_apart_96 {x : Int32} : wps rm K Q c_X_apart_96 kc ks loc (.int x :: st) h = ((x ≤ 0 → K 107 kc ks loc st h) ∧ (¬ x ≤ 0 → wps rm K Q c_X_apart_99 kc ks loc (st) h)) := gk_if1_le
theorem s_X_apart_99 {x : Int64} {l0 l1 l2 l3 l4 l5 l6 l7 l8 : Option Value} {l : eg_Lo} : wps rm K Q c_X_apart_99 kc ks (l0 :: l1 :: l2 :: l3 :: l4 :: l5 :: l6 :: l7 :: l8 :: some (.long x) :: l) (st) h = wps rm K Q c_X_apart_101 kc ks (l0 :: l1 :: l2 :: l3 :: l4 :: l5 :: l6 :: l7 :: l8 :: some (.long x) :: l) (.long x :: st) h := gk_lload rfl
theorem s_X_apart_101 {x : Int64} : wps rm K Q c_X_apart_101 kc ks loc (.long x :: st) h = wps rm K Q c_X_apart_103 kc ks (eg_set2 loc 5 (.long x)) (st) h := gk_lstore
theorem s_X_apart_103 {x : Int32} {l0 l1 l2 l3 l4 l5 l6 l7 : Option Value} {l : eg_Lo} : wps rm K Q c_X_apart_103 kc ks (l0 :: l1 :: l2 :: l3 :: l4 :: l5 :: l6 :: l7 :: some (.int x) :: l) (st) h = wps rm K Q c_X_apart_105 kc ks (l0 :: l1 :: l2 :: l3 :: l4 :: l5 :: l6 :: l7 :: some (.int x) :: l) (.int x :: st) h := gk_iload rfl
theorem s_X_apart_105 {x : Int32} : wps rm K Q c_X_apart_105 kc ks loc (.int x :: st) h = wps rm K Q c_X_apart_107 kc ks (eg_set1 loc 7 (.int x)) (st) h := gk_istore
theorem s_X_apart_107 {x : Int32} {l0 l1 l2 l3 l4 l5 l6 l7 : Option Value} {lz : eg_Lo} : wps rm K Q c_X_apart_107 kc ks (l0 :: l1 :: l2 :: l3 :: l4 :: l5 :: l6 :: l7 :: some (.int x) :: lz) (st) h = wps rm K Q c_X_apart_110 kc ks (eg_set1 (l0 :: l1 :: l2 :: l3 :: l4 :: l5 :: l6 :: l7 :: some (.int x) :: lz) 8 (.int (x + (1)))) (st) h := gk_iinc rfl (by decide)
theorem s_X_apart_110  : wps rm K Q c_X_apart_110 kc ks loc (st) h = K 65 kc ks loc st h := gk_goto
theorem s_X_apart_113 {x : Int64} {l0 l1 l2 l3 l4 : Option Value} {l : eg_Lo} : wps rm K Q c_X_apart_113 kc ks (l0 :: l1 :: l2 :: l3 :: l4 :: some (.long x) :: l) (st) h = wps rm K Q c_X_apart_115 kc ks (l0 :: l1 :: l2 :: l3 :: l4 :: some (.long x) :: l) (.long x :: st) h := gk_lload rfl
theorem s_X_apart_115  : wps rm K Q c_X_apart_115 kc ks loc (st) h = wps rm K Q c_X_apart_116 kc ks loc (.long (0) :: st) h := gk_lc (by decide)
theorem s_X_apart_116 {x y : Int64} : wps rm K Q c_X_apart_116 kc ks loc (.long y :: .long x :: st) h = wps rm K Q c_X_apart_117 kc ks loc (.int (lg_cmp x y) :: st) h := gk_lcmp
theorem s_X_apart_117 {x : Int32} : wps rm K Q c_X_apart_117 kc ks loc (.int x :: st) h = ((0 ≤ x → K 128 kc ks loc st h) ∧ (¬ 0 ≤ x → wps rm K Q c_X_apart_120 kc ks loc (st) h)) := gk_if1_ge
theorem s_X_apart_120 {x : Nat} {l : eg_Lo} : wps rm K Q c_X_apart_120 kc ks (some (.ref x) :: l) (st) h = wps rm K Q c_X_apart_121 kc ks (some (.ref x) :: l) (.ref x :: st) h := gk_aload rfl
theorem s_X_apart_121  : wps rm K Q c_X_apart_121 kc ks loc (st) h = wps rm K Q c_X_apart_124 kc ks loc (.long (-1000000000000000006) :: st) h := gk_lc (by decide)
theorem s_X_apart_124  {a1 : Value} {x : Nat} : wps rm K Q c_X_apart_124 kc ks loc (a1 :: .ref (x + 1) :: st) h = (eg_cls h x 11 ∧ st.length ≤ 4 ∧ eg_Cs n_X_found (.ref (x + 1) :: [a1]) h (fun v h9 => wps rm K Q c_X_apart_127 kc ks loc (v.toList ++ st) h9)) := eg_c1_1
theorem s_X_apart_127 {x : Int64} : wps rm K Q c_X_apart_127 kc ks loc ([.long x]) h = (kc = rm.cells ∧ Q (some (.long x)) h) := gk_lret
theorem s_X_apart_128 {x : Int32} {l0 l1 l2 : Option Value} {l : eg_Lo} : wps rm K Q c_X_apart_128 kc ks (l0 :: l1 :: l2 :: some (.int x) :: l) (st) h = wps rm K Q c_X_apart_129 kc ks (l0 :: l1 :: l2 :: some (.int x) :: l) (.int x :: st) h := gk_iload rfl
theorem s_X_apart_129 {x : Int32} : wps rm K Q c_X_apart_129 kc ks loc (.int x :: st) h = ((¬ x = 0 → K 137 kc ks loc st h) ∧ (x = 0 → wps rm K Q c_X_apart_132 kc ks loc (st) h)) := gk_if1_ne
theorem s_X_apart_132 {x : Int64} {l0 l1 l2 l3 l4 : Option Value} {l : eg_Lo} : wps rm K Q c_X_apart_132 kc ks (l0 :: l1 :: l2 :: l3 :: l4 :: some (.long x) :: l) (st) h = wps rm K Q c_X_apart_134 kc ks (l0 :: l1 :: l2 :: l3 :: l4 :: some (.long x) :: l) (.long x :: st) h := gk_lload rfl
theorem s_X_apart_134  : wps rm K Q c_X_apart_134 kc ks loc (st) h = K 140 kc ks loc st h := gk_goto
theorem s_X_apart_137 {x : Int32} {l0 l1 l2 l3 l4 l5 l6 : Option Value} {l : eg_Lo} : wps rm K Q c_X_apart_137 kc ks (l0 :: l1 :: l2 :: l3 :: l4 :: l5 :: l6 :: some (.int x) :: l) (st) h = wps rm K Q c_X_apart_139 kc ks (l0 :: l1 :: l2 :: l3 :: l4 :: l5 :: l6 :: some (.int x) :: l) (.int x :: st) h := gk_iload rfl
theorem s_X_apart_139 {x : Int32} : wps rm K Q c_X_apart_139 kc ks loc (.int x :: st) h = wps rm K Q c_X_apart_140 kc ks loc (.long (x.toInt64) :: st) h := gk_i2l
theorem s_X_apart_140 {x : Int64} : wps rm K Q c_X_apart_140 kc ks loc ([.long x]) h = (kc = rm.cells ∧ Q (some (.long x)) h) := gk_lret
theorem sz_X_apart_65 : wps rm K Q z_X_apart_65 kc ks loc st h = K 65 kc ks loc st h := gk_nop
def T_X_apart : List (Nat × List eg_I) := [(23, c_X_apart_23), (31, c_X_apart_31), (107, c_X_apart_107), (113, c_X_apart_113), (128, c_X_apart_128), (137, c_X_apart_137), (140, c_X_apart_140)]
theorem j_X_apart_23 {R : Nat → Nat → Nat → eg_Lo → List Value → List eg_E → Prop} {f pc0 : Nat} : eg_run rm R Q T_X_apart (f + 1) 23 kc ks loc st h = wps rm (eg_run rm R Q T_X_apart f) Q c_X_apart_23 kc ks loc st h := rfl
theorem j_X_apart_31 {R : Nat → Nat → Nat → eg_Lo → List Value → List eg_E → Prop} {f pc0 : Nat} : eg_run rm R Q T_X_apart (f + 1) 31 kc ks loc st h = wps rm (eg_run rm R Q T_X_apart f) Q c_X_apart_31 kc ks loc st h := rfl
theorem j_X_apart_107 {R : Nat → Nat → Nat → eg_Lo → List Value → List eg_E → Prop} {f pc0 : Nat} : eg_run rm R Q T_X_apart (f + 1) 107 kc ks loc st h = wps rm (eg_run rm R Q T_X_apart f) Q c_X_apart_107 kc ks loc st h := rfl
theorem j_X_apart_113 {R : Nat → Nat → Nat → eg_Lo → List Value → List eg_E → Prop} {f pc0 : Nat} : eg_run rm R Q T_X_apart (f + 1) 113 kc ks loc st h = wps rm (eg_run rm R Q T_X_apart f) Q c_X_apart_113 kc ks loc st h := rfl
theorem j_X_apart_128 {R : Nat → Nat → Nat → eg_Lo → List Value → List eg_E → Prop} {f pc0 : Nat} : eg_run rm R Q T_X_apart (f + 1) 128 kc ks loc st h = wps rm (eg_run rm R Q T_X_apart f) Q c_X_apart_128 kc ks loc st h := rfl
theorem j_X_apart_137 {R : Nat → Nat → Nat → eg_Lo → List Value → List eg_E → Prop} {f pc0 : Nat} : eg_run rm R Q T_X_apart (f + 1) 137 kc ks loc st h = wps rm (eg_run rm R Q T_X_apart f) Q c_X_apart_137 kc ks loc st h := rfl
theorem j_X_apart_140 {R : Nat → Nat → Nat → eg_Lo → List Value → List eg_E → Prop} {f pc0 : Nat} : eg_run rm R Q T_X_apart (f + 1) 140 kc ks loc st h = wps rm (eg_run rm R Q T_X_apart f) Q c_X_apart_140 kc ks loc st h := rfl
theorem j_X_apart_65 {R : Nat → Nat → Nat → eg_Lo → List Value → List eg_E → Prop} {f pc0 : Nat} : eg_run rm R Q T_X_apart (f + 1) 65 kc ks loc st h = R 65 kc ks loc st h := rfl
end
theorem y_X_apart_0 : eg_seq m_X_apart 0 c_X_apart_0 = true := by decide +kernel
theorem y_X_apart_31 : eg_seq m_X_apart 31 c_X_apart_31 = true := by decide +kernel
theorem y_X_apart_65 : eg_seq m_X_apart 65 c_X_apart_65 = true := by decide +kernel
theorem y_X_apart_113 : eg_seq m_X_apart 113 c_X_apart_113 = true := by decide +kernel
theorem y_X_apart_128 : eg_seq m_X_apart 128 c_X_apart_128 = true := by decide +kernel
theorem y_X_apart_137 : eg_seq m_X_apart 137 c_X_apart_137 = true := by decide +kernel
theorem q_X_apart : ∀ q ∈ T_X_apart, eg_seq m_X_apart q.1 q.2 = true := by
  intro q hq
  simp only [T_X_apart, List.mem_cons, List.not_mem_nil, or_false] at hq
  rcases hq with rfl | rfl | rfl | rfl | rfl | rfl | rfl
  · exact (eg_seq_drop y_X_apart_0 11 : eg_seq m_X_apart 23 c_X_apart_23 = true)
  · exact y_X_apart_31
  · exact (eg_seq_drop y_X_apart_65 22 : eg_seq m_X_apart 107 c_X_apart_107 = true)
  · exact y_X_apart_113
  · exact y_X_apart_128
  · exact y_X_apart_137
  · exact (eg_seq_drop y_X_apart_137 2 : eg_seq m_X_apart 140 c_X_apart_140 = true)
theorem b_X_apart {as : List Value} {h : List eg_E} {Q : Option Value → List eg_E → Prop} (hf : (eg_fl as).length ≤ 11) (hw : wps (eg_rm m_X_apart) (eg_run (eg_rm m_X_apart) (eg_R m_X_apart Q (h.length + 0)) Q T_X_apart 9) Q c_X_apart_0 0 0 (eg_entry 11 as) [] h) : eg_Runs n_X_apart as h Q := eg_begin2 (d := m_X_apart) rfl (by decide) y_X_apart_0 q_X_apart hf hw
theorem p_X_apart_65 {Q : Option Value → List eg_E → Prop} {n0 kc ks : Nat} {loc : eg_Lo} {st : List Value} {h : List eg_E} (hw : wps (eg_rm m_X_apart) (eg_run (eg_rm m_X_apart) (eg_R m_X_apart Q n0) Q T_X_apart 9) Q c_X_apart_65 kc ks loc st h) : eg_R m_X_apart Q n0 65 kc ks loc st h := eg_go2 y_X_apart_65 q_X_apart hw
/-! ===== X_sheet ===== -/
def c_X_sheet_62 : List eg_I := .inl (62, 1, .lreturn, 0, 0) :: []
def c_X_sheet_61 : List eg_I := .inl (61, 1, .i2l, 0, 0) :: c_X_sheet_62
def c_X_sheet_58 : List eg_I := .inr (58, 1, 165, n_Sheet_renew, 2, 9, 0, 0) :: c_X_sheet_61
def c_X_sheet_57 : List eg_I := .inl (57, 1, .iload 3, 0, 0) :: c_X_sheet_58
def c_X_sheet_56 : List eg_I := .inl (56, 1, .iload 2, 0, 0) :: c_X_sheet_57
def c_X_sheet_55 : List eg_I := .inl (55, 1, .aaload, 0, 0) :: c_X_sheet_56
def c_X_sheet_54 : List eg_I := .inl (54, 1, .iload 1, 0, 0) :: c_X_sheet_55
def c_X_sheet_51 : List eg_I := .inl (51, 3, .getfield 17, 11, 1) :: c_X_sheet_54
def c_X_sheet_50 : List eg_I := .inl (50, 1, .aload 0, 0, 0) :: c_X_sheet_51
def c_X_sheet_49 : List eg_I := .inl (49, 1, .lreturn, 0, 0) :: []
def c_X_sheet_46 : List eg_I := .inr (46, 1, 86, n_X_found, 1, 11, 0, 0) :: c_X_sheet_49
def c_X_sheet_43 : List eg_I := .inl (43, 3, .sipush (-1000000000000000001), 84, 0) :: c_X_sheet_46
def c_X_sheet_42 : List eg_I := .inl (42, 1, .aload 0, 0, 0) :: c_X_sheet_43
def c_X_sheet_39 : List eg_I := .inl (39, 3, .if_icmp .le (11), 50, 0) :: c_X_sheet_42
def c_X_sheet_37 : List eg_I := .inl (37, 2, .iconst (48), 0, 0) :: c_X_sheet_39
def c_X_sheet_36 : List eg_I := .inl (36, 1, .iload 3, 0, 0) :: c_X_sheet_37
def c_X_sheet_35 : List eg_I := .inl (35, 1, .lreturn, 0, 0) :: []
def c_X_sheet_32 : List eg_I := .inr (32, 1, 86, n_X_found, 1, 11, 0, 0) :: c_X_sheet_35
def c_X_sheet_29 : List eg_I := .inl (29, 3, .sipush (-1000000000000000003), 163, 0) :: c_X_sheet_32
def c_X_sheet_28 : List eg_I := .inl (28, 1, .aload 0, 0, 0) :: c_X_sheet_29
def c_X_sheet_25 : List eg_I := .inl (25, 3, .ifCond .ge (11), 36, 0) :: c_X_sheet_28
def c_X_sheet_24 : List eg_I := .inl (24, 1, .iload 3, 0, 0) :: c_X_sheet_25
def c_X_sheet_23 : List eg_I := .inl (23, 1, .lreturn, 0, 0) :: []
def c_X_sheet_20 : List eg_I := .inr (20, 1, 86, n_X_found, 1, 11, 0, 0) :: c_X_sheet_23
def c_X_sheet_17 : List eg_I := .inl (17, 3, .sipush (-1000000000000000001), 84, 0) :: c_X_sheet_20
def c_X_sheet_16 : List eg_I := .inl (16, 1, .aload 0, 0, 0) :: c_X_sheet_17
def c_X_sheet_13 : List eg_I := .inl (13, 3, .ifCond .ne (11), 24, 0) :: c_X_sheet_16
def c_X_sheet_10 : List eg_I := .inr (10, 0, 80, n_X_isWithin, 3, 11, 0, 0) :: c_X_sheet_13
def c_X_sheet_9 : List eg_I := .inl (9, 1, .iconst (3), 0, 0) :: c_X_sheet_10
def c_X_sheet_8 : List eg_I := .inl (8, 1, .iconst (0), 0, 0) :: c_X_sheet_9
def c_X_sheet_7 : List eg_I := .inl (7, 1, .iload 2, 0, 0) :: c_X_sheet_8
def c_X_sheet_4 : List eg_I := .inl (4, 3, .ifCond .eq (12), 16, 0) :: c_X_sheet_7
def c_X_sheet_1 : List eg_I := .inr (1, 0, 160, n_X_isSheet, 1, 11, 0, 0) :: c_X_sheet_4
def c_X_sheet_0 : List eg_I := .inl (0, 1, .iload 1, 0, 0) :: c_X_sheet_1
section
variable {rm : Room} {K : Nat → Nat → Nat → eg_Lo → List Value → List eg_E → Prop} {Q : Option Value → List eg_E → Prop} {kc ks : Nat} {loc : eg_Lo} {st : List Value} {h : List eg_E}
theorem s_X_sheet_0 {x : Int32} {l0 : Option Value} {l : eg_Lo} : wps rm K Q c_X_sheet_0 kc ks (l0 :: some (.int x) :: l) (st) h = wps rm K Q c_X_sheet_1 kc ks (l0 :: some (.int x) :: l) (.int x :: st) h := gk_iload rfl
theorem s_X_sheet_1  {a1 : Value} : wps rm K Q c_X_sheet_1 kc ks loc (a1 :: st) h = (st.length ≤ 4 ∧ eg_Cs n_X_isSheet [a1] h (fun v h9 => wps rm K Q c_X_sheet_4 kc ks loc (v.toList ++ st) h9)) := eg_c0_1
theorem s_X_sheet_4 {x : Int32} : wps rm K Q c_X_sheet_4 kc ks loc (.int x :: st) h = ((x = 0 → K 16 kc ks loc st h) ∧ (¬ x = 0 → wps rm K Q c_X_sheet_7 kc ks loc (st) h)) := gk_if1_eq
theorem s_X_sheet_7 {x : Int32} {l0 l1 : Option Value} {l : eg_Lo} : wps rm K Q c_X_sheet_7 kc ks (l0 :: l1 :: some (.int x) :: l) (st) h = wps rm K Q c_X_sheet_8 kc ks (l0 :: l1 :: some (.int x) :: l) (.int x :: st) h := gk_iload rfl
theorem s_X_sheet_8  : wps rm K Q c_X_sheet_8 kc ks loc (st) h = wps rm K Q c_X_sheet_9 kc ks loc (.int (0) :: st) h := gk_ic (by decide)
theorem s_X_sheet_9  : wps rm K Q c_X_sheet_9 kc ks loc (st) h = wps rm K Q c_X_sheet_10 kc ks loc (.int (3) :: st) h := gk_ic (by decide)
theorem s_X_sheet_10  {a1 : Value} {a2 : Value} {a3 : Value} : wps rm K Q c_X_sheet_10 kc ks loc (a3 :: a2 :: a1 :: st) h = (st.length ≤ 4 ∧ eg_Cs n_X_isWithin [a1, a2, a3] h (fun v h9 => wps rm K Q c_X_sheet_13 kc ks loc (v.toList ++ st) h9)) := eg_c0_3
theorem s_X_sheet_13 {x : Int32} : wps rm K Q c_X_sheet_13 kc ks loc (.int x :: st) h = ((¬ x = 0 → K 24 kc ks loc st h) ∧ (x = 0 → wps rm K Q c_X_sheet_16 kc ks loc (st) h)) := gk_if1_ne
theorem s_X_sheet_16 {x : Nat} {l : eg_Lo} : wps rm K Q c_X_sheet_16 kc ks (some (.ref x) :: l) (st) h = wps rm K Q c_X_sheet_17 kc ks (some (.ref x) :: l) (.ref x :: st) h := gk_aload rfl
theorem s_X_sheet_17  : wps rm K Q c_X_sheet_17 kc ks loc (st) h = wps rm K Q c_X_sheet_20 kc ks loc (.long (-1000000000000000001) :: st) h := gk_lc (by decide)
theorem s_X_sheet_20  {a1 : Value} {x : Nat} : wps rm K Q c_X_sheet_20 kc ks loc (a1 :: .ref (x + 1) :: st) h = (eg_cls h x 11 ∧ st.length ≤ 4 ∧ eg_Cs n_X_found (.ref (x + 1) :: [a1]) h (fun v h9 => wps rm K Q c_X_sheet_23 kc ks loc (v.toList ++ st) h9)) := eg_c1_1
theorem s_X_sheet_23 {x : Int64} : wps rm K Q c_X_sheet_23 kc ks loc ([.long x]) h = (kc = rm.cells ∧ Q (some (.long x)) h) := gk_lret
theorem s_X_sheet_24 {x : Int32} {l0 l1 l2 : Option Value} {l : eg_Lo} : wps rm K Q c_X_sheet_24 kc ks (l0 :: l1 :: l2 :: some (.int x) :: l) (st) h = wps rm K Q c_X_sheet_25 kc ks (l0 :: l1 :: l2 :: some (.int x) :: l) (.int x :: st) h := gk_iload rfl
theorem s_X_sheet_25 {x : Int32} : wps rm K Q c_X_sheet_25 kc ks loc (.int x :: st) h = ((0 ≤ x → K 36 kc ks loc st h) ∧ (¬ 0 ≤ x → wps rm K Q c_X_sheet_28 kc ks loc (st) h)) := gk_if1_ge
theorem s_X_sheet_28 {x : Nat} {l : eg_Lo} : wps rm K Q c_X_sheet_28 kc ks (some (.ref x) :: l) (st) h = wps rm K Q c_X_sheet_29 kc ks (some (.ref x) :: l) (.ref x :: st) h := gk_aload rfl
theorem s_X_sheet_29  : wps rm K Q c_X_sheet_29 kc ks loc (st) h = wps rm K Q c_X_sheet_32 kc ks loc (.long (-1000000000000000003) :: st) h := gk_lc (by decide)
theorem s_X_sheet_32  {a1 : Value} {x : Nat} : wps rm K Q c_X_sheet_32 kc ks loc (a1 :: .ref (x + 1) :: st) h = (eg_cls h x 11 ∧ st.length ≤ 4 ∧ eg_Cs n_X_found (.ref (x + 1) :: [a1]) h (fun v h9 => wps rm K Q c_X_sheet_35 kc ks loc (v.toList ++ st) h9)) := eg_c1_1
theorem s_X_sheet_35 {x : Int64} : wps rm K Q c_X_sheet_35 kc ks loc ([.long x]) h = (kc = rm.cells ∧ Q (some (.long x)) h) := gk_lret
theorem s_X_sheet_36 {x : Int32} {l0 l1 l2 : Option Value} {l : eg_Lo} : wps rm K Q c_X_sheet_36 kc ks (l0 :: l1 :: l2 :: some (.int x) :: l) (st) h = wps rm K Q c_X_sheet_37 kc ks (l0 :: l1 :: l2 :: some (.int x) :: l) (.int x :: st) h := gk_iload rfl
theorem s_X_sheet_37  : wps rm K Q c_X_sheet_37 kc ks loc (st) h = wps rm K Q c_X_sheet_39 kc ks loc (.int (48) :: st) h := gk_ic (by decide)
theorem s_X_sheet_39 {x y : Int32} : wps rm K Q c_X_sheet_39 kc ks loc (.int y :: .int x :: st) h = ((x ≤ y → K 50 kc ks loc st h) ∧ (¬ x ≤ y → wps rm K Q c_X_sheet_42 kc ks loc (st) h)) := gk_if2_le
theorem s_X_sheet_42 {x : Nat} {l : eg_Lo} : wps rm K Q c_X_sheet_42 kc ks (some (.ref x) :: l) (st) h = wps rm K Q c_X_sheet_43 kc ks (some (.ref x) :: l) (.ref x :: st) h := gk_aload rfl
theorem s_X_sheet_43  : wps rm K Q c_X_sheet_43 kc ks loc (st) h = wps rm K Q c_X_sheet_46 kc ks loc (.long (-1000000000000000001) :: st) h := gk_lc (by decide)
theorem s_X_sheet_46  {a1 : Value} {x : Nat} : wps rm K Q c_X_sheet_46 kc ks loc (a1 :: .ref (x + 1) :: st) h = (eg_cls h x 11 ∧ st.length ≤ 4 ∧ eg_Cs n_X_found (.ref (x + 1) :: [a1]) h (fun v h9 => wps rm K Q c_X_sheet_49 kc ks loc (v.toList ++ st) h9)) := eg_c1_1
theorem s_X_sheet_49 {x : Int64} : wps rm K Q c_X_sheet_49 kc ks loc ([.long x]) h = (kc = rm.cells ∧ Q (some (.long x)) h) := gk_lret
theorem s_X_sheet_50 {x : Nat} {l : eg_Lo} : wps rm K Q c_X_sheet_50 kc ks (some (.ref x) :: l) (st) h = wps rm K Q c_X_sheet_51 kc ks (some (.ref x) :: l) (.ref x :: st) h := gk_aload rfl
theorem s_X_sheet_51 {x : Nat} : wps rm K Q c_X_sheet_51 kc ks loc (.ref (x + 1) :: st) h = eg_gf h x 11 1 (fun v => wps rm K Q c_X_sheet_54 kc ks loc (v :: st) h) := gk_gf
theorem s_X_sheet_54 {x : Int32} {l0 : Option Value} {l : eg_Lo} : wps rm K Q c_X_sheet_54 kc ks (l0 :: some (.int x) :: l) (st) h = wps rm K Q c_X_sheet_55 kc ks (l0 :: some (.int x) :: l) (.int x :: st) h := gk_iload rfl
theorem s_X_sheet_55 {x : Nat} {i : Int32} : wps rm K Q c_X_sheet_55 kc ks loc (.int i :: .ref (x + 1) :: st) h = eg_aa h x i (fun v => wps rm K Q c_X_sheet_56 kc ks loc (v :: st) h) := gk_aaload
theorem s_X_sheet_56 {x : Int32} {l0 l1 : Option Value} {l : eg_Lo} : wps rm K Q c_X_sheet_56 kc ks (l0 :: l1 :: some (.int x) :: l) (st) h = wps rm K Q c_X_sheet_57 kc ks (l0 :: l1 :: some (.int x) :: l) (.int x :: st) h := gk_iload rfl
theorem s_X_sheet_57 {x : Int32} {l0 l1 l2 : Option Value} {l : eg_Lo} : wps rm K Q c_X_sheet_57 kc ks (l0 :: l1 :: l2 :: some (.int x) :: l) (st) h = wps rm K Q c_X_sheet_58 kc ks (l0 :: l1 :: l2 :: some (.int x) :: l) (.int x :: st) h := gk_iload rfl
theorem s_X_sheet_58  {a1 : Value} {a2 : Value} {x : Nat} : wps rm K Q c_X_sheet_58 kc ks loc (a2 :: a1 :: .ref (x + 1) :: st) h = (eg_cls h x 9 ∧ st.length ≤ 4 ∧ eg_Cs n_Sheet_renew (.ref (x + 1) :: [a1, a2]) h (fun v h9 => wps rm K Q c_X_sheet_61 kc ks loc (v.toList ++ st) h9)) := eg_c1_2
theorem s_X_sheet_61 {x : Int32} : wps rm K Q c_X_sheet_61 kc ks loc (.int x :: st) h = wps rm K Q c_X_sheet_62 kc ks loc (.long (x.toInt64) :: st) h := gk_i2l
theorem s_X_sheet_62 {x : Int64} : wps rm K Q c_X_sheet_62 kc ks loc ([.long x]) h = (kc = rm.cells ∧ Q (some (.long x)) h) := gk_lret
def T_X_sheet : List (Nat × List eg_I) := [(16, c_X_sheet_16), (24, c_X_sheet_24), (36, c_X_sheet_36), (50, c_X_sheet_50)]
theorem j_X_sheet_16 {R : Nat → Nat → Nat → eg_Lo → List Value → List eg_E → Prop} {f pc0 : Nat} : eg_run rm R Q T_X_sheet (f + 1) 16 kc ks loc st h = wps rm (eg_run rm R Q T_X_sheet f) Q c_X_sheet_16 kc ks loc st h := rfl
theorem j_X_sheet_24 {R : Nat → Nat → Nat → eg_Lo → List Value → List eg_E → Prop} {f pc0 : Nat} : eg_run rm R Q T_X_sheet (f + 1) 24 kc ks loc st h = wps rm (eg_run rm R Q T_X_sheet f) Q c_X_sheet_24 kc ks loc st h := rfl
theorem j_X_sheet_36 {R : Nat → Nat → Nat → eg_Lo → List Value → List eg_E → Prop} {f pc0 : Nat} : eg_run rm R Q T_X_sheet (f + 1) 36 kc ks loc st h = wps rm (eg_run rm R Q T_X_sheet f) Q c_X_sheet_36 kc ks loc st h := rfl
theorem j_X_sheet_50 {R : Nat → Nat → Nat → eg_Lo → List Value → List eg_E → Prop} {f pc0 : Nat} : eg_run rm R Q T_X_sheet (f + 1) 50 kc ks loc st h = wps rm (eg_run rm R Q T_X_sheet f) Q c_X_sheet_50 kc ks loc st h := rfl
end
theorem y_X_sheet_0 : eg_seq m_X_sheet 0 c_X_sheet_0 = true := by decide +kernel
theorem y_X_sheet_24 : eg_seq m_X_sheet 24 c_X_sheet_24 = true := by decide +kernel
theorem y_X_sheet_36 : eg_seq m_X_sheet 36 c_X_sheet_36 = true := by decide +kernel
theorem y_X_sheet_50 : eg_seq m_X_sheet 50 c_X_sheet_50 = true := by decide +kernel
theorem q_X_sheet : ∀ q ∈ T_X_sheet, eg_seq m_X_sheet q.1 q.2 = true := by
  intro q hq
  simp only [T_X_sheet, List.mem_cons, List.not_mem_nil, or_false] at hq
  rcases hq with rfl | rfl | rfl | rfl
  · exact (eg_seq_drop y_X_sheet_0 8 : eg_seq m_X_sheet 16 c_X_sheet_16 = true)
  · exact y_X_sheet_24
  · exact y_X_sheet_36
  · exact y_X_sheet_50
theorem b_X_sheet {as : List Value} {h : List eg_E} {Q : Option Value → List eg_E → Prop} (hf : (eg_fl as).length ≤ 4) (hw : wps (eg_rm m_X_sheet) (eg_run (eg_rm m_X_sheet) (eg_R m_X_sheet Q (h.length + 0)) Q T_X_sheet 6) Q c_X_sheet_0 0 0 (eg_entry 4 as) [] h) : eg_Runs n_X_sheet as h Q := eg_begin2 (d := m_X_sheet) rfl (by decide) y_X_sheet_0 q_X_sheet hf hw
/-! ===== X_put ===== -/
def c_X_put_85 : List eg_I := .inl (85, 1, .lreturn, 0, 0) :: []
def c_X_put_84 : List eg_I := .inl (84, 1, .sipush (0), 0, 0) :: c_X_put_85
def c_X_put_83 : List eg_I := .inl (83, 1, .iastore, 0, 0) :: c_X_put_84
def c_X_put_82 : List eg_I := .inl (82, 1, .iload 3, 0, 0) :: c_X_put_83
def c_X_put_79 : List eg_I := .inl (79, 3, .goto (4), 83, 0) :: []
def c_X_put_78 : List eg_I := .inl (78, 1, .i2s, 0, 0) :: c_X_put_79
def c_X_put_77 : List eg_I := .inl (77, 1, .iload 3, 0, 0) :: c_X_put_78
def c_X_put_74 : List eg_I := .inl (74, 3, .if_icmp .ne (8), 82, 0) :: c_X_put_77
def c_X_put_73 : List eg_I := .inl (73, 1, .iconst (1), 0, 0) :: c_X_put_74
def c_X_put_70 : List eg_I := .inl (70, 3, .getfield 180, 9, 1) :: c_X_put_73
def c_X_put_68 : List eg_I := .inl (68, 2, .aload 4, 0, 0) :: c_X_put_70
def c_X_put_67 : List eg_I := .inl (67, 1, .iload 2, 0, 0) :: c_X_put_68
def c_X_put_64 : List eg_I := .inl (64, 3, .getfield 177, 9, 0) :: c_X_put_67
def c_X_put_62 : List eg_I := .inl (62, 2, .aload 4, 0, 0) :: c_X_put_64
def c_X_put_61 : List eg_I := .inl (61, 1, .lreturn, 0, 0) :: []
def c_X_put_58 : List eg_I := .inr (58, 1, 86, n_X_found, 1, 11, 0, 0) :: c_X_put_61
def c_X_put_55 : List eg_I := .inl (55, 3, .sipush (-1000000000000000001), 84, 0) :: c_X_put_58
def c_X_put_54 : List eg_I := .inl (54, 1, .aload 0, 0, 0) :: c_X_put_55
def c_X_put_51 : List eg_I := .inl (51, 3, .ifCond .ne (11), 62, 0) :: c_X_put_54
def c_X_put_48 : List eg_I := .inr (48, 0, 80, n_X_isWithin, 3, 11, 0, 0) :: c_X_put_51
def c_X_put_47 : List eg_I := .inl (47, 1, .isub, 0, 0) :: c_X_put_48
def c_X_put_46 : List eg_I := .inl (46, 1, .iconst (1), 0, 0) :: c_X_put_47
def c_X_put_43 : List eg_I := .inl (43, 3, .getfield 174, 9, 2) :: c_X_put_46
def c_X_put_41 : List eg_I := .inl (41, 2, .aload 4, 0, 0) :: c_X_put_43
def c_X_put_40 : List eg_I := .inl (40, 1, .iconst (0), 0, 0) :: c_X_put_41
def c_X_put_39 : List eg_I := .inl (39, 1, .iload 2, 0, 0) :: c_X_put_40
def c_X_put_38 : List eg_I := .inl (38, 1, .lreturn, 0, 0) :: []
def c_X_put_35 : List eg_I := .inr (35, 1, 86, n_X_found, 1, 11, 0, 0) :: c_X_put_38
def c_X_put_32 : List eg_I := .inl (32, 3, .sipush (-1000000000000000002), 172, 0) :: c_X_put_35
def c_X_put_31 : List eg_I := .inl (31, 1, .aload 0, 0, 0) :: c_X_put_32
def c_X_put_28 : List eg_I := .inl (28, 3, .ifCond .eq (11), 39, 0) :: c_X_put_31
def c_X_put_25 : List eg_I := .inr (25, 1, 168, n_Sheet_isMissing, 0, 9, 0, 0) :: c_X_put_28
def c_X_put_23 : List eg_I := .inl (23, 2, .aload 4, 0, 0) :: c_X_put_25
def c_X_put_21 : List eg_I := .inl (21, 2, .astore 4, 0, 0) :: c_X_put_23
def c_X_put_20 : List eg_I := .inl (20, 1, .aaload, 0, 0) :: c_X_put_21
def c_X_put_19 : List eg_I := .inl (19, 1, .iload 1, 0, 0) :: c_X_put_20
def c_X_put_16 : List eg_I := .inl (16, 3, .getfield 17, 11, 1) :: c_X_put_19
def c_X_put_15 : List eg_I := .inl (15, 1, .aload 0, 0, 0) :: c_X_put_16
def c_X_put_14 : List eg_I := .inl (14, 1, .lreturn, 0, 0) :: []
def c_X_put_11 : List eg_I := .inr (11, 1, 86, n_X_found, 1, 11, 0, 0) :: c_X_put_14
def c_X_put_8 : List eg_I := .inl (8, 3, .sipush (-1000000000000000001), 84, 0) :: c_X_put_11
def c_X_put_7 : List eg_I := .inl (7, 1, .aload 0, 0, 0) :: c_X_put_8
def c_X_put_4 : List eg_I := .inl (4, 3, .ifCond .ne (11), 15, 0) :: c_X_put_7
def c_X_put_1 : List eg_I := .inr (1, 0, 160, n_X_isSheet, 1, 11, 0, 0) :: c_X_put_4
def c_X_put_0 : List eg_I := .inl (0, 1, .iload 1, 0, 0) :: c_X_put_1
section
variable {rm : Room} {K : Nat → Nat → Nat → eg_Lo → List Value → List eg_E → Prop} {Q : Option Value → List eg_E → Prop} {kc ks : Nat} {loc : eg_Lo} {st : List Value} {h : List eg_E}
theorem s_X_put_0 {x : Int32} {l0 : Option Value} {l : eg_Lo} : wps rm K Q c_X_put_0 kc ks (l0 :: some (.int x) :: l) (st) h = wps rm K Q c_X_put_1 kc ks (l0 :: some (.int x) :: l) (.int x :: st) h := gk_iload rfl
theorem s_X_put_1  {a1 : Value} : wps rm K Q c_X_put_1 kc ks loc (a1 :: st) h = (st.length ≤ 4 ∧ eg_Cs n_X_isSheet [a1] h (fun v h9 => wps rm K Q c_X_put_4 kc ks loc (v.toList ++ st) h9)) := eg_c0_1
theorem s_X_put_4 {x : Int32} : wps rm K Q c_X_put_4 kc ks loc (.int x :: st) h = ((¬ x = 0 → K 15 kc ks loc st h) ∧ (x = 0 → wps rm K Q c_X_put_7 kc ks loc (st) h)) := gk_if1_ne
theorem s_X_put_7 {x : Nat} {l : eg_Lo} : wps rm K Q c_X_put_7 kc ks (some (.ref x) :: l) (st) h = wps rm K Q c_X_put_8 kc ks (some (.ref x) :: l) (.ref x :: st) h := gk_aload rfl
theorem s_X_put_8  : wps rm K Q c_X_put_8 kc ks loc (st) h = wps rm K Q c_X_put_11 kc ks loc (.long (-1000000000000000001) :: st) h := gk_lc (by decide)
theorem s_X_put_11  {a1 : Value} {x : Nat} : wps rm K Q c_X_put_11 kc ks loc (a1 :: .ref (x + 1) :: st) h = (eg_cls h x 11 ∧ st.length ≤ 4 ∧ eg_Cs n_X_found (.ref (x + 1) :: [a1]) h (fun v h9 => wps rm K Q c_X_put_14 kc ks loc (v.toList ++ st) h9)) := eg_c1_1
theorem s_X_put_14 {x : Int64} : wps rm K Q c_X_put_14 kc ks loc ([.long x]) h = (kc = rm.cells ∧ Q (some (.long x)) h) := gk_lret
theorem s_X_put_15 {x : Nat} {l : eg_Lo} : wps rm K Q c_X_put_15 kc ks (some (.ref x) :: l) (st) h = wps rm K Q c_X_put_16 kc ks (some (.ref x) :: l) (.ref x :: st) h := gk_aload rfl
theorem s_X_put_16 {x : Nat} : wps rm K Q c_X_put_16 kc ks loc (.ref (x + 1) :: st) h = eg_gf h x 11 1 (fun v => wps rm K Q c_X_put_19 kc ks loc (v :: st) h) := gk_gf
theorem s_X_put_19 {x : Int32} {l0 : Option Value} {l : eg_Lo} : wps rm K Q c_X_put_19 kc ks (l0 :: some (.int x) :: l) (st) h = wps rm K Q c_X_put_20 kc ks (l0 :: some (.int x) :: l) (.int x :: st) h := gk_iload rfl
theorem s_X_put_20 {x : Nat} {i : Int32} : wps rm K Q c_X_put_20 kc ks loc (.int i :: .ref (x + 1) :: st) h = eg_aa h x i (fun v => wps rm K Q c_X_put_21 kc ks loc (v :: st) h) := gk_aaload
theorem s_X_put_21 {x : Nat} : wps rm K Q c_X_put_21 kc ks loc (.ref x :: st) h = wps rm K Q c_X_put_23 kc ks (eg_set1 loc 4 (.ref x)) (st) h := gk_astore
theorem s_X_put_23 {x : Nat} {l0 l1 l2 l3 : Option Value} {l : eg_Lo} : wps rm K Q c_X_put_23 kc ks (l0 :: l1 :: l2 :: l3 :: some (.ref x) :: l) (st) h = wps rm K Q c_X_put_25 kc ks (l0 :: l1 :: l2 :: l3 :: some (.ref x) :: l) (.ref x :: st) h := gk_aload rfl
theorem s_X_put_25  {x : Nat} : wps rm K Q c_X_put_25 kc ks loc (.ref (x + 1) :: st) h = (eg_cls h x 9 ∧ st.length ≤ 4 ∧ eg_Cs n_Sheet_isMissing (.ref (x + 1) :: []) h (fun v h9 => wps rm K Q c_X_put_28 kc ks loc (v.toList ++ st) h9)) := eg_c1_0
theorem s_X_put_28 {x : Int32} : wps rm K Q c_X_put_28 kc ks loc (.int x :: st) h = ((x = 0 → K 39 kc ks loc st h) ∧ (¬ x = 0 → wps rm K Q c_X_put_31 kc ks loc (st) h)) := gk_if1_eq
theorem s_X_put_31 {x : Nat} {l : eg_Lo} : wps rm K Q c_X_put_31 kc ks (some (.ref x) :: l) (st) h = wps rm K Q c_X_put_32 kc ks (some (.ref x) :: l) (.ref x :: st) h := gk_aload rfl
theorem s_X_put_32  : wps rm K Q c_X_put_32 kc ks loc (st) h = wps rm K Q c_X_put_35 kc ks loc (.long (-1000000000000000002) :: st) h := gk_lc (by decide)
theorem s_X_put_35  {a1 : Value} {x : Nat} : wps rm K Q c_X_put_35 kc ks loc (a1 :: .ref (x + 1) :: st) h = (eg_cls h x 11 ∧ st.length ≤ 4 ∧ eg_Cs n_X_found (.ref (x + 1) :: [a1]) h (fun v h9 => wps rm K Q c_X_put_38 kc ks loc (v.toList ++ st) h9)) := eg_c1_1
theorem s_X_put_38 {x : Int64} : wps rm K Q c_X_put_38 kc ks loc ([.long x]) h = (kc = rm.cells ∧ Q (some (.long x)) h) := gk_lret
theorem s_X_put_39 {x : Int32} {l0 l1 : Option Value} {l : eg_Lo} : wps rm K Q c_X_put_39 kc ks (l0 :: l1 :: some (.int x) :: l) (st) h = wps rm K Q c_X_put_40 kc ks (l0 :: l1 :: some (.int x) :: l) (.int x :: st) h := gk_iload rfl
theorem s_X_put_40  : wps rm K Q c_X_put_40 kc ks loc (st) h = wps rm K Q c_X_put_41 kc ks loc (.int (0) :: st) h := gk_ic (by decide)
theorem s_X_put_41 {x : Nat} {l0 l1 l2 l3 : Option Value} {l : eg_Lo} : wps rm K Q c_X_put_41 kc ks (l0 :: l1 :: l2 :: l3 :: some (.ref x) :: l) (st) h = wps rm K Q c_X_put_43 kc ks (l0 :: l1 :: l2 :: l3 :: some (.ref x) :: l) (.ref x :: st) h := gk_aload rfl
theorem s_X_put_43 {x : Nat} : wps rm K Q c_X_put_43 kc ks loc (.ref (x + 1) :: st) h = eg_gf h x 9 2 (fun v => wps rm K Q c_X_put_46 kc ks loc (v :: st) h) := gk_gf
theorem s_X_put_46  : wps rm K Q c_X_put_46 kc ks loc (st) h = wps rm K Q c_X_put_47 kc ks loc (.int (1) :: st) h := gk_ic (by decide)
theorem s_X_put_47 {x y : Int32} : wps rm K Q c_X_put_47 kc ks loc (.int y :: .int x :: st) h = wps rm K Q c_X_put_48 kc ks loc (.int (x - y) :: st) h := gk_isub
theorem s_X_put_48  {a1 : Value} {a2 : Value} {a3 : Value} : wps rm K Q c_X_put_48 kc ks loc (a3 :: a2 :: a1 :: st) h = (st.length ≤ 4 ∧ eg_Cs n_X_isWithin [a1, a2, a3] h (fun v h9 => wps rm K Q c_X_put_51 kc ks loc (v.toList ++ st) h9)) := eg_c0_3
theorem s_X_put_51 {x : Int32} : wps rm K Q c_X_put_51 kc ks loc (.int x :: st) h = ((¬ x = 0 → K 62 kc ks loc st h) ∧ (x = 0 → wps rm K Q c_X_put_54 kc ks loc (st) h)) := gk_if1_ne
theorem s_X_put_54 {x : Nat} {l : eg_Lo} : wps rm K Q c_X_put_54 kc ks (some (.ref x) :: l) (st) h = wps rm K Q c_X_put_55 kc ks (some (.ref x) :: l) (.ref x :: st) h := gk_aload rfl
theorem s_X_put_55  : wps rm K Q c_X_put_55 kc ks loc (st) h = wps rm K Q c_X_put_58 kc ks loc (.long (-1000000000000000001) :: st) h := gk_lc (by decide)
theorem s_X_put_58  {a1 : Value} {x : Nat} : wps rm K Q c_X_put_58 kc ks loc (a1 :: .ref (x + 1) :: st) h = (eg_cls h x 11 ∧ st.length ≤ 4 ∧ eg_Cs n_X_found (.ref (x + 1) :: [a1]) h (fun v h9 => wps rm K Q c_X_put_61 kc ks loc (v.toList ++ st) h9)) := eg_c1_1
theorem s_X_put_61 {x : Int64} : wps rm K Q c_X_put_61 kc ks loc ([.long x]) h = (kc = rm.cells ∧ Q (some (.long x)) h) := gk_lret
theorem s_X_put_62 {x : Nat} {l0 l1 l2 l3 : Option Value} {l : eg_Lo} : wps rm K Q c_X_put_62 kc ks (l0 :: l1 :: l2 :: l3 :: some (.ref x) :: l) (st) h = wps rm K Q c_X_put_64 kc ks (l0 :: l1 :: l2 :: l3 :: some (.ref x) :: l) (.ref x :: st) h := gk_aload rfl
theorem s_X_put_64 {x : Nat} : wps rm K Q c_X_put_64 kc ks loc (.ref (x + 1) :: st) h = eg_gf h x 9 0 (fun v => wps rm K Q c_X_put_67 kc ks loc (v :: st) h) := gk_gf
theorem s_X_put_67 {x : Int32} {l0 l1 : Option Value} {l : eg_Lo} : wps rm K Q c_X_put_67 kc ks (l0 :: l1 :: some (.int x) :: l) (st) h = wps rm K Q c_X_put_68 kc ks (l0 :: l1 :: some (.int x) :: l) (.int x :: st) h := gk_iload rfl
theorem s_X_put_68 {x : Nat} {l0 l1 l2 l3 : Option Value} {l : eg_Lo} : wps rm K Q c_X_put_68 kc ks (l0 :: l1 :: l2 :: l3 :: some (.ref x) :: l) (st) h = wps rm K Q c_X_put_70 kc ks (l0 :: l1 :: l2 :: l3 :: some (.ref x) :: l) (.ref x :: st) h := gk_aload rfl
theorem s_X_put_70 {x : Nat} : wps rm K Q c_X_put_70 kc ks loc (.ref (x + 1) :: st) h = eg_gf h x 9 1 (fun v => wps rm K Q c_X_put_73 kc ks loc (v :: st) h) := gk_gf
theorem s_X_put_73  : wps rm K Q c_X_put_73 kc ks loc (st) h = wps rm K Q c_X_put_74 kc ks loc (.int (1) :: st) h := gk_ic (by decide)
theorem s_X_put_74 {x y : Int32} : wps rm K Q c_X_put_74 kc ks loc (.int y :: .int x :: st) h = ((¬ x = y → K 82 kc ks loc st h) ∧ (x = y → wps rm K Q c_X_put_77 kc ks loc (st) h)) := gk_if2_ne
theorem s_X_put_77 {x : Int32} {l0 l1 l2 : Option Value} {l : eg_Lo} : wps rm K Q c_X_put_77 kc ks (l0 :: l1 :: l2 :: some (.int x) :: l) (st) h = wps rm K Q c_X_put_78 kc ks (l0 :: l1 :: l2 :: some (.int x) :: l) (.int x :: st) h := gk_iload rfl
theorem s_X_put_78 {x : Int32} : wps rm K Q c_X_put_78 kc ks loc (.int x :: st) h = wps rm K Q c_X_put_79 kc ks loc (.int (x.toInt16.toInt32) :: st) h := gk_i2s
theorem s_X_put_79  : wps rm K Q c_X_put_79 kc ks loc (st) h = K 83 kc ks loc st h := gk_goto
theorem s_X_put_82 {x : Int32} {l0 l1 l2 : Option Value} {l : eg_Lo} : wps rm K Q c_X_put_82 kc ks (l0 :: l1 :: l2 :: some (.int x) :: l) (st) h = wps rm K Q c_X_put_83 kc ks (l0 :: l1 :: l2 :: some (.int x) :: l) (.int x :: st) h := gk_iload rfl
theorem s_X_put_83 {x : Nat} {i : Int32} {v : Int32} : wps rm K Q c_X_put_83 kc ks loc (.int v :: .int i :: .ref (x + 1) :: st) h = eg_is h x i v (fun h9 => wps rm K Q c_X_put_84 kc ks loc (st) h9) := gk_iastore
theorem s_X_put_84  : wps rm K Q c_X_put_84 kc ks loc (st) h = wps rm K Q c_X_put_85 kc ks loc (.long (0) :: st) h := gk_lc (by decide)
theorem s_X_put_85 {x : Int64} : wps rm K Q c_X_put_85 kc ks loc ([.long x]) h = (kc = rm.cells ∧ Q (some (.long x)) h) := gk_lret
def T_X_put : List (Nat × List eg_I) := [(15, c_X_put_15), (39, c_X_put_39), (62, c_X_put_62), (82, c_X_put_82), (83, c_X_put_83)]
theorem j_X_put_15 {R : Nat → Nat → Nat → eg_Lo → List Value → List eg_E → Prop} {f pc0 : Nat} : eg_run rm R Q T_X_put (f + 1) 15 kc ks loc st h = wps rm (eg_run rm R Q T_X_put f) Q c_X_put_15 kc ks loc st h := rfl
theorem j_X_put_39 {R : Nat → Nat → Nat → eg_Lo → List Value → List eg_E → Prop} {f pc0 : Nat} : eg_run rm R Q T_X_put (f + 1) 39 kc ks loc st h = wps rm (eg_run rm R Q T_X_put f) Q c_X_put_39 kc ks loc st h := rfl
theorem j_X_put_62 {R : Nat → Nat → Nat → eg_Lo → List Value → List eg_E → Prop} {f pc0 : Nat} : eg_run rm R Q T_X_put (f + 1) 62 kc ks loc st h = wps rm (eg_run rm R Q T_X_put f) Q c_X_put_62 kc ks loc st h := rfl
theorem j_X_put_82 {R : Nat → Nat → Nat → eg_Lo → List Value → List eg_E → Prop} {f pc0 : Nat} : eg_run rm R Q T_X_put (f + 1) 82 kc ks loc st h = wps rm (eg_run rm R Q T_X_put f) Q c_X_put_82 kc ks loc st h := rfl
theorem j_X_put_83 {R : Nat → Nat → Nat → eg_Lo → List Value → List eg_E → Prop} {f pc0 : Nat} : eg_run rm R Q T_X_put (f + 1) 83 kc ks loc st h = wps rm (eg_run rm R Q T_X_put f) Q c_X_put_83 kc ks loc st h := rfl
end
theorem y_X_put_0 : eg_seq m_X_put 0 c_X_put_0 = true := by decide +kernel
theorem y_X_put_15 : eg_seq m_X_put 15 c_X_put_15 = true := by decide +kernel
theorem y_X_put_39 : eg_seq m_X_put 39 c_X_put_39 = true := by decide +kernel
theorem y_X_put_62 : eg_seq m_X_put 62 c_X_put_62 = true := by decide +kernel
theorem y_X_put_82 : eg_seq m_X_put 82 c_X_put_82 = true := by decide +kernel
theorem q_X_put : ∀ q ∈ T_X_put, eg_seq m_X_put q.1 q.2 = true := by
  intro q hq
  simp only [T_X_put, List.mem_cons, List.not_mem_nil, or_false] at hq
  rcases hq with rfl | rfl | rfl | rfl | rfl
  · exact y_X_put_15
  · exact y_X_put_39
  · exact y_X_put_62
  · exact y_X_put_82
  · exact (eg_seq_drop y_X_put_82 1 : eg_seq m_X_put 83 c_X_put_83 = true)
theorem b_X_put {as : List Value} {h : List eg_E} {Q : Option Value → List eg_E → Prop} (hf : (eg_fl as).length ≤ 5) (hw : wps (eg_rm m_X_put) (eg_run (eg_rm m_X_put) (eg_R m_X_put Q (h.length + 0)) Q T_X_put 7) Q c_X_put_0 0 0 (eg_entry 5 as) [] h) : eg_Runs n_X_put as h Q := eg_begin2 (d := m_X_put) rfl (by decide) y_X_put_0 q_X_put hf hw
/-! ===== X_bits ===== -/
def c_X_bits_91 : List eg_I := .inl (91, 1, .lreturn, 0, 0) :: []
def c_X_bits_90 : List eg_I := .inl (90, 1, .sipush (0), 0, 0) :: c_X_bits_91
def c_X_bits_89 : List eg_I := .inl (89, 1, .iastore, 0, 0) :: c_X_bits_90
def c_X_bits_86 : List eg_I := .inr (86, 0, 185, n_Sheet_wholeOfBits, 1, 9, 0, 0) :: c_X_bits_89
def c_X_bits_85 : List eg_I := .inl (85, 1, .lload 3, 0, 0) :: c_X_bits_86
def c_X_bits_84 : List eg_I := .inl (84, 1, .iload 2, 0, 0) :: c_X_bits_85
def c_X_bits_81 : List eg_I := .inl (81, 3, .getfield 177, 9, 0) :: c_X_bits_84
def c_X_bits_79 : List eg_I := .inl (79, 2, .aload 5, 0, 0) :: c_X_bits_81
def c_X_bits_78 : List eg_I := .inl (78, 1, .lreturn, 0, 0) :: []
def c_X_bits_75 : List eg_I := .inr (75, 1, 86, n_X_found, 1, 11, 0, 0) :: c_X_bits_78
def c_X_bits_72 : List eg_I := .inl (72, 3, .sipush (-1000000000000000001), 84, 0) :: c_X_bits_75
def c_X_bits_71 : List eg_I := .inl (71, 1, .aload 0, 0, 0) :: c_X_bits_72
def c_X_bits_68 : List eg_I := .inl (68, 3, .ifCond .ne (11), 79, 0) :: c_X_bits_71
def c_X_bits_65 : List eg_I := .inr (65, 0, 80, n_X_isWithin, 3, 11, 0, 0) :: c_X_bits_68
def c_X_bits_64 : List eg_I := .inl (64, 1, .isub, 0, 0) :: c_X_bits_65
def c_X_bits_63 : List eg_I := .inl (63, 1, .iconst (1), 0, 0) :: c_X_bits_64
def c_X_bits_60 : List eg_I := .inl (60, 3, .getfield 174, 9, 2) :: c_X_bits_63
def c_X_bits_58 : List eg_I := .inl (58, 2, .aload 5, 0, 0) :: c_X_bits_60
def c_X_bits_57 : List eg_I := .inl (57, 1, .iconst (0), 0, 0) :: c_X_bits_58
def c_X_bits_56 : List eg_I := .inl (56, 1, .iload 2, 0, 0) :: c_X_bits_57
def c_X_bits_55 : List eg_I := .inl (55, 1, .lreturn, 0, 0) :: []
def c_X_bits_52 : List eg_I := .inr (52, 1, 86, n_X_found, 1, 11, 0, 0) :: c_X_bits_55
def c_X_bits_49 : List eg_I := .inl (49, 3, .sipush (-1000000000000000004), 183, 0) :: c_X_bits_52
def c_X_bits_48 : List eg_I := .inl (48, 1, .aload 0, 0, 0) :: c_X_bits_49
def c_X_bits_45 : List eg_I := .inl (45, 3, .if_icmp .eq (11), 56, 0) :: c_X_bits_48
def c_X_bits_44 : List eg_I := .inl (44, 1, .iconst (3), 0, 0) :: c_X_bits_45
def c_X_bits_41 : List eg_I := .inl (41, 3, .getfield 180, 9, 1) :: c_X_bits_44
def c_X_bits_39 : List eg_I := .inl (39, 2, .aload 5, 0, 0) :: c_X_bits_41
def c_X_bits_38 : List eg_I := .inl (38, 1, .lreturn, 0, 0) :: []
def c_X_bits_35 : List eg_I := .inr (35, 1, 86, n_X_found, 1, 11, 0, 0) :: c_X_bits_38
def c_X_bits_32 : List eg_I := .inl (32, 3, .sipush (-1000000000000000002), 172, 0) :: c_X_bits_35
def c_X_bits_31 : List eg_I := .inl (31, 1, .aload 0, 0, 0) :: c_X_bits_32
def c_X_bits_28 : List eg_I := .inl (28, 3, .ifCond .eq (11), 39, 0) :: c_X_bits_31
def c_X_bits_25 : List eg_I := .inr (25, 1, 168, n_Sheet_isMissing, 0, 9, 0, 0) :: c_X_bits_28
def c_X_bits_23 : List eg_I := .inl (23, 2, .aload 5, 0, 0) :: c_X_bits_25
def c_X_bits_21 : List eg_I := .inl (21, 2, .astore 5, 0, 0) :: c_X_bits_23
def c_X_bits_20 : List eg_I := .inl (20, 1, .aaload, 0, 0) :: c_X_bits_21
def c_X_bits_19 : List eg_I := .inl (19, 1, .iload 1, 0, 0) :: c_X_bits_20
def c_X_bits_16 : List eg_I := .inl (16, 3, .getfield 17, 11, 1) :: c_X_bits_19
def c_X_bits_15 : List eg_I := .inl (15, 1, .aload 0, 0, 0) :: c_X_bits_16
def c_X_bits_14 : List eg_I := .inl (14, 1, .lreturn, 0, 0) :: []
def c_X_bits_11 : List eg_I := .inr (11, 1, 86, n_X_found, 1, 11, 0, 0) :: c_X_bits_14
def c_X_bits_8 : List eg_I := .inl (8, 3, .sipush (-1000000000000000001), 84, 0) :: c_X_bits_11
def c_X_bits_7 : List eg_I := .inl (7, 1, .aload 0, 0, 0) :: c_X_bits_8
def c_X_bits_4 : List eg_I := .inl (4, 3, .ifCond .ne (11), 15, 0) :: c_X_bits_7
def c_X_bits_1 : List eg_I := .inr (1, 0, 160, n_X_isSheet, 1, 11, 0, 0) :: c_X_bits_4
def c_X_bits_0 : List eg_I := .inl (0, 1, .iload 1, 0, 0) :: c_X_bits_1
section
variable {rm : Room} {K : Nat → Nat → Nat → eg_Lo → List Value → List eg_E → Prop} {Q : Option Value → List eg_E → Prop} {kc ks : Nat} {loc : eg_Lo} {st : List Value} {h : List eg_E}
theorem s_X_bits_0 {x : Int32} {l0 : Option Value} {l : eg_Lo} : wps rm K Q c_X_bits_0 kc ks (l0 :: some (.int x) :: l) (st) h = wps rm K Q c_X_bits_1 kc ks (l0 :: some (.int x) :: l) (.int x :: st) h := gk_iload rfl
theorem s_X_bits_1  {a1 : Value} : wps rm K Q c_X_bits_1 kc ks loc (a1 :: st) h = (st.length ≤ 4 ∧ eg_Cs n_X_isSheet [a1] h (fun v h9 => wps rm K Q c_X_bits_4 kc ks loc (v.toList ++ st) h9)) := eg_c0_1
theorem s_X_bits_4 {x : Int32} : wps rm K Q c_X_bits_4 kc ks loc (.int x :: st) h = ((¬ x = 0 → K 15 kc ks loc st h) ∧ (x = 0 → wps rm K Q c_X_bits_7 kc ks loc (st) h)) := gk_if1_ne
theorem s_X_bits_7 {x : Nat} {l : eg_Lo} : wps rm K Q c_X_bits_7 kc ks (some (.ref x) :: l) (st) h = wps rm K Q c_X_bits_8 kc ks (some (.ref x) :: l) (.ref x :: st) h := gk_aload rfl
theorem s_X_bits_8  : wps rm K Q c_X_bits_8 kc ks loc (st) h = wps rm K Q c_X_bits_11 kc ks loc (.long (-1000000000000000001) :: st) h := gk_lc (by decide)
theorem s_X_bits_11  {a1 : Value} {x : Nat} : wps rm K Q c_X_bits_11 kc ks loc (a1 :: .ref (x + 1) :: st) h = (eg_cls h x 11 ∧ st.length ≤ 4 ∧ eg_Cs n_X_found (.ref (x + 1) :: [a1]) h (fun v h9 => wps rm K Q c_X_bits_14 kc ks loc (v.toList ++ st) h9)) := eg_c1_1
theorem s_X_bits_14 {x : Int64} : wps rm K Q c_X_bits_14 kc ks loc ([.long x]) h = (kc = rm.cells ∧ Q (some (.long x)) h) := gk_lret
theorem s_X_bits_15 {x : Nat} {l : eg_Lo} : wps rm K Q c_X_bits_15 kc ks (some (.ref x) :: l) (st) h = wps rm K Q c_X_bits_16 kc ks (some (.ref x) :: l) (.ref x :: st) h := gk_aload rfl
theorem s_X_bits_16 {x : Nat} : wps rm K Q c_X_bits_16 kc ks loc (.ref (x + 1) :: st) h = eg_gf h x 11 1 (fun v => wps rm K Q c_X_bits_19 kc ks loc (v :: st) h) := gk_gf
theorem s_X_bits_19 {x : Int32} {l0 : Option Value} {l : eg_Lo} : wps rm K Q c_X_bits_19 kc ks (l0 :: some (.int x) :: l) (st) h = wps rm K Q c_X_bits_20 kc ks (l0 :: some (.int x) :: l) (.int x :: st) h := gk_iload rfl
theorem s_X_bits_20 {x : Nat} {i : Int32} : wps rm K Q c_X_bits_20 kc ks loc (.int i :: .ref (x + 1) :: st) h = eg_aa h x i (fun v => wps rm K Q c_X_bits_21 kc ks loc (v :: st) h) := gk_aaload
theorem s_X_bits_21 {x : Nat} : wps rm K Q c_X_bits_21 kc ks loc (.ref x :: st) h = wps rm K Q c_X_bits_23 kc ks (eg_set1 loc 5 (.ref x)) (st) h := gk_astore
theorem s_X_bits_23 {x : Nat} {l0 l1 l2 l3 l4 : Option Value} {l : eg_Lo} : wps rm K Q c_X_bits_23 kc ks (l0 :: l1 :: l2 :: l3 :: l4 :: some (.ref x) :: l) (st) h = wps rm K Q c_X_bits_25 kc ks (l0 :: l1 :: l2 :: l3 :: l4 :: some (.ref x) :: l) (.ref x :: st) h := gk_aload rfl
theorem s_X_bits_25  {x : Nat} : wps rm K Q c_X_bits_25 kc ks loc (.ref (x + 1) :: st) h = (eg_cls h x 9 ∧ st.length ≤ 4 ∧ eg_Cs n_Sheet_isMissing (.ref (x + 1) :: []) h (fun v h9 => wps rm K Q c_X_bits_28 kc ks loc (v.toList ++ st) h9)) := eg_c1_0
theorem s_X_bits_28 {x : Int32} : wps rm K Q c_X_bits_28 kc ks loc (.int x :: st) h = ((x = 0 → K 39 kc ks loc st h) ∧ (¬ x = 0 → wps rm K Q c_X_bits_31 kc ks loc (st) h)) := gk_if1_eq
theorem s_X_bits_31 {x : Nat} {l : eg_Lo} : wps rm K Q c_X_bits_31 kc ks (some (.ref x) :: l) (st) h = wps rm K Q c_X_bits_32 kc ks (some (.ref x) :: l) (.ref x :: st) h := gk_aload rfl
theorem s_X_bits_32  : wps rm K Q c_X_bits_32 kc ks loc (st) h = wps rm K Q c_X_bits_35 kc ks loc (.long (-1000000000000000002) :: st) h := gk_lc (by decide)
theorem s_X_bits_35  {a1 : Value} {x : Nat} : wps rm K Q c_X_bits_35 kc ks loc (a1 :: .ref (x + 1) :: st) h = (eg_cls h x 11 ∧ st.length ≤ 4 ∧ eg_Cs n_X_found (.ref (x + 1) :: [a1]) h (fun v h9 => wps rm K Q c_X_bits_38 kc ks loc (v.toList ++ st) h9)) := eg_c1_1
theorem s_X_bits_38 {x : Int64} : wps rm K Q c_X_bits_38 kc ks loc ([.long x]) h = (kc = rm.cells ∧ Q (some (.long x)) h) := gk_lret
theorem s_X_bits_39 {x : Nat} {l0 l1 l2 l3 l4 : Option Value} {l : eg_Lo} : wps rm K Q c_X_bits_39 kc ks (l0 :: l1 :: l2 :: l3 :: l4 :: some (.ref x) :: l) (st) h = wps rm K Q c_X_bits_41 kc ks (l0 :: l1 :: l2 :: l3 :: l4 :: some (.ref x) :: l) (.ref x :: st) h := gk_aload rfl
theorem s_X_bits_41 {x : Nat} : wps rm K Q c_X_bits_41 kc ks loc (.ref (x + 1) :: st) h = eg_gf h x 9 1 (fun v => wps rm K Q c_X_bits_44 kc ks loc (v :: st) h) := gk_gf
theorem s_X_bits_44  : wps rm K Q c_X_bits_44 kc ks loc (st) h = wps rm K Q c_X_bits_45 kc ks loc (.int (3) :: st) h := gk_ic (by decide)
theorem s_X_bits_45 {x y : Int32} : wps rm K Q c_X_bits_45 kc ks loc (.int y :: .int x :: st) h = ((x = y → K 56 kc ks loc st h) ∧ (¬ x = y → wps rm K Q c_X_bits_48 kc ks loc (st) h)) := gk_if2_eq
theorem s_X_bits_48 {x : Nat} {l : eg_Lo} : wps rm K Q c_X_bits_48 kc ks (some (.ref x) :: l) (st) h = wps rm K Q c_X_bits_49 kc ks (some (.ref x) :: l) (.ref x :: st) h := gk_aload rfl
theorem s_X_bits_49  : wps rm K Q c_X_bits_49 kc ks loc (st) h = wps rm K Q c_X_bits_52 kc ks loc (.long (-1000000000000000004) :: st) h := gk_lc (by decide)
theorem s_X_bits_52  {a1 : Value} {x : Nat} : wps rm K Q c_X_bits_52 kc ks loc (a1 :: .ref (x + 1) :: st) h = (eg_cls h x 11 ∧ st.length ≤ 4 ∧ eg_Cs n_X_found (.ref (x + 1) :: [a1]) h (fun v h9 => wps rm K Q c_X_bits_55 kc ks loc (v.toList ++ st) h9)) := eg_c1_1
theorem s_X_bits_55 {x : Int64} : wps rm K Q c_X_bits_55 kc ks loc ([.long x]) h = (kc = rm.cells ∧ Q (some (.long x)) h) := gk_lret
theorem s_X_bits_56 {x : Int32} {l0 l1 : Option Value} {l : eg_Lo} : wps rm K Q c_X_bits_56 kc ks (l0 :: l1 :: some (.int x) :: l) (st) h = wps rm K Q c_X_bits_57 kc ks (l0 :: l1 :: some (.int x) :: l) (.int x :: st) h := gk_iload rfl
theorem s_X_bits_57  : wps rm K Q c_X_bits_57 kc ks loc (st) h = wps rm K Q c_X_bits_58 kc ks loc (.int (0) :: st) h := gk_ic (by decide)
theorem s_X_bits_58 {x : Nat} {l0 l1 l2 l3 l4 : Option Value} {l : eg_Lo} : wps rm K Q c_X_bits_58 kc ks (l0 :: l1 :: l2 :: l3 :: l4 :: some (.ref x) :: l) (st) h = wps rm K Q c_X_bits_60 kc ks (l0 :: l1 :: l2 :: l3 :: l4 :: some (.ref x) :: l) (.ref x :: st) h := gk_aload rfl
theorem s_X_bits_60 {x : Nat} : wps rm K Q c_X_bits_60 kc ks loc (.ref (x + 1) :: st) h = eg_gf h x 9 2 (fun v => wps rm K Q c_X_bits_63 kc ks loc (v :: st) h) := gk_gf
theorem s_X_bits_63  : wps rm K Q c_X_bits_63 kc ks loc (st) h = wps rm K Q c_X_bits_64 kc ks loc (.int (1) :: st) h := gk_ic (by decide)
theorem s_X_bits_64 {x y : Int32} : wps rm K Q c_X_bits_64 kc ks loc (.int y :: .int x :: st) h = wps rm K Q c_X_bits_65 kc ks loc (.int (x - y) :: st) h := gk_isub
theorem s_X_bits_65  {a1 : Value} {a2 : Value} {a3 : Value} : wps rm K Q c_X_bits_65 kc ks loc (a3 :: a2 :: a1 :: st) h = (st.length ≤ 4 ∧ eg_Cs n_X_isWithin [a1, a2, a3] h (fun v h9 => wps rm K Q c_X_bits_68 kc ks loc (v.toList ++ st) h9)) := eg_c0_3
theorem s_X_bits_68 {x : Int32} : wps rm K Q c_X_bits_68 kc ks loc (.int x :: st) h = ((¬ x = 0 → K 79 kc ks loc st h) ∧ (x = 0 → wps rm K Q c_X_bits_71 kc ks loc (st) h)) := gk_if1_ne
theorem s_X_bits_71 {x : Nat} {l : eg_Lo} : wps rm K Q c_X_bits_71 kc ks (some (.ref x) :: l) (st) h = wps rm K Q c_X_bits_72 kc ks (some (.ref x) :: l) (.ref x :: st) h := gk_aload rfl
theorem s_X_bits_72  : wps rm K Q c_X_bits_72 kc ks loc (st) h = wps rm K Q c_X_bits_75 kc ks loc (.long (-1000000000000000001) :: st) h := gk_lc (by decide)
theorem s_X_bits_75  {a1 : Value} {x : Nat} : wps rm K Q c_X_bits_75 kc ks loc (a1 :: .ref (x + 1) :: st) h = (eg_cls h x 11 ∧ st.length ≤ 4 ∧ eg_Cs n_X_found (.ref (x + 1) :: [a1]) h (fun v h9 => wps rm K Q c_X_bits_78 kc ks loc (v.toList ++ st) h9)) := eg_c1_1
theorem s_X_bits_78 {x : Int64} : wps rm K Q c_X_bits_78 kc ks loc ([.long x]) h = (kc = rm.cells ∧ Q (some (.long x)) h) := gk_lret
theorem s_X_bits_79 {x : Nat} {l0 l1 l2 l3 l4 : Option Value} {l : eg_Lo} : wps rm K Q c_X_bits_79 kc ks (l0 :: l1 :: l2 :: l3 :: l4 :: some (.ref x) :: l) (st) h = wps rm K Q c_X_bits_81 kc ks (l0 :: l1 :: l2 :: l3 :: l4 :: some (.ref x) :: l) (.ref x :: st) h := gk_aload rfl
theorem s_X_bits_81 {x : Nat} : wps rm K Q c_X_bits_81 kc ks loc (.ref (x + 1) :: st) h = eg_gf h x 9 0 (fun v => wps rm K Q c_X_bits_84 kc ks loc (v :: st) h) := gk_gf
theorem s_X_bits_84 {x : Int32} {l0 l1 : Option Value} {l : eg_Lo} : wps rm K Q c_X_bits_84 kc ks (l0 :: l1 :: some (.int x) :: l) (st) h = wps rm K Q c_X_bits_85 kc ks (l0 :: l1 :: some (.int x) :: l) (.int x :: st) h := gk_iload rfl
theorem s_X_bits_85 {x : Int64} {l0 l1 l2 : Option Value} {l : eg_Lo} : wps rm K Q c_X_bits_85 kc ks (l0 :: l1 :: l2 :: some (.long x) :: l) (st) h = wps rm K Q c_X_bits_86 kc ks (l0 :: l1 :: l2 :: some (.long x) :: l) (.long x :: st) h := gk_lload rfl
theorem s_X_bits_86  {a1 : Value} : wps rm K Q c_X_bits_86 kc ks loc (a1 :: st) h = (st.length ≤ 4 ∧ eg_Cs n_Sheet_wholeOfBits [a1] h (fun v h9 => wps rm K Q c_X_bits_89 kc ks loc (v.toList ++ st) h9)) := eg_c0_1
theorem s_X_bits_89 {x : Nat} {i : Int32} {v : Int32} : wps rm K Q c_X_bits_89 kc ks loc (.int v :: .int i :: .ref (x + 1) :: st) h = eg_is h x i v (fun h9 => wps rm K Q c_X_bits_90 kc ks loc (st) h9) := gk_iastore
theorem s_X_bits_90  : wps rm K Q c_X_bits_90 kc ks loc (st) h = wps rm K Q c_X_bits_91 kc ks loc (.long (0) :: st) h := gk_lc (by decide)
theorem s_X_bits_91 {x : Int64} : wps rm K Q c_X_bits_91 kc ks loc ([.long x]) h = (kc = rm.cells ∧ Q (some (.long x)) h) := gk_lret
def T_X_bits : List (Nat × List eg_I) := [(15, c_X_bits_15), (39, c_X_bits_39), (56, c_X_bits_56), (79, c_X_bits_79)]
theorem j_X_bits_15 {R : Nat → Nat → Nat → eg_Lo → List Value → List eg_E → Prop} {f pc0 : Nat} : eg_run rm R Q T_X_bits (f + 1) 15 kc ks loc st h = wps rm (eg_run rm R Q T_X_bits f) Q c_X_bits_15 kc ks loc st h := rfl
theorem j_X_bits_39 {R : Nat → Nat → Nat → eg_Lo → List Value → List eg_E → Prop} {f pc0 : Nat} : eg_run rm R Q T_X_bits (f + 1) 39 kc ks loc st h = wps rm (eg_run rm R Q T_X_bits f) Q c_X_bits_39 kc ks loc st h := rfl
theorem j_X_bits_56 {R : Nat → Nat → Nat → eg_Lo → List Value → List eg_E → Prop} {f pc0 : Nat} : eg_run rm R Q T_X_bits (f + 1) 56 kc ks loc st h = wps rm (eg_run rm R Q T_X_bits f) Q c_X_bits_56 kc ks loc st h := rfl
theorem j_X_bits_79 {R : Nat → Nat → Nat → eg_Lo → List Value → List eg_E → Prop} {f pc0 : Nat} : eg_run rm R Q T_X_bits (f + 1) 79 kc ks loc st h = wps rm (eg_run rm R Q T_X_bits f) Q c_X_bits_79 kc ks loc st h := rfl
end
theorem y_X_bits_0 : eg_seq m_X_bits 0 c_X_bits_0 = true := by decide +kernel
theorem y_X_bits_15 : eg_seq m_X_bits 15 c_X_bits_15 = true := by decide +kernel
theorem y_X_bits_39 : eg_seq m_X_bits 39 c_X_bits_39 = true := by decide +kernel
theorem y_X_bits_56 : eg_seq m_X_bits 56 c_X_bits_56 = true := by decide +kernel
theorem y_X_bits_79 : eg_seq m_X_bits 79 c_X_bits_79 = true := by decide +kernel
theorem q_X_bits : ∀ q ∈ T_X_bits, eg_seq m_X_bits q.1 q.2 = true := by
  intro q hq
  simp only [T_X_bits, List.mem_cons, List.not_mem_nil, or_false] at hq
  rcases hq with rfl | rfl | rfl | rfl
  · exact y_X_bits_15
  · exact y_X_bits_39
  · exact y_X_bits_56
  · exact y_X_bits_79
theorem b_X_bits {as : List Value} {h : List eg_E} {Q : Option Value → List eg_E → Prop} (hf : (eg_fl as).length ≤ 6) (hw : wps (eg_rm m_X_bits) (eg_run (eg_rm m_X_bits) (eg_R m_X_bits Q (h.length + 0)) Q T_X_bits 6) Q c_X_bits_0 0 0 (eg_entry 6 as) [] h) : eg_Runs n_X_bits as h Q := eg_begin2 (d := m_X_bits) rfl (by decide) y_X_bits_0 q_X_bits hf hw
/-! ===== X_copy ===== -/
def c_X_copy_135 : List eg_I := .inl (135, 1, .lreturn, 0, 0) :: []
def c_X_copy_134 : List eg_I := .inl (134, 1, .i2l, 0, 0) :: c_X_copy_135
def c_X_copy_132 : List eg_I := .inl (132, 2, .iload 5, 0, 0) :: c_X_copy_134
def c_X_copy_129 : List eg_I := .inl (129, 3, .monitorenter, 192, 0) :: c_X_copy_132
def c_X_copy_127 : List eg_I := .inl (127, 2, .iload 5, 0, 0) :: c_X_copy_129
def c_X_copy_125 : List eg_I := .inl (125, 2, .iload 4, 0, 0) :: c_X_copy_127
def c_X_copy_122 : List eg_I := .inl (122, 3, .getfield 177, 9, 0) :: c_X_copy_125
def c_X_copy_120 : List eg_I := .inl (120, 2, .aload 7, 0, 0) :: c_X_copy_122
def c_X_copy_119 : List eg_I := .inl (119, 1, .iload 2, 0, 0) :: c_X_copy_120
def c_X_copy_116 : List eg_I := .inl (116, 3, .getfield 177, 9, 0) :: c_X_copy_119
def c_X_copy_114 : List eg_I := .inl (114, 2, .aload 6, 0, 0) :: c_X_copy_116
def c_X_copy_113 : List eg_I := .inl (113, 1, .lreturn, 0, 0) :: []
def c_X_copy_110 : List eg_I := .inr (110, 1, 86, n_X_found, 1, 11, 0, 0) :: c_X_copy_113
def c_X_copy_107 : List eg_I := .inl (107, 3, .sipush (-1000000000000000001), 84, 0) :: c_X_copy_110
def c_X_copy_106 : List eg_I := .inl (106, 1, .aload 0, 0, 0) :: c_X_copy_107
def c_X_copy_103 : List eg_I := .inl (103, 3, .ifCond .ne (11), 114, 0) :: c_X_copy_106
def c_X_copy_100 : List eg_I := .inr (100, 1, 189, n_Sheet_hasRun, 2, 9, 0, 0) :: c_X_copy_103
def c_X_copy_98 : List eg_I := .inl (98, 2, .iload 5, 0, 0) :: c_X_copy_100
def c_X_copy_96 : List eg_I := .inl (96, 2, .iload 4, 0, 0) :: c_X_copy_98
def c_X_copy_94 : List eg_I := .inl (94, 2, .aload 7, 0, 0) :: c_X_copy_96
def c_X_copy_91 : List eg_I := .inl (91, 3, .ifCond .eq (15), 106, 0) :: c_X_copy_94
def c_X_copy_88 : List eg_I := .inr (88, 1, 189, n_Sheet_hasRun, 2, 9, 0, 0) :: c_X_copy_91
def c_X_copy_86 : List eg_I := .inl (86, 2, .iload 5, 0, 0) :: c_X_copy_88
def c_X_copy_85 : List eg_I := .inl (85, 1, .iload 2, 0, 0) :: c_X_copy_86
def c_X_copy_83 : List eg_I := .inl (83, 2, .aload 6, 0, 0) :: c_X_copy_85
def c_X_copy_82 : List eg_I := .inl (82, 1, .lreturn, 0, 0) :: []
def c_X_copy_79 : List eg_I := .inr (79, 1, 86, n_X_found, 1, 11, 0, 0) :: c_X_copy_82
def c_X_copy_76 : List eg_I := .inl (76, 3, .sipush (-1000000000000000004), 183, 0) :: c_X_copy_79
def c_X_copy_75 : List eg_I := .inl (75, 1, .aload 0, 0, 0) :: c_X_copy_76
def c_X_copy_72 : List eg_I := .inl (72, 3, .if_icmp .eq (11), 83, 0) :: c_X_copy_75
def c_X_copy_69 : List eg_I := .inl (69, 3, .getfield 180, 9, 1) :: c_X_copy_72
def c_X_copy_67 : List eg_I := .inl (67, 2, .aload 7, 0, 0) :: c_X_copy_69
def c_X_copy_64 : List eg_I := .inl (64, 3, .getfield 180, 9, 1) :: c_X_copy_67
def c_X_copy_62 : List eg_I := .inl (62, 2, .aload 6, 0, 0) :: c_X_copy_64
def c_X_copy_61 : List eg_I := .inl (61, 1, .lreturn, 0, 0) :: []
def c_X_copy_58 : List eg_I := .inr (58, 1, 86, n_X_found, 1, 11, 0, 0) :: c_X_copy_61
def c_X_copy_55 : List eg_I := .inl (55, 3, .sipush (-1000000000000000002), 172, 0) :: c_X_copy_58
def c_X_copy_54 : List eg_I := .inl (54, 1, .aload 0, 0, 0) :: c_X_copy_55
def c_X_copy_51 : List eg_I := .inl (51, 3, .ifCond .eq (11), 62, 0) :: c_X_copy_54
def c_X_copy_48 : List eg_I := .inr (48, 1, 168, n_Sheet_isMissing, 0, 9, 0, 0) :: c_X_copy_51
def c_X_copy_46 : List eg_I := .inl (46, 2, .aload 7, 0, 0) :: c_X_copy_48
def c_X_copy_43 : List eg_I := .inl (43, 3, .ifCond .ne (11), 54, 0) :: c_X_copy_46
def c_X_copy_40 : List eg_I := .inr (40, 1, 168, n_Sheet_isMissing, 0, 9, 0, 0) :: c_X_copy_43
def c_X_copy_38 : List eg_I := .inl (38, 2, .aload 6, 0, 0) :: c_X_copy_40
def c_X_copy_36 : List eg_I := .inl (36, 2, .astore 7, 0, 0) :: c_X_copy_38
def c_X_copy_35 : List eg_I := .inl (35, 1, .aaload, 0, 0) :: c_X_copy_36
def c_X_copy_34 : List eg_I := .inl (34, 1, .iload 3, 0, 0) :: c_X_copy_35
def c_X_copy_31 : List eg_I := .inl (31, 3, .getfield 17, 11, 1) :: c_X_copy_34
def c_X_copy_30 : List eg_I := .inl (30, 1, .aload 0, 0, 0) :: c_X_copy_31
def c_X_copy_28 : List eg_I := .inl (28, 2, .astore 6, 0, 0) :: c_X_copy_30
def c_X_copy_27 : List eg_I := .inl (27, 1, .aaload, 0, 0) :: c_X_copy_28
def c_X_copy_26 : List eg_I := .inl (26, 1, .iload 1, 0, 0) :: c_X_copy_27
def c_X_copy_23 : List eg_I := .inl (23, 3, .getfield 17, 11, 1) :: c_X_copy_26
def c_X_copy_22 : List eg_I := .inl (22, 1, .aload 0, 0, 0) :: c_X_copy_23
def c_X_copy_21 : List eg_I := .inl (21, 1, .lreturn, 0, 0) :: []
def c_X_copy_18 : List eg_I := .inr (18, 1, 86, n_X_found, 1, 11, 0, 0) :: c_X_copy_21
def c_X_copy_15 : List eg_I := .inl (15, 3, .sipush (-1000000000000000001), 84, 0) :: c_X_copy_18
def c_X_copy_14 : List eg_I := .inl (14, 1, .aload 0, 0, 0) :: c_X_copy_15
def c_X_copy_11 : List eg_I := .inl (11, 3, .ifCond .ne (11), 22, 0) :: c_X_copy_14
def c_X_copy_8 : List eg_I := .inr (8, 0, 160, n_X_isSheet, 1, 11, 0, 0) :: c_X_copy_11
def c_X_copy_7 : List eg_I := .inl (7, 1, .iload 3, 0, 0) :: c_X_copy_8
def c_X_copy_4 : List eg_I := .inl (4, 3, .ifCond .eq (10), 14, 0) :: c_X_copy_7
def c_X_copy_1 : List eg_I := .inr (1, 0, 160, n_X_isSheet, 1, 11, 0, 0) :: c_X_copy_4
def c_X_copy_0 : List eg_I := .inl (0, 1, .iload 1, 0, 0) :: c_X_copy_1
section
variable {rm : Room} {K : Nat → Nat → Nat → eg_Lo → List Value → List eg_E → Prop} {Q : Option Value → List eg_E → Prop} {kc ks : Nat} {loc : eg_Lo} {st : List Value} {h : List eg_E}
theorem s_X_copy_0 {x : Int32} {l0 : Option Value} {l : eg_Lo} : wps rm K Q c_X_copy_0 kc ks (l0 :: some (.int x) :: l) (st) h = wps rm K Q c_X_copy_1 kc ks (l0 :: some (.int x) :: l) (.int x :: st) h := gk_iload rfl
theorem s_X_copy_1  {a1 : Value} : wps rm K Q c_X_copy_1 kc ks loc (a1 :: st) h = (st.length ≤ 4 ∧ eg_Cs n_X_isSheet [a1] h (fun v h9 => wps rm K Q c_X_copy_4 kc ks loc (v.toList ++ st) h9)) := eg_c0_1
theorem s_X_copy_4 {x : Int32} : wps rm K Q c_X_copy_4 kc ks loc (.int x :: st) h = ((x = 0 → K 14 kc ks loc st h) ∧ (¬ x = 0 → wps rm K Q c_X_copy_7 kc ks loc (st) h)) := gk_if1_eq
theorem s_X_copy_7 {x : Int32} {l0 l1 l2 : Option Value} {l : eg_Lo} : wps rm K Q c_X_copy_7 kc ks (l0 :: l1 :: l2 :: some (.int x) :: l) (st) h = wps rm K Q c_X_copy_8 kc ks (l0 :: l1 :: l2 :: some (.int x) :: l) (.int x :: st) h := gk_iload rfl
theorem s_X_copy_8  {a1 : Value} : wps rm K Q c_X_copy_8 kc ks loc (a1 :: st) h = (st.length ≤ 4 ∧ eg_Cs n_X_isSheet [a1] h (fun v h9 => wps rm K Q c_X_copy_11 kc ks loc (v.toList ++ st) h9)) := eg_c0_1
theorem s_X_copy_11 {x : Int32} : wps rm K Q c_X_copy_11 kc ks loc (.int x :: st) h = ((¬ x = 0 → K 22 kc ks loc st h) ∧ (x = 0 → wps rm K Q c_X_copy_14 kc ks loc (st) h)) := gk_if1_ne
theorem s_X_copy_14 {x : Nat} {l : eg_Lo} : wps rm K Q c_X_copy_14 kc ks (some (.ref x) :: l) (st) h = wps rm K Q c_X_copy_15 kc ks (some (.ref x) :: l) (.ref x :: st) h := gk_aload rfl
theorem s_X_copy_15  : wps rm K Q c_X_copy_15 kc ks loc (st) h = wps rm K Q c_X_copy_18 kc ks loc (.long (-1000000000000000001) :: st) h := gk_lc (by decide)
theorem s_X_copy_18  {a1 : Value} {x : Nat} : wps rm K Q c_X_copy_18 kc ks loc (a1 :: .ref (x + 1) :: st) h = (eg_cls h x 11 ∧ st.length ≤ 4 ∧ eg_Cs n_X_found (.ref (x + 1) :: [a1]) h (fun v h9 => wps rm K Q c_X_copy_21 kc ks loc (v.toList ++ st) h9)) := eg_c1_1
theorem s_X_copy_21 {x : Int64} : wps rm K Q c_X_copy_21 kc ks loc ([.long x]) h = (kc = rm.cells ∧ Q (some (.long x)) h) := gk_lret
theorem s_X_copy_22 {x : Nat} {l : eg_Lo} : wps rm K Q c_X_copy_22 kc ks (some (.ref x) :: l) (st) h = wps rm K Q c_X_copy_23 kc ks (some (.ref x) :: l) (.ref x :: st) h := gk_aload rfl
theorem s_X_copy_23 {x : Nat} : wps rm K Q c_X_copy_23 kc ks loc (.ref (x + 1) :: st) h = eg_gf h x 11 1 (fun v => wps rm K Q c_X_copy_26 kc ks loc (v :: st) h) := gk_gf
theorem s_X_copy_26 {x : Int32} {l0 : Option Value} {l : eg_Lo} : wps rm K Q c_X_copy_26 kc ks (l0 :: some (.int x) :: l) (st) h = wps rm K Q c_X_copy_27 kc ks (l0 :: some (.int x) :: l) (.int x :: st) h := gk_iload rfl
theorem s_X_copy_27 {x : Nat} {i : Int32} : wps rm K Q c_X_copy_27 kc ks loc (.int i :: .ref (x + 1) :: st) h = eg_aa h x i (fun v => wps rm K Q c_X_copy_28 kc ks loc (v :: st) h) := gk_aaload
theorem s_X_copy_28 {x : Nat} : wps rm K Q c_X_copy_28 kc ks loc (.ref x :: st) h = wps rm K Q c_X_copy_30 kc ks (eg_set1 loc 6 (.ref x)) (st) h := gk_astore
theorem s_X_copy_30 {x : Nat} {l : eg_Lo} : wps rm K Q c_X_copy_30 kc ks (some (.ref x) :: l) (st) h = wps rm K Q c_X_copy_31 kc ks (some (.ref x) :: l) (.ref x :: st) h := gk_aload rfl
theorem s_X_copy_31 {x : Nat} : wps rm K Q c_X_copy_31 kc ks loc (.ref (x + 1) :: st) h = eg_gf h x 11 1 (fun v => wps rm K Q c_X_copy_34 kc ks loc (v :: st) h) := gk_gf
theorem s_X_copy_34 {x : Int32} {l0 l1 l2 : Option Value} {l : eg_Lo} : wps rm K Q c_X_copy_34 kc ks (l0 :: l1 :: l2 :: some (.int x) :: l) (st) h = wps rm K Q c_X_copy_35 kc ks (l0 :: l1 :: l2 :: some (.int x) :: l) (.int x :: st) h := gk_iload rfl
theorem s_X_copy_35 {x : Nat} {i : Int32} : wps rm K Q c_X_copy_35 kc ks loc (.int i :: .ref (x + 1) :: st) h = eg_aa h x i (fun v => wps rm K Q c_X_copy_36 kc ks loc (v :: st) h) := gk_aaload
theorem s_X_copy_36 {x : Nat} : wps rm K Q c_X_copy_36 kc ks loc (.ref x :: st) h = wps rm K Q c_X_copy_38 kc ks (eg_set1 loc 7 (.ref x)) (st) h := gk_astore
theorem s_X_copy_38 {x : Nat} {l0 l1 l2 l3 l4 l5 : Option Value} {l : eg_Lo} : wps rm K Q c_X_copy_38 kc ks (l0 :: l1 :: l2 :: l3 :: l4 :: l5 :: some (.ref x) :: l) (st) h = wps rm K Q c_X_copy_40 kc ks (l0 :: l1 :: l2 :: l3 :: l4 :: l5 :: some (.ref x) :: l) (.ref x :: st) h := gk_aload rfl
theorem s_X_copy_40  {x : Nat} : wps rm K Q c_X_copy_40 kc ks loc (.ref (x + 1) :: st) h = (eg_cls h x 9 ∧ st.length ≤ 4 ∧ eg_Cs n_Sheet_isMissing (.ref (x + 1) :: []) h (fun v h9 => wps rm K Q c_X_copy_43 kc ks loc (v.toList ++ st) h9)) := eg_c1_0
theorem s_X_copy_43 {x : Int32} : wps rm K Q c_X_copy_43 kc ks loc (.int x :: st) h = ((¬ x = 0 → K 54 kc ks loc st h) ∧ (x = 0 → wps rm K Q c_X_copy_46 kc ks loc (st) h)) := gk_if1_ne
theorem s_X_copy_46 {x : Nat} {l0 l1 l2 l3 l4 l5 l6 : Option Value} {l : eg_Lo} : wps rm K Q c_X_copy_46 kc ks (l0 :: l1 :: l2 :: l3 :: l4 :: l5 :: l6 :: some (.ref x) :: l) (st) h = wps rm K Q c_X_copy_48 kc ks (l0 :: l1 :: l2 :: l3 :: l4 :: l5 :: l6 :: some (.ref x) :: l) (.ref x :: st) h := gk_aload rfl
theorem s_X_copy_48  {x : Nat} : wps rm K Q c_X_copy_48 kc ks loc (.ref (x + 1) :: st) h = (eg_cls h x 9 ∧ st.length ≤ 4 ∧ eg_Cs n_Sheet_isMissing (.ref (x + 1) :: []) h (fun v h9 => wps rm K Q c_X_copy_51 kc ks loc (v.toList ++ st) h9)) := eg_c1_0
theorem s_X_copy_51 {x : Int32} : wps rm K Q c_X_copy_51 kc ks loc (.int x :: st) h = ((x = 0 → K 62 kc ks loc st h) ∧ (¬ x = 0 → wps rm K Q c_X_copy_54 kc ks loc (st) h)) := gk_if1_eq
theorem s_X_copy_54 {x : Nat} {l : eg_Lo} : wps rm K Q c_X_copy_54 kc ks (some (.ref x) :: l) (st) h = wps rm K Q c_X_copy_55 kc ks (some (.ref x) :: l) (.ref x :: st) h := gk_aload rfl
theorem s_X_copy_55  : wps rm K Q c_X_copy_55 kc ks loc (st) h = wps rm K Q c_X_copy_58 kc ks loc (.long (-1000000000000000002) :: st) h := gk_lc (by decide)
theorem s_X_copy_58  {a1 : Value} {x : Nat} : wps rm K Q c_X_copy_58 kc ks loc (a1 :: .ref (x + 1) :: st) h = (eg_cls h x 11 ∧ st.length ≤ 4 ∧ eg_Cs n_X_found (.ref (x + 1) :: [a1]) h (fun v h9 => wps rm K Q c_X_copy_61 kc ks loc (v.toList ++ st) h9)) := eg_c1_1
theorem s_X_copy_61 {x : Int64} : wps rm K Q c_X_copy_61 kc ks loc ([.long x]) h = (kc = rm.cells ∧ Q (some (.long x)) h) := gk_lret
theorem s_X_copy_62 {x : Nat} {l0 l1 l2 l3 l4 l5 : Option Value} {l : eg_Lo} : wps rm K Q c_X_copy_62 kc ks (l0 :: l1 :: l2 :: l3 :: l4 :: l5 :: some (.ref x) :: l) (st) h = wps rm K Q c_X_copy_64 kc ks (l0 :: l1 :: l2 :: l3 :: l4 :: l5 :: some (.ref x) :: l) (.ref x :: st) h := gk_aload rfl
theorem s_X_copy_64 {x : Nat} : wps rm K Q c_X_copy_64 kc ks loc (.ref (x + 1) :: st) h = eg_gf h x 9 1 (fun v => wps rm K Q c_X_copy_67 kc ks loc (v :: st) h) := gk_gf
theorem s_X_copy_67 {x : Nat} {l0 l1 l2 l3 l4 l5 l6 : Option Value} {l : eg_Lo} : wps rm K Q c_X_copy_67 kc ks (l0 :: l1 :: l2 :: l3 :: l4 :: l5 :: l6 :: some (.ref x) :: l) (st) h = wps rm K Q c_X_copy_69 kc ks (l0 :: l1 :: l2 :: l3 :: l4 :: l5 :: l6 :: some (.ref x) :: l) (.ref x :: st) h := gk_aload rfl
theorem s_X_copy_69 {x : Nat} : wps rm K Q c_X_copy_69 kc ks loc (.ref (x + 1) :: st) h = eg_gf h x 9 1 (fun v => wps rm K Q c_X_copy_72 kc ks loc (v :: st) h) := gk_gf
theorem s_X_copy_72 {x y : Int32} : wps rm K Q c_X_copy_72 kc ks loc (.int y :: .int x :: st) h = ((x = y → K 83 kc ks loc st h) ∧ (¬ x = y → wps rm K Q c_X_copy_75 kc ks loc (st) h)) := gk_if2_eq
theorem s_X_copy_75 {x : Nat} {l : eg_Lo} : wps rm K Q c_X_copy_75 kc ks (some (.ref x) :: l) (st) h = wps rm K Q c_X_copy_76 kc ks (some (.ref x) :: l) (.ref x :: st) h := gk_aload rfl
theorem s_X_copy_76  : wps rm K Q c_X_copy_76 kc ks loc (st) h = wps rm K Q c_X_copy_79 kc ks loc (.long (-1000000000000000004) :: st) h := gk_lc (by decide)
theorem s_X_copy_79  {a1 : Value} {x : Nat} : wps rm K Q c_X_copy_79 kc ks loc (a1 :: .ref (x + 1) :: st) h = (eg_cls h x 11 ∧ st.length ≤ 4 ∧ eg_Cs n_X_found (.ref (x + 1) :: [a1]) h (fun v h9 => wps rm K Q c_X_copy_82 kc ks loc (v.toList ++ st) h9)) := eg_c1_1
theorem s_X_copy_82 {x : Int64} : wps rm K Q c_X_copy_82 kc ks loc ([.long x]) h = (kc = rm.cells ∧ Q (some (.long x)) h) := gk_lret
theorem s_X_copy_83 {x : Nat} {l0 l1 l2 l3 l4 l5 : Option Value} {l : eg_Lo} : wps rm K Q c_X_copy_83 kc ks (l0 :: l1 :: l2 :: l3 :: l4 :: l5 :: some (.ref x) :: l) (st) h = wps rm K Q c_X_copy_85 kc ks (l0 :: l1 :: l2 :: l3 :: l4 :: l5 :: some (.ref x) :: l) (.ref x :: st) h := gk_aload rfl
theorem s_X_copy_85 {x : Int32} {l0 l1 : Option Value} {l : eg_Lo} : wps rm K Q c_X_copy_85 kc ks (l0 :: l1 :: some (.int x) :: l) (st) h = wps rm K Q c_X_copy_86 kc ks (l0 :: l1 :: some (.int x) :: l) (.int x :: st) h := gk_iload rfl
theorem s_X_copy_86 {x : Int32} {l0 l1 l2 l3 l4 : Option Value} {l : eg_Lo} : wps rm K Q c_X_copy_86 kc ks (l0 :: l1 :: l2 :: l3 :: l4 :: some (.int x) :: l) (st) h = wps rm K Q c_X_copy_88 kc ks (l0 :: l1 :: l2 :: l3 :: l4 :: some (.int x) :: l) (.int x :: st) h := gk_iload rfl
theorem s_X_copy_88  {a1 : Value} {a2 : Value} {x : Nat} : wps rm K Q c_X_copy_88 kc ks loc (a2 :: a1 :: .ref (x + 1) :: st) h = (eg_cls h x 9 ∧ st.length ≤ 4 ∧ eg_Cs n_Sheet_hasRun (.ref (x + 1) :: [a1, a2]) h (fun v h9 => wps rm K Q c_X_copy_91 kc ks loc (v.toList ++ st) h9)) := eg_c1_2
theorem s_X_copy_91 {x : Int32} : wps rm K Q c_X_copy_91 kc ks loc (.int x :: st) h = ((x = 0 → K 106 kc ks loc st h) ∧ (¬ x = 0 → wps rm K Q c_X_copy_94 kc ks loc (st) h)) := gk_if1_eq
theorem s_X_copy_94 {x : Nat} {l0 l1 l2 l3 l4 l5 l6 : Option Value} {l : eg_Lo} : wps rm K Q c_X_copy_94 kc ks (l0 :: l1 :: l2 :: l3 :: l4 :: l5 :: l6 :: some (.ref x) :: l) (st) h = wps rm K Q c_X_copy_96 kc ks (l0 :: l1 :: l2 :: l3 :: l4 :: l5 :: l6 :: some (.ref x) :: l) (.ref x :: st) h := gk_aload rfl
theorem s_X_copy_96 {x : Int32} {l0 l1 l2 l3 : Option Value} {l : eg_Lo} : wps rm K Q c_X_copy_96 kc ks (l0 :: l1 :: l2 :: l3 :: some (.int x) :: l) (st) h = wps rm K Q c_X_copy_98 kc ks (l0 :: l1 :: l2 :: l3 :: some (.int x) :: l) (.int x :: st) h := gk_iload rfl
theorem s_X_copy_98 {x : Int32} {l0 l1 l2 l3 l4 : Option Value} {l : eg_Lo} : wps rm K Q c_X_copy_98 kc ks (l0 :: l1 :: l2 :: l3 :: l4 :: some (.int x) :: l) (st) h = wps rm K Q c_X_copy_100 kc ks (l0 :: l1 :: l2 :: l3 :: l4 :: some (.int x) :: l) (.int x :: st) h := gk_iload rfl
theorem s_X_copy_100  {a1 : Value} {a2 : Value} {x : Nat} : wps rm K Q c_X_copy_100 kc ks loc (a2 :: a1 :: .ref (x + 1) :: st) h = (eg_cls h x 9 ∧ st.length ≤ 4 ∧ eg_Cs n_Sheet_hasRun (.ref (x + 1) :: [a1, a2]) h (fun v h9 => wps rm K Q c_X_copy_103 kc ks loc (v.toList ++ st) h9)) := eg_c1_2
theorem s_X_copy_103 {x : Int32} : wps rm K Q c_X_copy_103 kc ks loc (.int x :: st) h = ((¬ x = 0 → K 114 kc ks loc st h) ∧ (x = 0 → wps rm K Q c_X_copy_106 kc ks loc (st) h)) := gk_if1_ne
theorem s_X_copy_106 {x : Nat} {l : eg_Lo} : wps rm K Q c_X_copy_106 kc ks (some (.ref x) :: l) (st) h = wps rm K Q c_X_copy_107 kc ks (some (.ref x) :: l) (.ref x :: st) h := gk_aload rfl
theorem s_X_copy_107  : wps rm K Q c_X_copy_107 kc ks loc (st) h = wps rm K Q c_X_copy_110 kc ks loc (.long (-1000000000000000001) :: st) h := gk_lc (by decide)
theorem s_X_copy_110  {a1 : Value} {x : Nat} : wps rm K Q c_X_copy_110 kc ks loc (a1 :: .ref (x + 1) :: st) h = (eg_cls h x 11 ∧ st.length ≤ 4 ∧ eg_Cs n_X_found (.ref (x + 1) :: [a1]) h (fun v h9 => wps rm K Q c_X_copy_113 kc ks loc (v.toList ++ st) h9)) := eg_c1_1
theorem s_X_copy_113 {x : Int64} : wps rm K Q c_X_copy_113 kc ks loc ([.long x]) h = (kc = rm.cells ∧ Q (some (.long x)) h) := gk_lret
theorem s_X_copy_114 {x : Nat} {l0 l1 l2 l3 l4 l5 : Option Value} {l : eg_Lo} : wps rm K Q c_X_copy_114 kc ks (l0 :: l1 :: l2 :: l3 :: l4 :: l5 :: some (.ref x) :: l) (st) h = wps rm K Q c_X_copy_116 kc ks (l0 :: l1 :: l2 :: l3 :: l4 :: l5 :: some (.ref x) :: l) (.ref x :: st) h := gk_aload rfl
theorem s_X_copy_116 {x : Nat} : wps rm K Q c_X_copy_116 kc ks loc (.ref (x + 1) :: st) h = eg_gf h x 9 0 (fun v => wps rm K Q c_X_copy_119 kc ks loc (v :: st) h) := gk_gf
theorem s_X_copy_119 {x : Int32} {l0 l1 : Option Value} {l : eg_Lo} : wps rm K Q c_X_copy_119 kc ks (l0 :: l1 :: some (.int x) :: l) (st) h = wps rm K Q c_X_copy_120 kc ks (l0 :: l1 :: some (.int x) :: l) (.int x :: st) h := gk_iload rfl
theorem s_X_copy_120 {x : Nat} {l0 l1 l2 l3 l4 l5 l6 : Option Value} {l : eg_Lo} : wps rm K Q c_X_copy_120 kc ks (l0 :: l1 :: l2 :: l3 :: l4 :: l5 :: l6 :: some (.ref x) :: l) (st) h = wps rm K Q c_X_copy_122 kc ks (l0 :: l1 :: l2 :: l3 :: l4 :: l5 :: l6 :: some (.ref x) :: l) (.ref x :: st) h := gk_aload rfl
theorem s_X_copy_122 {x : Nat} : wps rm K Q c_X_copy_122 kc ks loc (.ref (x + 1) :: st) h = eg_gf h x 9 0 (fun v => wps rm K Q c_X_copy_125 kc ks loc (v :: st) h) := gk_gf
theorem s_X_copy_125 {x : Int32} {l0 l1 l2 l3 : Option Value} {l : eg_Lo} : wps rm K Q c_X_copy_125 kc ks (l0 :: l1 :: l2 :: l3 :: some (.int x) :: l) (st) h = wps rm K Q c_X_copy_127 kc ks (l0 :: l1 :: l2 :: l3 :: some (.int x) :: l) (.int x :: st) h := gk_iload rfl
theorem s_X_copy_127 {x : Int32} {l0 l1 l2 l3 l4 : Option Value} {l : eg_Lo} : wps rm K Q c_X_copy_127 kc ks (l0 :: l1 :: l2 :: l3 :: l4 :: some (.int x) :: l) (st) h = wps rm K Q c_X_copy_129 kc ks (l0 :: l1 :: l2 :: l3 :: l4 :: some (.int x) :: l) (.int x :: st) h := gk_iload rfl
theorem s_X_copy_129 {x y : Nat} {sp dp z : Int32} : wps rm K Q c_X_copy_129 kc ks loc (.int z :: .int dp :: .ref (y + 1) :: .int sp :: .ref (x + 1) :: []) h = eg_cpi h x y sp dp z (fun h9 => wps rm K Q c_X_copy_132 kc ks loc ([]) h9) := eg_cp_i
theorem s_X_copy_132 {x : Int32} {l0 l1 l2 l3 l4 : Option Value} {l : eg_Lo} : wps rm K Q c_X_copy_132 kc ks (l0 :: l1 :: l2 :: l3 :: l4 :: some (.int x) :: l) (st) h = wps rm K Q c_X_copy_134 kc ks (l0 :: l1 :: l2 :: l3 :: l4 :: some (.int x) :: l) (.int x :: st) h := gk_iload rfl
theorem s_X_copy_134 {x : Int32} : wps rm K Q c_X_copy_134 kc ks loc (.int x :: st) h = wps rm K Q c_X_copy_135 kc ks loc (.long (x.toInt64) :: st) h := gk_i2l
theorem s_X_copy_135 {x : Int64} : wps rm K Q c_X_copy_135 kc ks loc ([.long x]) h = (kc = rm.cells ∧ Q (some (.long x)) h) := gk_lret
def T_X_copy : List (Nat × List eg_I) := [(14, c_X_copy_14), (22, c_X_copy_22), (54, c_X_copy_54), (62, c_X_copy_62), (83, c_X_copy_83), (106, c_X_copy_106), (114, c_X_copy_114)]
theorem j_X_copy_14 {R : Nat → Nat → Nat → eg_Lo → List Value → List eg_E → Prop} {f pc0 : Nat} : eg_run rm R Q T_X_copy (f + 1) 14 kc ks loc st h = wps rm (eg_run rm R Q T_X_copy f) Q c_X_copy_14 kc ks loc st h := rfl
theorem j_X_copy_22 {R : Nat → Nat → Nat → eg_Lo → List Value → List eg_E → Prop} {f pc0 : Nat} : eg_run rm R Q T_X_copy (f + 1) 22 kc ks loc st h = wps rm (eg_run rm R Q T_X_copy f) Q c_X_copy_22 kc ks loc st h := rfl
theorem j_X_copy_54 {R : Nat → Nat → Nat → eg_Lo → List Value → List eg_E → Prop} {f pc0 : Nat} : eg_run rm R Q T_X_copy (f + 1) 54 kc ks loc st h = wps rm (eg_run rm R Q T_X_copy f) Q c_X_copy_54 kc ks loc st h := rfl
theorem j_X_copy_62 {R : Nat → Nat → Nat → eg_Lo → List Value → List eg_E → Prop} {f pc0 : Nat} : eg_run rm R Q T_X_copy (f + 1) 62 kc ks loc st h = wps rm (eg_run rm R Q T_X_copy f) Q c_X_copy_62 kc ks loc st h := rfl
theorem j_X_copy_83 {R : Nat → Nat → Nat → eg_Lo → List Value → List eg_E → Prop} {f pc0 : Nat} : eg_run rm R Q T_X_copy (f + 1) 83 kc ks loc st h = wps rm (eg_run rm R Q T_X_copy f) Q c_X_copy_83 kc ks loc st h := rfl
theorem j_X_copy_106 {R : Nat → Nat → Nat → eg_Lo → List Value → List eg_E → Prop} {f pc0 : Nat} : eg_run rm R Q T_X_copy (f + 1) 106 kc ks loc st h = wps rm (eg_run rm R Q T_X_copy f) Q c_X_copy_106 kc ks loc st h := rfl
theorem j_X_copy_114 {R : Nat → Nat → Nat → eg_Lo → List Value → List eg_E → Prop} {f pc0 : Nat} : eg_run rm R Q T_X_copy (f + 1) 114 kc ks loc st h = wps rm (eg_run rm R Q T_X_copy f) Q c_X_copy_114 kc ks loc st h := rfl
end
theorem y_X_copy_0 : eg_seq m_X_copy 0 c_X_copy_0 = true := by decide +kernel
theorem y_X_copy_22 : eg_seq m_X_copy 22 c_X_copy_22 = true := by decide +kernel
theorem y_X_copy_62 : eg_seq m_X_copy 62 c_X_copy_62 = true := by decide +kernel
theorem y_X_copy_83 : eg_seq m_X_copy 83 c_X_copy_83 = true := by decide +kernel
theorem y_X_copy_114 : eg_seq m_X_copy 114 c_X_copy_114 = true := by decide +kernel
theorem q_X_copy : ∀ q ∈ T_X_copy, eg_seq m_X_copy q.1 q.2 = true := by
  intro q hq
  simp only [T_X_copy, List.mem_cons, List.not_mem_nil, or_false] at hq
  rcases hq with rfl | rfl | rfl | rfl | rfl | rfl | rfl
  · exact (eg_seq_drop y_X_copy_0 6 : eg_seq m_X_copy 14 c_X_copy_14 = true)
  · exact y_X_copy_22
  · exact (eg_seq_drop y_X_copy_22 16 : eg_seq m_X_copy 54 c_X_copy_54 = true)
  · exact y_X_copy_62
  · exact y_X_copy_83
  · exact (eg_seq_drop y_X_copy_83 10 : eg_seq m_X_copy 106 c_X_copy_106 = true)
  · exact y_X_copy_114
theorem b_X_copy {as : List Value} {h : List eg_E} {Q : Option Value → List eg_E → Prop} (hf : (eg_fl as).length ≤ 8) (hw : wps (eg_rm m_X_copy) (eg_run (eg_rm m_X_copy) (eg_R m_X_copy Q (h.length + 0)) Q T_X_copy 9) Q c_X_copy_0 0 0 (eg_entry 8 as) [] h) : eg_Runs n_X_copy as h Q := eg_begin2 (d := m_X_copy) rfl (by decide) y_X_copy_0 q_X_copy hf hw
/-! ===== X_lay ===== -/
def c_X_lay_89 : List eg_I := .inl (89, 1, .lreturn, 0, 0) :: []
def c_X_lay_88 : List eg_I := .inl (88, 1, .i2l, 0, 0) :: c_X_lay_89
def c_X_lay_85 : List eg_I := .inr (85, 0, 198, n_X_layPoints, 2, 11, 0, 0) :: c_X_lay_88
def c_X_lay_84 : List eg_I := .inl (84, 1, .aaload, 0, 0) :: c_X_lay_85
def c_X_lay_83 : List eg_I := .inl (83, 1, .iload 2, 0, 0) :: c_X_lay_84
def c_X_lay_80 : List eg_I := .inl (80, 3, .getfield 17, 11, 1) :: c_X_lay_83
def c_X_lay_79 : List eg_I := .inl (79, 1, .aload 0, 0, 0) :: c_X_lay_80
def c_X_lay_78 : List eg_I := .inl (78, 1, .aaload, 0, 0) :: c_X_lay_79
def c_X_lay_77 : List eg_I := .inl (77, 1, .iload 1, 0, 0) :: c_X_lay_78
def c_X_lay_74 : List eg_I := .inl (74, 3, .getfield 11, 11, 0) :: c_X_lay_77
def c_X_lay_73 : List eg_I := .inl (73, 1, .aload 0, 0, 0) :: c_X_lay_74
def c_X_lay_72 : List eg_I := .inl (72, 1, .lreturn, 0, 0) :: []
def c_X_lay_69 : List eg_I := .inr (69, 1, 86, n_X_found, 1, 11, 0, 0) :: c_X_lay_72
def c_X_lay_66 : List eg_I := .inl (66, 3, .sipush (-1000000000000000005), 94, 0) :: c_X_lay_69
def c_X_lay_65 : List eg_I := .inl (65, 1, .aload 0, 0, 0) :: c_X_lay_66
def c_X_lay_62 : List eg_I := .inl (62, 3, .if_icmp .le (11), 73, 0) :: c_X_lay_65
def c_X_lay_59 : List eg_I := .inr (59, 1, 90, n_Part_room, 0, 8, 0, 0) :: c_X_lay_62
def c_X_lay_58 : List eg_I := .inl (58, 1, .aaload, 0, 0) :: c_X_lay_59
def c_X_lay_57 : List eg_I := .inl (57, 1, .iload 1, 0, 0) :: c_X_lay_58
def c_X_lay_54 : List eg_I := .inl (54, 3, .getfield 11, 11, 0) :: c_X_lay_57
def c_X_lay_53 : List eg_I := .inl (53, 1, .aload 0, 0, 0) :: c_X_lay_54
def c_X_lay_52 : List eg_I := .inl (52, 1, .idiv, 0, 0) :: c_X_lay_53
def c_X_lay_51 : List eg_I := .inl (51, 1, .iconst (3), 0, 0) :: c_X_lay_52
def c_X_lay_48 : List eg_I := .inl (48, 3, .getfield 174, 9, 2) :: c_X_lay_51
def c_X_lay_47 : List eg_I := .inl (47, 1, .aaload, 0, 0) :: c_X_lay_48
def c_X_lay_46 : List eg_I := .inl (46, 1, .iload 2, 0, 0) :: c_X_lay_47
def c_X_lay_43 : List eg_I := .inl (43, 3, .getfield 17, 11, 1) :: c_X_lay_46
def c_X_lay_42 : List eg_I := .inl (42, 1, .aload 0, 0, 0) :: c_X_lay_43
def c_X_lay_41 : List eg_I := .inl (41, 1, .lreturn, 0, 0) :: []
def c_X_lay_38 : List eg_I := .inr (38, 1, 86, n_X_found, 1, 11, 0, 0) :: c_X_lay_41
def c_X_lay_35 : List eg_I := .inl (35, 3, .sipush (-1000000000000000002), 172, 0) :: c_X_lay_38
def c_X_lay_34 : List eg_I := .inl (34, 1, .aload 0, 0, 0) :: c_X_lay_35
def c_X_lay_31 : List eg_I := .inl (31, 3, .ifCond .eq (11), 42, 0) :: c_X_lay_34
def c_X_lay_28 : List eg_I := .inr (28, 1, 168, n_Sheet_isMissing, 0, 9, 0, 0) :: c_X_lay_31
def c_X_lay_27 : List eg_I := .inl (27, 1, .aaload, 0, 0) :: c_X_lay_28
def c_X_lay_26 : List eg_I := .inl (26, 1, .iload 2, 0, 0) :: c_X_lay_27
def c_X_lay_23 : List eg_I := .inl (23, 3, .getfield 17, 11, 1) :: c_X_lay_26
def c_X_lay_22 : List eg_I := .inl (22, 1, .aload 0, 0, 0) :: c_X_lay_23
def c_X_lay_21 : List eg_I := .inl (21, 1, .lreturn, 0, 0) :: []
def c_X_lay_18 : List eg_I := .inr (18, 1, 86, n_X_found, 1, 11, 0, 0) :: c_X_lay_21
def c_X_lay_15 : List eg_I := .inl (15, 3, .sipush (-1000000000000000001), 84, 0) :: c_X_lay_18
def c_X_lay_14 : List eg_I := .inl (14, 1, .aload 0, 0, 0) :: c_X_lay_15
def c_X_lay_11 : List eg_I := .inl (11, 3, .ifCond .ne (11), 22, 0) :: c_X_lay_14
def c_X_lay_8 : List eg_I := .inr (8, 0, 160, n_X_isSheet, 1, 11, 0, 0) :: c_X_lay_11
def c_X_lay_7 : List eg_I := .inl (7, 1, .iload 2, 0, 0) :: c_X_lay_8
def c_X_lay_4 : List eg_I := .inl (4, 3, .ifCond .eq (10), 14, 0) :: c_X_lay_7
def c_X_lay_1 : List eg_I := .inr (1, 0, 72, n_X_isPart, 1, 11, 0, 0) :: c_X_lay_4
def c_X_lay_0 : List eg_I := .inl (0, 1, .iload 1, 0, 0) :: c_X_lay_1
section
variable {rm : Room} {K : Nat → Nat → Nat → eg_Lo → List Value → List eg_E → Prop} {Q : Option Value → List eg_E → Prop} {kc ks : Nat} {loc : eg_Lo} {st : List Value} {h : List eg_E}
theorem s_X_lay_0 {x : Int32} {l0 : Option Value} {l : eg_Lo} : wps rm K Q c_X_lay_0 kc ks (l0 :: some (.int x) :: l) (st) h = wps rm K Q c_X_lay_1 kc ks (l0 :: some (.int x) :: l) (.int x :: st) h := gk_iload rfl
theorem s_X_lay_1  {a1 : Value} : wps rm K Q c_X_lay_1 kc ks loc (a1 :: st) h = (st.length ≤ 4 ∧ eg_Cs n_X_isPart [a1] h (fun v h9 => wps rm K Q c_X_lay_4 kc ks loc (v.toList ++ st) h9)) := eg_c0_1
theorem s_X_lay_4 {x : Int32} : wps rm K Q c_X_lay_4 kc ks loc (.int x :: st) h = ((x = 0 → K 14 kc ks loc st h) ∧ (¬ x = 0 → wps rm K Q c_X_lay_7 kc ks loc (st) h)) := gk_if1_eq
theorem s_X_lay_7 {x : Int32} {l0 l1 : Option Value} {l : eg_Lo} : wps rm K Q c_X_lay_7 kc ks (l0 :: l1 :: some (.int x) :: l) (st) h = wps rm K Q c_X_lay_8 kc ks (l0 :: l1 :: some (.int x) :: l) (.int x :: st) h := gk_iload rfl
theorem s_X_lay_8  {a1 : Value} : wps rm K Q c_X_lay_8 kc ks loc (a1 :: st) h = (st.length ≤ 4 ∧ eg_Cs n_X_isSheet [a1] h (fun v h9 => wps rm K Q c_X_lay_11 kc ks loc (v.toList ++ st) h9)) := eg_c0_1
theorem s_X_lay_11 {x : Int32} : wps rm K Q c_X_lay_11 kc ks loc (.int x :: st) h = ((¬ x = 0 → K 22 kc ks loc st h) ∧ (x = 0 → wps rm K Q c_X_lay_14 kc ks loc (st) h)) := gk_if1_ne
theorem s_X_lay_14 {x : Nat} {l : eg_Lo} : wps rm K Q c_X_lay_14 kc ks (some (.ref x) :: l) (st) h = wps rm K Q c_X_lay_15 kc ks (some (.ref x) :: l) (.ref x :: st) h := gk_aload rfl
theorem s_X_lay_15  : wps rm K Q c_X_lay_15 kc ks loc (st) h = wps rm K Q c_X_lay_18 kc ks loc (.long (-1000000000000000001) :: st) h := gk_lc (by decide)
theorem s_X_lay_18  {a1 : Value} {x : Nat} : wps rm K Q c_X_lay_18 kc ks loc (a1 :: .ref (x + 1) :: st) h = (eg_cls h x 11 ∧ st.length ≤ 4 ∧ eg_Cs n_X_found (.ref (x + 1) :: [a1]) h (fun v h9 => wps rm K Q c_X_lay_21 kc ks loc (v.toList ++ st) h9)) := eg_c1_1
theorem s_X_lay_21 {x : Int64} : wps rm K Q c_X_lay_21 kc ks loc ([.long x]) h = (kc = rm.cells ∧ Q (some (.long x)) h) := gk_lret
theorem s_X_lay_22 {x : Nat} {l : eg_Lo} : wps rm K Q c_X_lay_22 kc ks (some (.ref x) :: l) (st) h = wps rm K Q c_X_lay_23 kc ks (some (.ref x) :: l) (.ref x :: st) h := gk_aload rfl
theorem s_X_lay_23 {x : Nat} : wps rm K Q c_X_lay_23 kc ks loc (.ref (x + 1) :: st) h = eg_gf h x 11 1 (fun v => wps rm K Q c_X_lay_26 kc ks loc (v :: st) h) := gk_gf
theorem s_X_lay_26 {x : Int32} {l0 l1 : Option Value} {l : eg_Lo} : wps rm K Q c_X_lay_26 kc ks (l0 :: l1 :: some (.int x) :: l) (st) h = wps rm K Q c_X_lay_27 kc ks (l0 :: l1 :: some (.int x) :: l) (.int x :: st) h := gk_iload rfl
theorem s_X_lay_27 {x : Nat} {i : Int32} : wps rm K Q c_X_lay_27 kc ks loc (.int i :: .ref (x + 1) :: st) h = eg_aa h x i (fun v => wps rm K Q c_X_lay_28 kc ks loc (v :: st) h) := gk_aaload
theorem s_X_lay_28  {x : Nat} : wps rm K Q c_X_lay_28 kc ks loc (.ref (x + 1) :: st) h = (eg_cls h x 9 ∧ st.length ≤ 4 ∧ eg_Cs n_Sheet_isMissing (.ref (x + 1) :: []) h (fun v h9 => wps rm K Q c_X_lay_31 kc ks loc (v.toList ++ st) h9)) := eg_c1_0
theorem s_X_lay_31 {x : Int32} : wps rm K Q c_X_lay_31 kc ks loc (.int x :: st) h = ((x = 0 → K 42 kc ks loc st h) ∧ (¬ x = 0 → wps rm K Q c_X_lay_34 kc ks loc (st) h)) := gk_if1_eq
theorem s_X_lay_34 {x : Nat} {l : eg_Lo} : wps rm K Q c_X_lay_34 kc ks (some (.ref x) :: l) (st) h = wps rm K Q c_X_lay_35 kc ks (some (.ref x) :: l) (.ref x :: st) h := gk_aload rfl
theorem s_X_lay_35  : wps rm K Q c_X_lay_35 kc ks loc (st) h = wps rm K Q c_X_lay_38 kc ks loc (.long (-1000000000000000002) :: st) h := gk_lc (by decide)
theorem s_X_lay_38  {a1 : Value} {x : Nat} : wps rm K Q c_X_lay_38 kc ks loc (a1 :: .ref (x + 1) :: st) h = (eg_cls h x 11 ∧ st.length ≤ 4 ∧ eg_Cs n_X_found (.ref (x + 1) :: [a1]) h (fun v h9 => wps rm K Q c_X_lay_41 kc ks loc (v.toList ++ st) h9)) := eg_c1_1
theorem s_X_lay_41 {x : Int64} : wps rm K Q c_X_lay_41 kc ks loc ([.long x]) h = (kc = rm.cells ∧ Q (some (.long x)) h) := gk_lret
theorem s_X_lay_42 {x : Nat} {l : eg_Lo} : wps rm K Q c_X_lay_42 kc ks (some (.ref x) :: l) (st) h = wps rm K Q c_X_lay_43 kc ks (some (.ref x) :: l) (.ref x :: st) h := gk_aload rfl
theorem s_X_lay_43 {x : Nat} : wps rm K Q c_X_lay_43 kc ks loc (.ref (x + 1) :: st) h = eg_gf h x 11 1 (fun v => wps rm K Q c_X_lay_46 kc ks loc (v :: st) h) := gk_gf
theorem s_X_lay_46 {x : Int32} {l0 l1 : Option Value} {l : eg_Lo} : wps rm K Q c_X_lay_46 kc ks (l0 :: l1 :: some (.int x) :: l) (st) h = wps rm K Q c_X_lay_47 kc ks (l0 :: l1 :: some (.int x) :: l) (.int x :: st) h := gk_iload rfl
theorem s_X_lay_47 {x : Nat} {i : Int32} : wps rm K Q c_X_lay_47 kc ks loc (.int i :: .ref (x + 1) :: st) h = eg_aa h x i (fun v => wps rm K Q c_X_lay_48 kc ks loc (v :: st) h) := gk_aaload
theorem s_X_lay_48 {x : Nat} : wps rm K Q c_X_lay_48 kc ks loc (.ref (x + 1) :: st) h = eg_gf h x 9 2 (fun v => wps rm K Q c_X_lay_51 kc ks loc (v :: st) h) := gk_gf
theorem s_X_lay_51  : wps rm K Q c_X_lay_51 kc ks loc (st) h = wps rm K Q c_X_lay_52 kc ks loc (.int (3) :: st) h := gk_ic (by decide)
theorem s_X_lay_52 {x y : Int32} : wps rm K Q c_X_lay_52 kc ks loc (.int y :: .int x :: st) h = (¬ y = 0 ∧ wps rm K Q c_X_lay_53 kc ks loc (.int (x / y) :: st) h) := gk_idiv
theorem s_X_lay_53 {x : Nat} {l : eg_Lo} : wps rm K Q c_X_lay_53 kc ks (some (.ref x) :: l) (st) h = wps rm K Q c_X_lay_54 kc ks (some (.ref x) :: l) (.ref x :: st) h := gk_aload rfl
theorem s_X_lay_54 {x : Nat} : wps rm K Q c_X_lay_54 kc ks loc (.ref (x + 1) :: st) h = eg_gf h x 11 0 (fun v => wps rm K Q c_X_lay_57 kc ks loc (v :: st) h) := gk_gf
theorem s_X_lay_57 {x : Int32} {l0 : Option Value} {l : eg_Lo} : wps rm K Q c_X_lay_57 kc ks (l0 :: some (.int x) :: l) (st) h = wps rm K Q c_X_lay_58 kc ks (l0 :: some (.int x) :: l) (.int x :: st) h := gk_iload rfl
theorem s_X_lay_58 {x : Nat} {i : Int32} : wps rm K Q c_X_lay_58 kc ks loc (.int i :: .ref (x + 1) :: st) h = eg_aa h x i (fun v => wps rm K Q c_X_lay_59 kc ks loc (v :: st) h) := gk_aaload
theorem s_X_lay_59  {x : Nat} : wps rm K Q c_X_lay_59 kc ks loc (.ref (x + 1) :: st) h = (eg_cls h x 8 ∧ st.length ≤ 4 ∧ eg_Cs n_Part_room (.ref (x + 1) :: []) h (fun v h9 => wps rm K Q c_X_lay_62 kc ks loc (v.toList ++ st) h9)) := eg_c1_0
theorem s_X_lay_62 {x y : Int32} : wps rm K Q c_X_lay_62 kc ks loc (.int y :: .int x :: st) h = ((x ≤ y → K 73 kc ks loc st h) ∧ (¬ x ≤ y → wps rm K Q c_X_lay_65 kc ks loc (st) h)) := gk_if2_le
theorem s_X_lay_65 {x : Nat} {l : eg_Lo} : wps rm K Q c_X_lay_65 kc ks (some (.ref x) :: l) (st) h = wps rm K Q c_X_lay_66 kc ks (some (.ref x) :: l) (.ref x :: st) h := gk_aload rfl
theorem s_X_lay_66  : wps rm K Q c_X_lay_66 kc ks loc (st) h = wps rm K Q c_X_lay_69 kc ks loc (.long (-1000000000000000005) :: st) h := gk_lc (by decide)
theorem s_X_lay_69  {a1 : Value} {x : Nat} : wps rm K Q c_X_lay_69 kc ks loc (a1 :: .ref (x + 1) :: st) h = (eg_cls h x 11 ∧ st.length ≤ 4 ∧ eg_Cs n_X_found (.ref (x + 1) :: [a1]) h (fun v h9 => wps rm K Q c_X_lay_72 kc ks loc (v.toList ++ st) h9)) := eg_c1_1
theorem s_X_lay_72 {x : Int64} : wps rm K Q c_X_lay_72 kc ks loc ([.long x]) h = (kc = rm.cells ∧ Q (some (.long x)) h) := gk_lret
theorem s_X_lay_73 {x : Nat} {l : eg_Lo} : wps rm K Q c_X_lay_73 kc ks (some (.ref x) :: l) (st) h = wps rm K Q c_X_lay_74 kc ks (some (.ref x) :: l) (.ref x :: st) h := gk_aload rfl
theorem s_X_lay_74 {x : Nat} : wps rm K Q c_X_lay_74 kc ks loc (.ref (x + 1) :: st) h = eg_gf h x 11 0 (fun v => wps rm K Q c_X_lay_77 kc ks loc (v :: st) h) := gk_gf
theorem s_X_lay_77 {x : Int32} {l0 : Option Value} {l : eg_Lo} : wps rm K Q c_X_lay_77 kc ks (l0 :: some (.int x) :: l) (st) h = wps rm K Q c_X_lay_78 kc ks (l0 :: some (.int x) :: l) (.int x :: st) h := gk_iload rfl
theorem s_X_lay_78 {x : Nat} {i : Int32} : wps rm K Q c_X_lay_78 kc ks loc (.int i :: .ref (x + 1) :: st) h = eg_aa h x i (fun v => wps rm K Q c_X_lay_79 kc ks loc (v :: st) h) := gk_aaload
theorem s_X_lay_79 {x : Nat} {l : eg_Lo} : wps rm K Q c_X_lay_79 kc ks (some (.ref x) :: l) (st) h = wps rm K Q c_X_lay_80 kc ks (some (.ref x) :: l) (.ref x :: st) h := gk_aload rfl
theorem s_X_lay_80 {x : Nat} : wps rm K Q c_X_lay_80 kc ks loc (.ref (x + 1) :: st) h = eg_gf h x 11 1 (fun v => wps rm K Q c_X_lay_83 kc ks loc (v :: st) h) := gk_gf
theorem s_X_lay_83 {x : Int32} {l0 l1 : Option Value} {l : eg_Lo} : wps rm K Q c_X_lay_83 kc ks (l0 :: l1 :: some (.int x) :: l) (st) h = wps rm K Q c_X_lay_84 kc ks (l0 :: l1 :: some (.int x) :: l) (.int x :: st) h := gk_iload rfl
theorem s_X_lay_84 {x : Nat} {i : Int32} : wps rm K Q c_X_lay_84 kc ks loc (.int i :: .ref (x + 1) :: st) h = eg_aa h x i (fun v => wps rm K Q c_X_lay_85 kc ks loc (v :: st) h) := gk_aaload
theorem s_X_lay_85  {a1 : Value} {a2 : Value} : wps rm K Q c_X_lay_85 kc ks loc (a2 :: a1 :: st) h = (st.length ≤ 4 ∧ eg_Cs n_X_layPoints [a1, a2] h (fun v h9 => wps rm K Q c_X_lay_88 kc ks loc (v.toList ++ st) h9)) := eg_c0_2
theorem s_X_lay_88 {x : Int32} : wps rm K Q c_X_lay_88 kc ks loc (.int x :: st) h = wps rm K Q c_X_lay_89 kc ks loc (.long (x.toInt64) :: st) h := gk_i2l
theorem s_X_lay_89 {x : Int64} : wps rm K Q c_X_lay_89 kc ks loc ([.long x]) h = (kc = rm.cells ∧ Q (some (.long x)) h) := gk_lret
def T_X_lay : List (Nat × List eg_I) := [(14, c_X_lay_14), (22, c_X_lay_22), (42, c_X_lay_42), (73, c_X_lay_73)]
theorem j_X_lay_14 {R : Nat → Nat → Nat → eg_Lo → List Value → List eg_E → Prop} {f pc0 : Nat} : eg_run rm R Q T_X_lay (f + 1) 14 kc ks loc st h = wps rm (eg_run rm R Q T_X_lay f) Q c_X_lay_14 kc ks loc st h := rfl
theorem j_X_lay_22 {R : Nat → Nat → Nat → eg_Lo → List Value → List eg_E → Prop} {f pc0 : Nat} : eg_run rm R Q T_X_lay (f + 1) 22 kc ks loc st h = wps rm (eg_run rm R Q T_X_lay f) Q c_X_lay_22 kc ks loc st h := rfl
theorem j_X_lay_42 {R : Nat → Nat → Nat → eg_Lo → List Value → List eg_E → Prop} {f pc0 : Nat} : eg_run rm R Q T_X_lay (f + 1) 42 kc ks loc st h = wps rm (eg_run rm R Q T_X_lay f) Q c_X_lay_42 kc ks loc st h := rfl
theorem j_X_lay_73 {R : Nat → Nat → Nat → eg_Lo → List Value → List eg_E → Prop} {f pc0 : Nat} : eg_run rm R Q T_X_lay (f + 1) 73 kc ks loc st h = wps rm (eg_run rm R Q T_X_lay f) Q c_X_lay_73 kc ks loc st h := rfl
end
theorem y_X_lay_0 : eg_seq m_X_lay 0 c_X_lay_0 = true := by decide +kernel
theorem y_X_lay_22 : eg_seq m_X_lay 22 c_X_lay_22 = true := by decide +kernel
theorem y_X_lay_42 : eg_seq m_X_lay 42 c_X_lay_42 = true := by decide +kernel
theorem y_X_lay_73 : eg_seq m_X_lay 73 c_X_lay_73 = true := by decide +kernel
theorem q_X_lay : ∀ q ∈ T_X_lay, eg_seq m_X_lay q.1 q.2 = true := by
  intro q hq
  simp only [T_X_lay, List.mem_cons, List.not_mem_nil, or_false] at hq
  rcases hq with rfl | rfl | rfl | rfl
  · exact (eg_seq_drop y_X_lay_0 6 : eg_seq m_X_lay 14 c_X_lay_14 = true)
  · exact y_X_lay_22
  · exact y_X_lay_42
  · exact y_X_lay_73
theorem b_X_lay {as : List Value} {h : List eg_E} {Q : Option Value → List eg_E → Prop} (hf : (eg_fl as).length ≤ 3) (hw : wps (eg_rm m_X_lay) (eg_run (eg_rm m_X_lay) (eg_R m_X_lay Q (h.length + 0)) Q T_X_lay 6) Q c_X_lay_0 0 0 (eg_entry 3 as) [] h) : eg_Runs n_X_lay as h Q := eg_begin2 (d := m_X_lay) rfl (by decide) y_X_lay_0 q_X_lay hf hw
/-! ===== X_fit ===== -/
def c_X_fit_135 : List eg_I := .inl (135, 1, .lreturn, 0, 0) :: []
def c_X_fit_134 : List eg_I := .inl (134, 1, .i2l, 0, 0) :: c_X_fit_135
def c_X_fit_131 : List eg_I := .inl (131, 3, .getfield 215, 2, 6) :: c_X_fit_134
def c_X_fit_130 : List eg_I := .inl (130, 1, .aaload, 0, 0) :: c_X_fit_131
def c_X_fit_129 : List eg_I := .inl (129, 1, .iload 1, 0, 0) :: c_X_fit_130
def c_X_fit_126 : List eg_I := .inl (126, 3, .getfield 23, 11, 2) :: c_X_fit_129
def c_X_fit_125 : List eg_I := .inl (125, 1, .aload 0, 0, 0) :: c_X_fit_126
def c_X_fit_124 : List eg_I := .inl (124, 1, .lreturn, 0, 0) :: []
def c_X_fit_121 : List eg_I := .inr (121, 1, 86, n_X_found, 1, 11, 0, 0) :: c_X_fit_124
def c_X_fit_118 : List eg_I := .inl (118, 3, .sipush (-1000000000000000006), 158, 0) :: c_X_fit_121
def c_X_fit_117 : List eg_I := .inl (117, 1, .aload 0, 0, 0) :: c_X_fit_118
def c_X_fit_114 : List eg_I := .inl (114, 3, .ifCond .ne (11), 125, 0) :: c_X_fit_117
def c_X_fit_112 : List eg_I := .inl (112, 2, .iload 4, 0, 0) :: c_X_fit_114
def c_X_fit_110 : List eg_I := .inl (110, 2, .istore 4, 0, 0) :: c_X_fit_112
def c_X_fit_107 : List eg_I := .inr (107, 1, 212, n_Circ_fitCircle, 2, 1, 0, 0) :: c_X_fit_110
def c_X_fit_106 : List eg_I := .inl (106, 1, .aaload, 0, 0) :: c_X_fit_107
def c_X_fit_105 : List eg_I := .inl (105, 1, .iload 1, 0, 0) :: c_X_fit_106
def c_X_fit_102 : List eg_I := .inl (102, 3, .getfield 23, 11, 2) :: c_X_fit_105
def c_X_fit_101 : List eg_I := .inl (101, 1, .aload 0, 0, 0) :: c_X_fit_102
def c_X_fit_100 : List eg_I := .inl (100, 1, .aaload, 0, 0) :: c_X_fit_101
def c_X_fit_99 : List eg_I := .inl (99, 1, .iload 3, 0, 0) :: c_X_fit_100
def c_X_fit_96 : List eg_I := .inl (96, 3, .getfield 11, 11, 0) :: c_X_fit_99
def c_X_fit_95 : List eg_I := .inl (95, 1, .aload 0, 0, 0) :: c_X_fit_96
def c_X_fit_92 : List eg_I := .inl (92, 3, .getfield 44, 11, 5) :: c_X_fit_95
def c_X_fit_91 : List eg_I := .inl (91, 1, .aload 0, 0, 0) :: c_X_fit_92
def c_X_fit_88 : List eg_I := .inl (88, 3, .goto (22), 110, 0) :: []
def c_X_fit_85 : List eg_I := .inr (85, 1, 209, n_Flat_fitPlane, 2, 3, 0, 0) :: c_X_fit_88
def c_X_fit_84 : List eg_I := .inl (84, 1, .aaload, 0, 0) :: c_X_fit_85
def c_X_fit_83 : List eg_I := .inl (83, 1, .iload 1, 0, 0) :: c_X_fit_84
def c_X_fit_80 : List eg_I := .inl (80, 3, .getfield 23, 11, 2) :: c_X_fit_83
def c_X_fit_79 : List eg_I := .inl (79, 1, .aload 0, 0, 0) :: c_X_fit_80
def c_X_fit_78 : List eg_I := .inl (78, 1, .aaload, 0, 0) :: c_X_fit_79
def c_X_fit_77 : List eg_I := .inl (77, 1, .iload 3, 0, 0) :: c_X_fit_78
def c_X_fit_74 : List eg_I := .inl (74, 3, .getfield 11, 11, 0) :: c_X_fit_77
def c_X_fit_73 : List eg_I := .inl (73, 1, .aload 0, 0, 0) :: c_X_fit_74
def c_X_fit_70 : List eg_I := .inl (70, 3, .getfield 37, 11, 4) :: c_X_fit_73
def c_X_fit_69 : List eg_I := .inl (69, 1, .aload 0, 0, 0) :: c_X_fit_70
def c_X_fit_66 : List eg_I := .inl (66, 3, .if_icmp .ne (25), 91, 0) :: c_X_fit_69
def c_X_fit_65 : List eg_I := .inl (65, 1, .iconst (3), 0, 0) :: c_X_fit_66
def c_X_fit_64 : List eg_I := .inl (64, 1, .iload 2, 0, 0) :: c_X_fit_65
def c_X_fit_61 : List eg_I := .inl (61, 3, .goto (49), 110, 0) :: []
def c_X_fit_58 : List eg_I := .inr (58, 1, 205, n_Flat_fitLine, 2, 3, 0, 0) :: c_X_fit_61
def c_X_fit_57 : List eg_I := .inl (57, 1, .aaload, 0, 0) :: c_X_fit_58
def c_X_fit_56 : List eg_I := .inl (56, 1, .iload 1, 0, 0) :: c_X_fit_57
def c_X_fit_53 : List eg_I := .inl (53, 3, .getfield 23, 11, 2) :: c_X_fit_56
def c_X_fit_52 : List eg_I := .inl (52, 1, .aload 0, 0, 0) :: c_X_fit_53
def c_X_fit_51 : List eg_I := .inl (51, 1, .aaload, 0, 0) :: c_X_fit_52
def c_X_fit_50 : List eg_I := .inl (50, 1, .iload 3, 0, 0) :: c_X_fit_51
def c_X_fit_47 : List eg_I := .inl (47, 3, .getfield 11, 11, 0) :: c_X_fit_50
def c_X_fit_46 : List eg_I := .inl (46, 1, .aload 0, 0, 0) :: c_X_fit_47
def c_X_fit_43 : List eg_I := .inl (43, 3, .getfield 37, 11, 4) :: c_X_fit_46
def c_X_fit_42 : List eg_I := .inl (42, 1, .aload 0, 0, 0) :: c_X_fit_43
def c_X_fit_39 : List eg_I := .inl (39, 3, .if_icmp .ne (25), 64, 0) :: c_X_fit_42
def c_X_fit_38 : List eg_I := .inl (38, 1, .iconst (2), 0, 0) :: c_X_fit_39
def c_X_fit_37 : List eg_I := .inl (37, 1, .iload 2, 0, 0) :: c_X_fit_38
def c_X_fit_36 : List eg_I := .inl (36, 1, .lreturn, 0, 0) :: []
def c_X_fit_33 : List eg_I := .inr (33, 1, 86, n_X_found, 1, 11, 0, 0) :: c_X_fit_36
def c_X_fit_30 : List eg_I := .inl (30, 3, .sipush (-1000000000000000001), 84, 0) :: c_X_fit_33
def c_X_fit_29 : List eg_I := .inl (29, 1, .aload 0, 0, 0) :: c_X_fit_30
def c_X_fit_26 : List eg_I := .inl (26, 3, .if_icmp .eq (11), 37, 0) :: c_X_fit_29
def c_X_fit_25 : List eg_I := .inl (25, 1, .iconst (5), 0, 0) :: c_X_fit_26
def c_X_fit_24 : List eg_I := .inl (24, 1, .iload 2, 0, 0) :: c_X_fit_25
def c_X_fit_21 : List eg_I := .inl (21, 3, .if_icmp .eq (16), 37, 0) :: c_X_fit_24
def c_X_fit_20 : List eg_I := .inl (20, 1, .iconst (3), 0, 0) :: c_X_fit_21
def c_X_fit_19 : List eg_I := .inl (19, 1, .iload 2, 0, 0) :: c_X_fit_20
def c_X_fit_16 : List eg_I := .inl (16, 3, .if_icmp .eq (21), 37, 0) :: c_X_fit_19
def c_X_fit_15 : List eg_I := .inl (15, 1, .iconst (2), 0, 0) :: c_X_fit_16
def c_X_fit_14 : List eg_I := .inl (14, 1, .iload 2, 0, 0) :: c_X_fit_15
def c_X_fit_11 : List eg_I := .inl (11, 3, .ifCond .eq (18), 29, 0) :: c_X_fit_14
def c_X_fit_8 : List eg_I := .inr (8, 0, 72, n_X_isPart, 1, 11, 0, 0) :: c_X_fit_11
def c_X_fit_7 : List eg_I := .inl (7, 1, .iload 3, 0, 0) :: c_X_fit_8
def c_X_fit_4 : List eg_I := .inl (4, 3, .ifCond .eq (25), 29, 0) :: c_X_fit_7
def c_X_fit_1 : List eg_I := .inr (1, 0, 202, n_X_isFigure, 1, 11, 0, 0) :: c_X_fit_4
def c_X_fit_0 : List eg_I := .inl (0, 1, .iload 1, 0, 0) :: c_X_fit_1
section
variable {rm : Room} {K : Nat → Nat → Nat → eg_Lo → List Value → List eg_E → Prop} {Q : Option Value → List eg_E → Prop} {kc ks : Nat} {loc : eg_Lo} {st : List Value} {h : List eg_E}
theorem s_X_fit_0 {x : Int32} {l0 : Option Value} {l : eg_Lo} : wps rm K Q c_X_fit_0 kc ks (l0 :: some (.int x) :: l) (st) h = wps rm K Q c_X_fit_1 kc ks (l0 :: some (.int x) :: l) (.int x :: st) h := gk_iload rfl
theorem s_X_fit_1  {a1 : Value} : wps rm K Q c_X_fit_1 kc ks loc (a1 :: st) h = (st.length ≤ 4 ∧ eg_Cs n_X_isFigure [a1] h (fun v h9 => wps rm K Q c_X_fit_4 kc ks loc (v.toList ++ st) h9)) := eg_c0_1
theorem s_X_fit_4 {x : Int32} : wps rm K Q c_X_fit_4 kc ks loc (.int x :: st) h = ((x = 0 → K 29 kc ks loc st h) ∧ (¬ x = 0 → wps rm K Q c_X_fit_7 kc ks loc (st) h)) := gk_if1_eq
theorem s_X_fit_7 {x : Int32} {l0 l1 l2 : Option Value} {l : eg_Lo} : wps rm K Q c_X_fit_7 kc ks (l0 :: l1 :: l2 :: some (.int x) :: l) (st) h = wps rm K Q c_X_fit_8 kc ks (l0 :: l1 :: l2 :: some (.int x) :: l) (.int x :: st) h := gk_iload rfl
theorem s_X_fit_8  {a1 : Value} : wps rm K Q c_X_fit_8 kc ks loc (a1 :: st) h = (st.length ≤ 4 ∧ eg_Cs n_X_isPart [a1] h (fun v h9 => wps rm K Q c_X_fit_11 kc ks loc (v.toList ++ st) h9)) := eg_c0_1
theorem s_X_fit_11 {x : Int32} : wps rm K Q c_X_fit_11 kc ks loc (.int x :: st) h = ((x = 0 → K 29 kc ks loc st h) ∧ (¬ x = 0 → wps rm K Q c_X_fit_14 kc ks loc (st) h)) := gk_if1_eq
theorem s_X_fit_14 {x : Int32} {l0 l1 : Option Value} {l : eg_Lo} : wps rm K Q c_X_fit_14 kc ks (l0 :: l1 :: some (.int x) :: l) (st) h = wps rm K Q c_X_fit_15 kc ks (l0 :: l1 :: some (.int x) :: l) (.int x :: st) h := gk_iload rfl
theorem s_X_fit_15  : wps rm K Q c_X_fit_15 kc ks loc (st) h = wps rm K Q c_X_fit_16 kc ks loc (.int (2) :: st) h := gk_ic (by decide)
theorem s_X_fit_16 {x y : Int32} : wps rm K Q c_X_fit_16 kc ks loc (.int y :: .int x :: st) h = ((x = y → K 37 kc ks loc st h) ∧ (¬ x = y → wps rm K Q c_X_fit_19 kc ks loc (st) h)) := gk_if2_eq
theorem s_X_fit_19 {x : Int32} {l0 l1 : Option Value} {l : eg_Lo} : wps rm K Q c_X_fit_19 kc ks (l0 :: l1 :: some (.int x) :: l) (st) h = wps rm K Q c_X_fit_20 kc ks (l0 :: l1 :: some (.int x) :: l) (.int x :: st) h := gk_iload rfl
theorem s_X_fit_20  : wps rm K Q c_X_fit_20 kc ks loc (st) h = wps rm K Q c_X_fit_21 kc ks loc (.int (3) :: st) h := gk_ic (by decide)
theorem s_X_fit_21 {x y : Int32} : wps rm K Q c_X_fit_21 kc ks loc (.int y :: .int x :: st) h = ((x = y → K 37 kc ks loc st h) ∧ (¬ x = y → wps rm K Q c_X_fit_24 kc ks loc (st) h)) := gk_if2_eq
theorem s_X_fit_24 {x : Int32} {l0 l1 : Option Value} {l : eg_Lo} : wps rm K Q c_X_fit_24 kc ks (l0 :: l1 :: some (.int x) :: l) (st) h = wps rm K Q c_X_fit_25 kc ks (l0 :: l1 :: some (.int x) :: l) (.int x :: st) h := gk_iload rfl
theorem s_X_fit_25  : wps rm K Q c_X_fit_25 kc ks loc (st) h = wps rm K Q c_X_fit_26 kc ks loc (.int (5) :: st) h := gk_ic (by decide)
theorem s_X_fit_26 {x y : Int32} : wps rm K Q c_X_fit_26 kc ks loc (.int y :: .int x :: st) h = ((x = y → K 37 kc ks loc st h) ∧ (¬ x = y → wps rm K Q c_X_fit_29 kc ks loc (st) h)) := gk_if2_eq
theorem s_X_fit_29 {x : Nat} {l : eg_Lo} : wps rm K Q c_X_fit_29 kc ks (some (.ref x) :: l) (st) h = wps rm K Q c_X_fit_30 kc ks (some (.ref x) :: l) (.ref x :: st) h := gk_aload rfl
theorem s_X_fit_30  : wps rm K Q c_X_fit_30 kc ks loc (st) h = wps rm K Q c_X_fit_33 kc ks loc (.long (-1000000000000000001) :: st) h := gk_lc (by decide)
theorem s_X_fit_33  {a1 : Value} {x : Nat} : wps rm K Q c_X_fit_33 kc ks loc (a1 :: .ref (x + 1) :: st) h = (eg_cls h x 11 ∧ st.length ≤ 4 ∧ eg_Cs n_X_found (.ref (x + 1) :: [a1]) h (fun v h9 => wps rm K Q c_X_fit_36 kc ks loc (v.toList ++ st) h9)) := eg_c1_1
theorem s_X_fit_36 {x : Int64} : wps rm K Q c_X_fit_36 kc ks loc ([.long x]) h = (kc = rm.cells ∧ Q (some (.long x)) h) := gk_lret
theorem s_X_fit_37 {x : Int32} {l0 l1 : Option Value} {l : eg_Lo} : wps rm K Q c_X_fit_37 kc ks (l0 :: l1 :: some (.int x) :: l) (st) h = wps rm K Q c_X_fit_38 kc ks (l0 :: l1 :: some (.int x) :: l) (.int x :: st) h := gk_iload rfl
theorem s_X_fit_38  : wps rm K Q c_X_fit_38 kc ks loc (st) h = wps rm K Q c_X_fit_39 kc ks loc (.int (2) :: st) h := gk_ic (by decide)
theorem s_X_fit_39 {x y : Int32} : wps rm K Q c_X_fit_39 kc ks loc (.int y :: .int x :: st) h = ((¬ x = y → K 64 kc ks loc st h) ∧ (x = y → wps rm K Q c_X_fit_42 kc ks loc (st) h)) := gk_if2_ne
theorem s_X_fit_42 {x : Nat} {l : eg_Lo} : wps rm K Q c_X_fit_42 kc ks (some (.ref x) :: l) (st) h = wps rm K Q c_X_fit_43 kc ks (some (.ref x) :: l) (.ref x :: st) h := gk_aload rfl
theorem s_X_fit_43 {x : Nat} : wps rm K Q c_X_fit_43 kc ks loc (.ref (x + 1) :: st) h = eg_gf h x 11 4 (fun v => wps rm K Q c_X_fit_46 kc ks loc (v :: st) h) := gk_gf
theorem s_X_fit_46 {x : Nat} {l : eg_Lo} : wps rm K Q c_X_fit_46 kc ks (some (.ref x) :: l) (st) h = wps rm K Q c_X_fit_47 kc ks (some (.ref x) :: l) (.ref x :: st) h := gk_aload rfl
theorem s_X_fit_47 {x : Nat} : wps rm K Q c_X_fit_47 kc ks loc (.ref (x + 1) :: st) h = eg_gf h x 11 0 (fun v => wps rm K Q c_X_fit_50 kc ks loc (v :: st) h) := gk_gf
theorem s_X_fit_50 {x : Int32} {l0 l1 l2 : Option Value} {l : eg_Lo} : wps rm K Q c_X_fit_50 kc ks (l0 :: l1 :: l2 :: some (.int x) :: l) (st) h = wps rm K Q c_X_fit_51 kc ks (l0 :: l1 :: l2 :: some (.int x) :: l) (.int x :: st) h := gk_iload rfl
theorem s_X_fit_51 {x : Nat} {i : Int32} : wps rm K Q c_X_fit_51 kc ks loc (.int i :: .ref (x + 1) :: st) h = eg_aa h x i (fun v => wps rm K Q c_X_fit_52 kc ks loc (v :: st) h) := gk_aaload
theorem s_X_fit_52 {x : Nat} {l : eg_Lo} : wps rm K Q c_X_fit_52 kc ks (some (.ref x) :: l) (st) h = wps rm K Q c_X_fit_53 kc ks (some (.ref x) :: l) (.ref x :: st) h := gk_aload rfl
theorem s_X_fit_53 {x : Nat} : wps rm K Q c_X_fit_53 kc ks loc (.ref (x + 1) :: st) h = eg_gf h x 11 2 (fun v => wps rm K Q c_X_fit_56 kc ks loc (v :: st) h) := gk_gf
theorem s_X_fit_56 {x : Int32} {l0 : Option Value} {l : eg_Lo} : wps rm K Q c_X_fit_56 kc ks (l0 :: some (.int x) :: l) (st) h = wps rm K Q c_X_fit_57 kc ks (l0 :: some (.int x) :: l) (.int x :: st) h := gk_iload rfl
theorem s_X_fit_57 {x : Nat} {i : Int32} : wps rm K Q c_X_fit_57 kc ks loc (.int i :: .ref (x + 1) :: st) h = eg_aa h x i (fun v => wps rm K Q c_X_fit_58 kc ks loc (v :: st) h) := gk_aaload
theorem s_X_fit_58  {a1 : Value} {a2 : Value} {x : Nat} : wps rm K Q c_X_fit_58 kc ks loc (a2 :: a1 :: .ref (x + 1) :: st) h = (eg_cls h x 3 ∧ st.length ≤ 4 ∧ eg_Cs n_Flat_fitLine (.ref (x + 1) :: [a1, a2]) h (fun v h9 => wps rm K Q c_X_fit_61 kc ks loc (v.toList ++ st) h9)) := eg_c1_2
theorem s_X_fit_61  : wps rm K Q c_X_fit_61 kc ks loc (st) h = K 110 kc ks loc st h := gk_goto
theorem s_X_fit_64 {x : Int32} {l0 l1 : Option Value} {l : eg_Lo} : wps rm K Q c_X_fit_64 kc ks (l0 :: l1 :: some (.int x) :: l) (st) h = wps rm K Q c_X_fit_65 kc ks (l0 :: l1 :: some (.int x) :: l) (.int x :: st) h := gk_iload rfl
theorem s_X_fit_65  : wps rm K Q c_X_fit_65 kc ks loc (st) h = wps rm K Q c_X_fit_66 kc ks loc (.int (3) :: st) h := gk_ic (by decide)
theorem s_X_fit_66 {x y : Int32} : wps rm K Q c_X_fit_66 kc ks loc (.int y :: .int x :: st) h = ((¬ x = y → K 91 kc ks loc st h) ∧ (x = y → wps rm K Q c_X_fit_69 kc ks loc (st) h)) := gk_if2_ne
theorem s_X_fit_69 {x : Nat} {l : eg_Lo} : wps rm K Q c_X_fit_69 kc ks (some (.ref x) :: l) (st) h = wps rm K Q c_X_fit_70 kc ks (some (.ref x) :: l) (.ref x :: st) h := gk_aload rfl
theorem s_X_fit_70 {x : Nat} : wps rm K Q c_X_fit_70 kc ks loc (.ref (x + 1) :: st) h = eg_gf h x 11 4 (fun v => wps rm K Q c_X_fit_73 kc ks loc (v :: st) h) := gk_gf
theorem s_X_fit_73 {x : Nat} {l : eg_Lo} : wps rm K Q c_X_fit_73 kc ks (some (.ref x) :: l) (st) h = wps rm K Q c_X_fit_74 kc ks (some (.ref x) :: l) (.ref x :: st) h := gk_aload rfl
theorem s_X_fit_74 {x : Nat} : wps rm K Q c_X_fit_74 kc ks loc (.ref (x + 1) :: st) h = eg_gf h x 11 0 (fun v => wps rm K Q c_X_fit_77 kc ks loc (v :: st) h) := gk_gf
theorem s_X_fit_77 {x : Int32} {l0 l1 l2 : Option Value} {l : eg_Lo} : wps rm K Q c_X_fit_77 kc ks (l0 :: l1 :: l2 :: some (.int x) :: l) (st) h = wps rm K Q c_X_fit_78 kc ks (l0 :: l1 :: l2 :: some (.int x) :: l) (.int x :: st) h := gk_iload rfl
theorem s_X_fit_78 {x : Nat} {i : Int32} : wps rm K Q c_X_fit_78 kc ks loc (.int i :: .ref (x + 1) :: st) h = eg_aa h x i (fun v => wps rm K Q c_X_fit_79 kc ks loc (v :: st) h) := gk_aaload
theorem s_X_fit_79 {x : Nat} {l : eg_Lo} : wps rm K Q c_X_fit_79 kc ks (some (.ref x) :: l) (st) h = wps rm K Q c_X_fit_80 kc ks (some (.ref x) :: l) (.ref x :: st) h := gk_aload rfl
theorem s_X_fit_80 {x : Nat} : wps rm K Q c_X_fit_80 kc ks loc (.ref (x + 1) :: st) h = eg_gf h x 11 2 (fun v => wps rm K Q c_X_fit_83 kc ks loc (v :: st) h) := gk_gf
theorem s_X_fit_83 {x : Int32} {l0 : Option Value} {l : eg_Lo} : wps rm K Q c_X_fit_83 kc ks (l0 :: some (.int x) :: l) (st) h = wps rm K Q c_X_fit_84 kc ks (l0 :: some (.int x) :: l) (.int x :: st) h := gk_iload rfl
theorem s_X_fit_84 {x : Nat} {i : Int32} : wps rm K Q c_X_fit_84 kc ks loc (.int i :: .ref (x + 1) :: st) h = eg_aa h x i (fun v => wps rm K Q c_X_fit_85 kc ks loc (v :: st) h) := gk_aaload
theorem s_X_fit_85  {a1 : Value} {a2 : Value} {x : Nat} : wps rm K Q c_X_fit_85 kc ks loc (a2 :: a1 :: .ref (x + 1) :: st) h = (eg_cls h x 3 ∧ st.length ≤ 4 ∧ eg_Cs n_Flat_fitPlane (.ref (x + 1) :: [a1, a2]) h (fun v h9 => wps rm K Q c_X_fit_88 kc ks loc (v.toList ++ st) h9)) := eg_c1_2
theorem s_X_fit_88  : wps rm K Q c_X_fit_88 kc ks loc (st) h = K 110 kc ks loc st h := gk_goto
theorem s_X_fit_91 {x : Nat} {l : eg_Lo} : wps rm K Q c_X_fit_91 kc ks (some (.ref x) :: l) (st) h = wps rm K Q c_X_fit_92 kc ks (some (.ref x) :: l) (.ref x :: st) h := gk_aload rfl
theorem s_X_fit_92 {x : Nat} : wps rm K Q c_X_fit_92 kc ks loc (.ref (x + 1) :: st) h = eg_gf h x 11 5 (fun v => wps rm K Q c_X_fit_95 kc ks loc (v :: st) h) := gk_gf
theorem s_X_fit_95 {x : Nat} {l : eg_Lo} : wps rm K Q c_X_fit_95 kc ks (some (.ref x) :: l) (st) h = wps rm K Q c_X_fit_96 kc ks (some (.ref x) :: l) (.ref x :: st) h := gk_aload rfl
theorem s_X_fit_96 {x : Nat} : wps rm K Q c_X_fit_96 kc ks loc (.ref (x + 1) :: st) h = eg_gf h x 11 0 (fun v => wps rm K Q c_X_fit_99 kc ks loc (v :: st) h) := gk_gf
theorem s_X_fit_99 {x : Int32} {l0 l1 l2 : Option Value} {l : eg_Lo} : wps rm K Q c_X_fit_99 kc ks (l0 :: l1 :: l2 :: some (.int x) :: l) (st) h = wps rm K Q c_X_fit_100 kc ks (l0 :: l1 :: l2 :: some (.int x) :: l) (.int x :: st) h := gk_iload rfl
theorem s_X_fit_100 {x : Nat} {i : Int32} : wps rm K Q c_X_fit_100 kc ks loc (.int i :: .ref (x + 1) :: st) h = eg_aa h x i (fun v => wps rm K Q c_X_fit_101 kc ks loc (v :: st) h) := gk_aaload
theorem s_X_fit_101 {x : Nat} {l : eg_Lo} : wps rm K Q c_X_fit_101 kc ks (some (.ref x) :: l) (st) h = wps rm K Q c_X_fit_102 kc ks (some (.ref x) :: l) (.ref x :: st) h := gk_aload rfl
theorem s_X_fit_102 {x : Nat} : wps rm K Q c_X_fit_102 kc ks loc (.ref (x + 1) :: st) h = eg_gf h x 11 2 (fun v => wps rm K Q c_X_fit_105 kc ks loc (v :: st) h) := gk_gf
theorem s_X_fit_105 {x : Int32} {l0 : Option Value} {l : eg_Lo} : wps rm K Q c_X_fit_105 kc ks (l0 :: some (.int x) :: l) (st) h = wps rm K Q c_X_fit_106 kc ks (l0 :: some (.int x) :: l) (.int x :: st) h := gk_iload rfl
theorem s_X_fit_106 {x : Nat} {i : Int32} : wps rm K Q c_X_fit_106 kc ks loc (.int i :: .ref (x + 1) :: st) h = eg_aa h x i (fun v => wps rm K Q c_X_fit_107 kc ks loc (v :: st) h) := gk_aaload
theorem s_X_fit_107  {a1 : Value} {a2 : Value} {x : Nat} : wps rm K Q c_X_fit_107 kc ks loc (a2 :: a1 :: .ref (x + 1) :: st) h = (eg_cls h x 1 ∧ st.length ≤ 4 ∧ eg_Cs n_Circ_fitCircle (.ref (x + 1) :: [a1, a2]) h (fun v h9 => wps rm K Q c_X_fit_110 kc ks loc (v.toList ++ st) h9)) := eg_c1_2
theorem s_X_fit_110 {x : Int32} : wps rm K Q c_X_fit_110 kc ks loc (.int x :: st) h = wps rm K Q c_X_fit_112 kc ks (eg_set1 loc 4 (.int x)) (st) h := gk_istore
theorem s_X_fit_112 {x : Int32} {l0 l1 l2 l3 : Option Value} {l : eg_Lo} : wps rm K Q c_X_fit_112 kc ks (l0 :: l1 :: l2 :: l3 :: some (.int x) :: l) (st) h = wps rm K Q c_X_fit_114 kc ks (l0 :: l1 :: l2 :: l3 :: some (.int x) :: l) (.int x :: st) h := gk_iload rfl
theorem s_X_fit_114 {x : Int32} : wps rm K Q c_X_fit_114 kc ks loc (.int x :: st) h = ((¬ x = 0 → K 125 kc ks loc st h) ∧ (x = 0 → wps rm K Q c_X_fit_117 kc ks loc (st) h)) := gk_if1_ne
theorem s_X_fit_117 {x : Nat} {l : eg_Lo} : wps rm K Q c_X_fit_117 kc ks (some (.ref x) :: l) (st) h = wps rm K Q c_X_fit_118 kc ks (some (.ref x) :: l) (.ref x :: st) h := gk_aload rfl
theorem s_X_fit_118  : wps rm K Q c_X_fit_118 kc ks loc (st) h = wps rm K Q c_X_fit_121 kc ks loc (.long (-1000000000000000006) :: st) h := gk_lc (by decide)
theorem s_X_fit_121  {a1 : Value} {x : Nat} : wps rm K Q c_X_fit_121 kc ks loc (a1 :: .ref (x + 1) :: st) h = (eg_cls h x 11 ∧ st.length ≤ 4 ∧ eg_Cs n_X_found (.ref (x + 1) :: [a1]) h (fun v h9 => wps rm K Q c_X_fit_124 kc ks loc (v.toList ++ st) h9)) := eg_c1_1
theorem s_X_fit_124 {x : Int64} : wps rm K Q c_X_fit_124 kc ks loc ([.long x]) h = (kc = rm.cells ∧ Q (some (.long x)) h) := gk_lret
theorem s_X_fit_125 {x : Nat} {l : eg_Lo} : wps rm K Q c_X_fit_125 kc ks (some (.ref x) :: l) (st) h = wps rm K Q c_X_fit_126 kc ks (some (.ref x) :: l) (.ref x :: st) h := gk_aload rfl
theorem s_X_fit_126 {x : Nat} : wps rm K Q c_X_fit_126 kc ks loc (.ref (x + 1) :: st) h = eg_gf h x 11 2 (fun v => wps rm K Q c_X_fit_129 kc ks loc (v :: st) h) := gk_gf
theorem s_X_fit_129 {x : Int32} {l0 : Option Value} {l : eg_Lo} : wps rm K Q c_X_fit_129 kc ks (l0 :: some (.int x) :: l) (st) h = wps rm K Q c_X_fit_130 kc ks (l0 :: some (.int x) :: l) (.int x :: st) h := gk_iload rfl
theorem s_X_fit_130 {x : Nat} {i : Int32} : wps rm K Q c_X_fit_130 kc ks loc (.int i :: .ref (x + 1) :: st) h = eg_aa h x i (fun v => wps rm K Q c_X_fit_131 kc ks loc (v :: st) h) := gk_aaload
theorem s_X_fit_131 {x : Nat} : wps rm K Q c_X_fit_131 kc ks loc (.ref (x + 1) :: st) h = eg_gf h x 2 6 (fun v => wps rm K Q c_X_fit_134 kc ks loc (v :: st) h) := gk_gf
theorem s_X_fit_134 {x : Int32} : wps rm K Q c_X_fit_134 kc ks loc (.int x :: st) h = wps rm K Q c_X_fit_135 kc ks loc (.long (x.toInt64) :: st) h := gk_i2l
theorem s_X_fit_135 {x : Int64} : wps rm K Q c_X_fit_135 kc ks loc ([.long x]) h = (kc = rm.cells ∧ Q (some (.long x)) h) := gk_lret
def T_X_fit : List (Nat × List eg_I) := [(29, c_X_fit_29), (37, c_X_fit_37), (64, c_X_fit_64), (91, c_X_fit_91), (110, c_X_fit_110), (125, c_X_fit_125)]
theorem j_X_fit_29 {R : Nat → Nat → Nat → eg_Lo → List Value → List eg_E → Prop} {f pc0 : Nat} : eg_run rm R Q T_X_fit (f + 1) 29 kc ks loc st h = wps rm (eg_run rm R Q T_X_fit f) Q c_X_fit_29 kc ks loc st h := rfl
theorem j_X_fit_37 {R : Nat → Nat → Nat → eg_Lo → List Value → List eg_E → Prop} {f pc0 : Nat} : eg_run rm R Q T_X_fit (f + 1) 37 kc ks loc st h = wps rm (eg_run rm R Q T_X_fit f) Q c_X_fit_37 kc ks loc st h := rfl
theorem j_X_fit_64 {R : Nat → Nat → Nat → eg_Lo → List Value → List eg_E → Prop} {f pc0 : Nat} : eg_run rm R Q T_X_fit (f + 1) 64 kc ks loc st h = wps rm (eg_run rm R Q T_X_fit f) Q c_X_fit_64 kc ks loc st h := rfl
theorem j_X_fit_91 {R : Nat → Nat → Nat → eg_Lo → List Value → List eg_E → Prop} {f pc0 : Nat} : eg_run rm R Q T_X_fit (f + 1) 91 kc ks loc st h = wps rm (eg_run rm R Q T_X_fit f) Q c_X_fit_91 kc ks loc st h := rfl
theorem j_X_fit_110 {R : Nat → Nat → Nat → eg_Lo → List Value → List eg_E → Prop} {f pc0 : Nat} : eg_run rm R Q T_X_fit (f + 1) 110 kc ks loc st h = wps rm (eg_run rm R Q T_X_fit f) Q c_X_fit_110 kc ks loc st h := rfl
theorem j_X_fit_125 {R : Nat → Nat → Nat → eg_Lo → List Value → List eg_E → Prop} {f pc0 : Nat} : eg_run rm R Q T_X_fit (f + 1) 125 kc ks loc st h = wps rm (eg_run rm R Q T_X_fit f) Q c_X_fit_125 kc ks loc st h := rfl
end
theorem y_X_fit_0 : eg_seq m_X_fit 0 c_X_fit_0 = true := by decide +kernel
theorem y_X_fit_37 : eg_seq m_X_fit 37 c_X_fit_37 = true := by decide +kernel
theorem y_X_fit_64 : eg_seq m_X_fit 64 c_X_fit_64 = true := by decide +kernel
theorem y_X_fit_91 : eg_seq m_X_fit 91 c_X_fit_91 = true := by decide +kernel
theorem y_X_fit_125 : eg_seq m_X_fit 125 c_X_fit_125 = true := by decide +kernel
theorem q_X_fit : ∀ q ∈ T_X_fit, eg_seq m_X_fit q.1 q.2 = true := by
  intro q hq
  simp only [T_X_fit, List.mem_cons, List.not_mem_nil, or_false] at hq
  rcases hq with rfl | rfl | rfl | rfl | rfl | rfl
  · exact (eg_seq_drop y_X_fit_0 15 : eg_seq m_X_fit 29 c_X_fit_29 = true)
  · exact y_X_fit_37
  · exact y_X_fit_64
  · exact y_X_fit_91
  · exact (eg_seq_drop y_X_fit_91 11 : eg_seq m_X_fit 110 c_X_fit_110 = true)
  · exact y_X_fit_125
theorem b_X_fit {as : List Value} {h : List eg_E} {Q : Option Value → List eg_E → Prop} (hf : (eg_fl as).length ≤ 5) (hw : wps (eg_rm m_X_fit) (eg_run (eg_rm m_X_fit) (eg_R m_X_fit Q (h.length + 0)) Q T_X_fit 8) Q c_X_fit_0 0 0 (eg_entry 5 as) [] h) : eg_Runs n_X_fit as h Q := eg_begin2 (d := m_X_fit) rfl (by decide) y_X_fit_0 q_X_fit hf hw
/-! ===== X_drop ===== -/
def c_X_drop_44 : List eg_I := .inl (44, 1, .lreturn, 0, 0) :: []
def c_X_drop_43 : List eg_I := .inl (43, 1, .sipush (0), 0, 0) :: c_X_drop_44
def c_X_drop_40 : List eg_I := .inl (40, 3, .goto (4), 44, 0) :: []
def c_X_drop_39 : List eg_I := .inl (39, 1, .sipush (1), 0, 0) :: c_X_drop_40
def c_X_drop_36 : List eg_I := .inl (36, 3, .ifCond .eq (7), 43, 0) :: c_X_drop_39
def c_X_drop_35 : List eg_I := .inl (35, 1, .iload 2, 0, 0) :: c_X_drop_36
def c_X_drop_32 : List eg_I := .inl (32, 3, .putfield 221, 2, 5) :: c_X_drop_35
def c_X_drop_31 : List eg_I := .inl (31, 1, .iconst (-1), 0, 0) :: c_X_drop_32
def c_X_drop_30 : List eg_I := .inl (30, 1, .aaload, 0, 0) :: c_X_drop_31
def c_X_drop_29 : List eg_I := .inl (29, 1, .iload 1, 0, 0) :: c_X_drop_30
def c_X_drop_26 : List eg_I := .inl (26, 3, .getfield 23, 11, 2) :: c_X_drop_29
def c_X_drop_25 : List eg_I := .inl (25, 1, .aload 0, 0, 0) :: c_X_drop_26
def c_X_drop_24 : List eg_I := .inl (24, 1, .istore 2, 0, 0) :: c_X_drop_25
def c_X_drop_21 : List eg_I := .inr (21, 1, 218, n_Fig_isOne, 0, 2, 0, 0) :: c_X_drop_24
def c_X_drop_20 : List eg_I := .inl (20, 1, .aaload, 0, 0) :: c_X_drop_21
def c_X_drop_19 : List eg_I := .inl (19, 1, .iload 1, 0, 0) :: c_X_drop_20
def c_X_drop_16 : List eg_I := .inl (16, 3, .getfield 23, 11, 2) :: c_X_drop_19
def c_X_drop_15 : List eg_I := .inl (15, 1, .aload 0, 0, 0) :: c_X_drop_16
def c_X_drop_14 : List eg_I := .inl (14, 1, .lreturn, 0, 0) :: []
def c_X_drop_11 : List eg_I := .inr (11, 1, 86, n_X_found, 1, 11, 0, 0) :: c_X_drop_14
def c_X_drop_8 : List eg_I := .inl (8, 3, .sipush (-1000000000000000001), 84, 0) :: c_X_drop_11
def c_X_drop_7 : List eg_I := .inl (7, 1, .aload 0, 0, 0) :: c_X_drop_8
def c_X_drop_4 : List eg_I := .inl (4, 3, .ifCond .ne (11), 15, 0) :: c_X_drop_7
def c_X_drop_1 : List eg_I := .inr (1, 0, 202, n_X_isFigure, 1, 11, 0, 0) :: c_X_drop_4
def c_X_drop_0 : List eg_I := .inl (0, 1, .iload 1, 0, 0) :: c_X_drop_1
section
variable {rm : Room} {K : Nat → Nat → Nat → eg_Lo → List Value → List eg_E → Prop} {Q : Option Value → List eg_E → Prop} {kc ks : Nat} {loc : eg_Lo} {st : List Value} {h : List eg_E}
theorem s_X_drop_0 {x : Int32} {l0 : Option Value} {l : eg_Lo} : wps rm K Q c_X_drop_0 kc ks (l0 :: some (.int x) :: l) (st) h = wps rm K Q c_X_drop_1 kc ks (l0 :: some (.int x) :: l) (.int x :: st) h := gk_iload rfl
theorem s_X_drop_1  {a1 : Value} : wps rm K Q c_X_drop_1 kc ks loc (a1 :: st) h = (st.length ≤ 4 ∧ eg_Cs n_X_isFigure [a1] h (fun v h9 => wps rm K Q c_X_drop_4 kc ks loc (v.toList ++ st) h9)) := eg_c0_1
theorem s_X_drop_4 {x : Int32} : wps rm K Q c_X_drop_4 kc ks loc (.int x :: st) h = ((¬ x = 0 → K 15 kc ks loc st h) ∧ (x = 0 → wps rm K Q c_X_drop_7 kc ks loc (st) h)) := gk_if1_ne
theorem s_X_drop_7 {x : Nat} {l : eg_Lo} : wps rm K Q c_X_drop_7 kc ks (some (.ref x) :: l) (st) h = wps rm K Q c_X_drop_8 kc ks (some (.ref x) :: l) (.ref x :: st) h := gk_aload rfl
theorem s_X_drop_8  : wps rm K Q c_X_drop_8 kc ks loc (st) h = wps rm K Q c_X_drop_11 kc ks loc (.long (-1000000000000000001) :: st) h := gk_lc (by decide)
theorem s_X_drop_11  {a1 : Value} {x : Nat} : wps rm K Q c_X_drop_11 kc ks loc (a1 :: .ref (x + 1) :: st) h = (eg_cls h x 11 ∧ st.length ≤ 4 ∧ eg_Cs n_X_found (.ref (x + 1) :: [a1]) h (fun v h9 => wps rm K Q c_X_drop_14 kc ks loc (v.toList ++ st) h9)) := eg_c1_1
theorem s_X_drop_14 {x : Int64} : wps rm K Q c_X_drop_14 kc ks loc ([.long x]) h = (kc = rm.cells ∧ Q (some (.long x)) h) := gk_lret
theorem s_X_drop_15 {x : Nat} {l : eg_Lo} : wps rm K Q c_X_drop_15 kc ks (some (.ref x) :: l) (st) h = wps rm K Q c_X_drop_16 kc ks (some (.ref x) :: l) (.ref x :: st) h := gk_aload rfl
theorem s_X_drop_16 {x : Nat} : wps rm K Q c_X_drop_16 kc ks loc (.ref (x + 1) :: st) h = eg_gf h x 11 2 (fun v => wps rm K Q c_X_drop_19 kc ks loc (v :: st) h) := gk_gf
theorem s_X_drop_19 {x : Int32} {l0 : Option Value} {l : eg_Lo} : wps rm K Q c_X_drop_19 kc ks (l0 :: some (.int x) :: l) (st) h = wps rm K Q c_X_drop_20 kc ks (l0 :: some (.int x) :: l) (.int x :: st) h := gk_iload rfl
theorem s_X_drop_20 {x : Nat} {i : Int32} : wps rm K Q c_X_drop_20 kc ks loc (.int i :: .ref (x + 1) :: st) h = eg_aa h x i (fun v => wps rm K Q c_X_drop_21 kc ks loc (v :: st) h) := gk_aaload
theorem s_X_drop_21  {x : Nat} : wps rm K Q c_X_drop_21 kc ks loc (.ref (x + 1) :: st) h = (eg_cls h x 2 ∧ st.length ≤ 4 ∧ eg_Cs n_Fig_isOne (.ref (x + 1) :: []) h (fun v h9 => wps rm K Q c_X_drop_24 kc ks loc (v.toList ++ st) h9)) := eg_c1_0
theorem s_X_drop_24 {x : Int32} : wps rm K Q c_X_drop_24 kc ks loc (.int x :: st) h = wps rm K Q c_X_drop_25 kc ks (eg_set1 loc 2 (.int x)) (st) h := gk_istore
theorem s_X_drop_25 {x : Nat} {l : eg_Lo} : wps rm K Q c_X_drop_25 kc ks (some (.ref x) :: l) (st) h = wps rm K Q c_X_drop_26 kc ks (some (.ref x) :: l) (.ref x :: st) h := gk_aload rfl
theorem s_X_drop_26 {x : Nat} : wps rm K Q c_X_drop_26 kc ks loc (.ref (x + 1) :: st) h = eg_gf h x 11 2 (fun v => wps rm K Q c_X_drop_29 kc ks loc (v :: st) h) := gk_gf
theorem s_X_drop_29 {x : Int32} {l0 : Option Value} {l : eg_Lo} : wps rm K Q c_X_drop_29 kc ks (l0 :: some (.int x) :: l) (st) h = wps rm K Q c_X_drop_30 kc ks (l0 :: some (.int x) :: l) (.int x :: st) h := gk_iload rfl
theorem s_X_drop_30 {x : Nat} {i : Int32} : wps rm K Q c_X_drop_30 kc ks loc (.int i :: .ref (x + 1) :: st) h = eg_aa h x i (fun v => wps rm K Q c_X_drop_31 kc ks loc (v :: st) h) := gk_aaload
theorem s_X_drop_31  : wps rm K Q c_X_drop_31 kc ks loc (st) h = wps rm K Q c_X_drop_32 kc ks loc (.int (-1) :: st) h := gk_ic (by decide)
theorem s_X_drop_32 {x : Nat} {v : Value} : wps rm K Q c_X_drop_32 kc ks loc (v :: .ref (x + 1) :: st) h = eg_pf h x 2 5 v (fun h9 => wps rm K Q c_X_drop_35 kc ks loc (st) h9) := gk_pf
theorem s_X_drop_35 {x : Int32} {l0 l1 : Option Value} {l : eg_Lo} : wps rm K Q c_X_drop_35 kc ks (l0 :: l1 :: some (.int x) :: l) (st) h = wps rm K Q c_X_drop_36 kc ks (l0 :: l1 :: some (.int x) :: l) (.int x :: st) h := gk_iload rfl
theorem s_X_drop_36 {x : Int32} : wps rm K Q c_X_drop_36 kc ks loc (.int x :: st) h = ((x = 0 → K 43 kc ks loc st h) ∧ (¬ x = 0 → wps rm K Q c_X_drop_39 kc ks loc (st) h)) := gk_if1_eq
theorem s_X_drop_39  : wps rm K Q c_X_drop_39 kc ks loc (st) h = wps rm K Q c_X_drop_40 kc ks loc (.long (1) :: st) h := gk_lc (by decide)
theorem s_X_drop_40  : wps rm K Q c_X_drop_40 kc ks loc (st) h = K 44 kc ks loc st h := gk_goto
theorem s_X_drop_43  : wps rm K Q c_X_drop_43 kc ks loc (st) h = wps rm K Q c_X_drop_44 kc ks loc (.long (0) :: st) h := gk_lc (by decide)
theorem s_X_drop_44 {x : Int64} : wps rm K Q c_X_drop_44 kc ks loc ([.long x]) h = (kc = rm.cells ∧ Q (some (.long x)) h) := gk_lret
def T_X_drop : List (Nat × List eg_I) := [(15, c_X_drop_15), (43, c_X_drop_43), (44, c_X_drop_44)]
theorem j_X_drop_15 {R : Nat → Nat → Nat → eg_Lo → List Value → List eg_E → Prop} {f pc0 : Nat} : eg_run rm R Q T_X_drop (f + 1) 15 kc ks loc st h = wps rm (eg_run rm R Q T_X_drop f) Q c_X_drop_15 kc ks loc st h := rfl
theorem j_X_drop_43 {R : Nat → Nat → Nat → eg_Lo → List Value → List eg_E → Prop} {f pc0 : Nat} : eg_run rm R Q T_X_drop (f + 1) 43 kc ks loc st h = wps rm (eg_run rm R Q T_X_drop f) Q c_X_drop_43 kc ks loc st h := rfl
theorem j_X_drop_44 {R : Nat → Nat → Nat → eg_Lo → List Value → List eg_E → Prop} {f pc0 : Nat} : eg_run rm R Q T_X_drop (f + 1) 44 kc ks loc st h = wps rm (eg_run rm R Q T_X_drop f) Q c_X_drop_44 kc ks loc st h := rfl
end
theorem y_X_drop_0 : eg_seq m_X_drop 0 c_X_drop_0 = true := by decide +kernel
theorem y_X_drop_15 : eg_seq m_X_drop 15 c_X_drop_15 = true := by decide +kernel
theorem y_X_drop_43 : eg_seq m_X_drop 43 c_X_drop_43 = true := by decide +kernel
theorem q_X_drop : ∀ q ∈ T_X_drop, eg_seq m_X_drop q.1 q.2 = true := by
  intro q hq
  simp only [T_X_drop, List.mem_cons, List.not_mem_nil, or_false] at hq
  rcases hq with rfl | rfl | rfl
  · exact y_X_drop_15
  · exact y_X_drop_43
  · exact (eg_seq_drop y_X_drop_43 1 : eg_seq m_X_drop 44 c_X_drop_44 = true)
theorem b_X_drop {as : List Value} {h : List eg_E} {Q : Option Value → List eg_E → Prop} (hf : (eg_fl as).length ≤ 3) (hw : wps (eg_rm m_X_drop) (eg_run (eg_rm m_X_drop) (eg_R m_X_drop Q (h.length + 0)) Q T_X_drop 5) Q c_X_drop_0 0 0 (eg_entry 3 as) [] h) : eg_Runs n_X_drop as h Q := eg_begin2 (d := m_X_drop) rfl (by decide) y_X_drop_0 q_X_drop hf hw
/-! ===== X_as ===== -/
def c_X_as_75 : List eg_I := .inl (75, 1, .lreturn, 0, 0) :: []
def c_X_as_74 : List eg_I := .inl (74, 1, .i2l, 0, 0) :: c_X_as_75
def c_X_as_71 : List eg_I := .inl (71, 3, .getfield 221, 2, 5) :: c_X_as_74
def c_X_as_70 : List eg_I := .inl (70, 1, .aaload, 0, 0) :: c_X_as_71
def c_X_as_69 : List eg_I := .inl (69, 1, .iload 1, 0, 0) :: c_X_as_70
def c_X_as_66 : List eg_I := .inl (66, 3, .getfield 23, 11, 2) :: c_X_as_69
def c_X_as_65 : List eg_I := .inl (65, 1, .aload 0, 0, 0) :: c_X_as_66
def c_X_as_64 : List eg_I := .inl (64, 1, .lreturn, 0, 0) :: []
def c_X_as_61 : List eg_I := .inr (61, 1, 86, n_X_found, 1, 11, 0, 0) :: c_X_as_64
def c_X_as_58 : List eg_I := .inl (58, 3, .sipush (-1000000000000000004), 183, 0) :: c_X_as_61
def c_X_as_57 : List eg_I := .inl (57, 1, .aload 0, 0, 0) :: c_X_as_58
def c_X_as_54 : List eg_I := .inl (54, 3, .ifCond .ne (11), 65, 0) :: c_X_as_57
def c_X_as_51 : List eg_I := .inr (51, 1, 222, n_Fig_isOfKind, 1, 2, 0, 0) :: c_X_as_54
def c_X_as_50 : List eg_I := .inl (50, 1, .iload 2, 0, 0) :: c_X_as_51
def c_X_as_49 : List eg_I := .inl (49, 1, .aaload, 0, 0) :: c_X_as_50
def c_X_as_48 : List eg_I := .inl (48, 1, .iload 1, 0, 0) :: c_X_as_49
def c_X_as_45 : List eg_I := .inl (45, 3, .getfield 23, 11, 2) :: c_X_as_48
def c_X_as_44 : List eg_I := .inl (44, 1, .aload 0, 0, 0) :: c_X_as_45
def c_X_as_43 : List eg_I := .inl (43, 1, .lreturn, 0, 0) :: []
def c_X_as_40 : List eg_I := .inr (40, 1, 86, n_X_found, 1, 11, 0, 0) :: c_X_as_43
def c_X_as_37 : List eg_I := .inl (37, 3, .sipush (-1000000000000000006), 158, 0) :: c_X_as_40
def c_X_as_36 : List eg_I := .inl (36, 1, .aload 0, 0, 0) :: c_X_as_37
def c_X_as_33 : List eg_I := .inl (33, 3, .ifCond .ne (11), 44, 0) :: c_X_as_36
def c_X_as_30 : List eg_I := .inr (30, 1, 218, n_Fig_isOne, 0, 2, 0, 0) :: c_X_as_33
def c_X_as_29 : List eg_I := .inl (29, 1, .aaload, 0, 0) :: c_X_as_30
def c_X_as_28 : List eg_I := .inl (28, 1, .iload 1, 0, 0) :: c_X_as_29
def c_X_as_25 : List eg_I := .inl (25, 3, .getfield 23, 11, 2) :: c_X_as_28
def c_X_as_24 : List eg_I := .inl (24, 1, .aload 0, 0, 0) :: c_X_as_25
def c_X_as_23 : List eg_I := .inl (23, 1, .lreturn, 0, 0) :: []
def c_X_as_20 : List eg_I := .inr (20, 1, 86, n_X_found, 1, 11, 0, 0) :: c_X_as_23
def c_X_as_17 : List eg_I := .inl (17, 3, .sipush (-1000000000000000001), 84, 0) :: c_X_as_20
def c_X_as_16 : List eg_I := .inl (16, 1, .aload 0, 0, 0) :: c_X_as_17
def c_X_as_13 : List eg_I := .inl (13, 3, .ifCond .ne (11), 24, 0) :: c_X_as_16
def c_X_as_10 : List eg_I := .inr (10, 0, 80, n_X_isWithin, 3, 11, 0, 0) :: c_X_as_13
def c_X_as_9 : List eg_I := .inl (9, 1, .iconst (5), 0, 0) :: c_X_as_10
def c_X_as_8 : List eg_I := .inl (8, 1, .iconst (0), 0, 0) :: c_X_as_9
def c_X_as_7 : List eg_I := .inl (7, 1, .iload 2, 0, 0) :: c_X_as_8
def c_X_as_4 : List eg_I := .inl (4, 3, .ifCond .eq (12), 16, 0) :: c_X_as_7
def c_X_as_1 : List eg_I := .inr (1, 0, 202, n_X_isFigure, 1, 11, 0, 0) :: c_X_as_4
def c_X_as_0 : List eg_I := .inl (0, 1, .iload 1, 0, 0) :: c_X_as_1
section
variable {rm : Room} {K : Nat → Nat → Nat → eg_Lo → List Value → List eg_E → Prop} {Q : Option Value → List eg_E → Prop} {kc ks : Nat} {loc : eg_Lo} {st : List Value} {h : List eg_E}
theorem s_X_as_0 {x : Int32} {l0 : Option Value} {l : eg_Lo} : wps rm K Q c_X_as_0 kc ks (l0 :: some (.int x) :: l) (st) h = wps rm K Q c_X_as_1 kc ks (l0 :: some (.int x) :: l) (.int x :: st) h := gk_iload rfl
theorem s_X_as_1  {a1 : Value} : wps rm K Q c_X_as_1 kc ks loc (a1 :: st) h = (st.length ≤ 4 ∧ eg_Cs n_X_isFigure [a1] h (fun v h9 => wps rm K Q c_X_as_4 kc ks loc (v.toList ++ st) h9)) := eg_c0_1
theorem s_X_as_4 {x : Int32} : wps rm K Q c_X_as_4 kc ks loc (.int x :: st) h = ((x = 0 → K 16 kc ks loc st h) ∧ (¬ x = 0 → wps rm K Q c_X_as_7 kc ks loc (st) h)) := gk_if1_eq
theorem s_X_as_7 {x : Int32} {l0 l1 : Option Value} {l : eg_Lo} : wps rm K Q c_X_as_7 kc ks (l0 :: l1 :: some (.int x) :: l) (st) h = wps rm K Q c_X_as_8 kc ks (l0 :: l1 :: some (.int x) :: l) (.int x :: st) h := gk_iload rfl
theorem s_X_as_8  : wps rm K Q c_X_as_8 kc ks loc (st) h = wps rm K Q c_X_as_9 kc ks loc (.int (0) :: st) h := gk_ic (by decide)
theorem s_X_as_9  : wps rm K Q c_X_as_9 kc ks loc (st) h = wps rm K Q c_X_as_10 kc ks loc (.int (5) :: st) h := gk_ic (by decide)
theorem s_X_as_10  {a1 : Value} {a2 : Value} {a3 : Value} : wps rm K Q c_X_as_10 kc ks loc (a3 :: a2 :: a1 :: st) h = (st.length ≤ 4 ∧ eg_Cs n_X_isWithin [a1, a2, a3] h (fun v h9 => wps rm K Q c_X_as_13 kc ks loc (v.toList ++ st) h9)) := eg_c0_3
theorem s_X_as_13 {x : Int32} : wps rm K Q c_X_as_13 kc ks loc (.int x :: st) h = ((¬ x = 0 → K 24 kc ks loc st h) ∧ (x = 0 → wps rm K Q c_X_as_16 kc ks loc (st) h)) := gk_if1_ne
theorem s_X_as_16 {x : Nat} {l : eg_Lo} : wps rm K Q c_X_as_16 kc ks (some (.ref x) :: l) (st) h = wps rm K Q c_X_as_17 kc ks (some (.ref x) :: l) (.ref x :: st) h := gk_aload rfl
theorem s_X_as_17  : wps rm K Q c_X_as_17 kc ks loc (st) h = wps rm K Q c_X_as_20 kc ks loc (.long (-1000000000000000001) :: st) h := gk_lc (by decide)
theorem s_X_as_20  {a1 : Value} {x : Nat} : wps rm K Q c_X_as_20 kc ks loc (a1 :: .ref (x + 1) :: st) h = (eg_cls h x 11 ∧ st.length ≤ 4 ∧ eg_Cs n_X_found (.ref (x + 1) :: [a1]) h (fun v h9 => wps rm K Q c_X_as_23 kc ks loc (v.toList ++ st) h9)) := eg_c1_1
theorem s_X_as_23 {x : Int64} : wps rm K Q c_X_as_23 kc ks loc ([.long x]) h = (kc = rm.cells ∧ Q (some (.long x)) h) := gk_lret
theorem s_X_as_24 {x : Nat} {l : eg_Lo} : wps rm K Q c_X_as_24 kc ks (some (.ref x) :: l) (st) h = wps rm K Q c_X_as_25 kc ks (some (.ref x) :: l) (.ref x :: st) h := gk_aload rfl
theorem s_X_as_25 {x : Nat} : wps rm K Q c_X_as_25 kc ks loc (.ref (x + 1) :: st) h = eg_gf h x 11 2 (fun v => wps rm K Q c_X_as_28 kc ks loc (v :: st) h) := gk_gf
theorem s_X_as_28 {x : Int32} {l0 : Option Value} {l : eg_Lo} : wps rm K Q c_X_as_28 kc ks (l0 :: some (.int x) :: l) (st) h = wps rm K Q c_X_as_29 kc ks (l0 :: some (.int x) :: l) (.int x :: st) h := gk_iload rfl
theorem s_X_as_29 {x : Nat} {i : Int32} : wps rm K Q c_X_as_29 kc ks loc (.int i :: .ref (x + 1) :: st) h = eg_aa h x i (fun v => wps rm K Q c_X_as_30 kc ks loc (v :: st) h) := gk_aaload
theorem s_X_as_30  {x : Nat} : wps rm K Q c_X_as_30 kc ks loc (.ref (x + 1) :: st) h = (eg_cls h x 2 ∧ st.length ≤ 4 ∧ eg_Cs n_Fig_isOne (.ref (x + 1) :: []) h (fun v h9 => wps rm K Q c_X_as_33 kc ks loc (v.toList ++ st) h9)) := eg_c1_0
theorem s_X_as_33 {x : Int32} : wps rm K Q c_X_as_33 kc ks loc (.int x :: st) h = ((¬ x = 0 → K 44 kc ks loc st h) ∧ (x = 0 → wps rm K Q c_X_as_36 kc ks loc (st) h)) := gk_if1_ne
theorem s_X_as_36 {x : Nat} {l : eg_Lo} : wps rm K Q c_X_as_36 kc ks (some (.ref x) :: l) (st) h = wps rm K Q c_X_as_37 kc ks (some (.ref x) :: l) (.ref x :: st) h := gk_aload rfl
theorem s_X_as_37  : wps rm K Q c_X_as_37 kc ks loc (st) h = wps rm K Q c_X_as_40 kc ks loc (.long (-1000000000000000006) :: st) h := gk_lc (by decide)
theorem s_X_as_40  {a1 : Value} {x : Nat} : wps rm K Q c_X_as_40 kc ks loc (a1 :: .ref (x + 1) :: st) h = (eg_cls h x 11 ∧ st.length ≤ 4 ∧ eg_Cs n_X_found (.ref (x + 1) :: [a1]) h (fun v h9 => wps rm K Q c_X_as_43 kc ks loc (v.toList ++ st) h9)) := eg_c1_1
theorem s_X_as_43 {x : Int64} : wps rm K Q c_X_as_43 kc ks loc ([.long x]) h = (kc = rm.cells ∧ Q (some (.long x)) h) := gk_lret
theorem s_X_as_44 {x : Nat} {l : eg_Lo} : wps rm K Q c_X_as_44 kc ks (some (.ref x) :: l) (st) h = wps rm K Q c_X_as_45 kc ks (some (.ref x) :: l) (.ref x :: st) h := gk_aload rfl
theorem s_X_as_45 {x : Nat} : wps rm K Q c_X_as_45 kc ks loc (.ref (x + 1) :: st) h = eg_gf h x 11 2 (fun v => wps rm K Q c_X_as_48 kc ks loc (v :: st) h) := gk_gf
theorem s_X_as_48 {x : Int32} {l0 : Option Value} {l : eg_Lo} : wps rm K Q c_X_as_48 kc ks (l0 :: some (.int x) :: l) (st) h = wps rm K Q c_X_as_49 kc ks (l0 :: some (.int x) :: l) (.int x :: st) h := gk_iload rfl
theorem s_X_as_49 {x : Nat} {i : Int32} : wps rm K Q c_X_as_49 kc ks loc (.int i :: .ref (x + 1) :: st) h = eg_aa h x i (fun v => wps rm K Q c_X_as_50 kc ks loc (v :: st) h) := gk_aaload
theorem s_X_as_50 {x : Int32} {l0 l1 : Option Value} {l : eg_Lo} : wps rm K Q c_X_as_50 kc ks (l0 :: l1 :: some (.int x) :: l) (st) h = wps rm K Q c_X_as_51 kc ks (l0 :: l1 :: some (.int x) :: l) (.int x :: st) h := gk_iload rfl
theorem s_X_as_51  {a1 : Value} {x : Nat} : wps rm K Q c_X_as_51 kc ks loc (a1 :: .ref (x + 1) :: st) h = (eg_cls h x 2 ∧ st.length ≤ 4 ∧ eg_Cs n_Fig_isOfKind (.ref (x + 1) :: [a1]) h (fun v h9 => wps rm K Q c_X_as_54 kc ks loc (v.toList ++ st) h9)) := eg_c1_1
theorem s_X_as_54 {x : Int32} : wps rm K Q c_X_as_54 kc ks loc (.int x :: st) h = ((¬ x = 0 → K 65 kc ks loc st h) ∧ (x = 0 → wps rm K Q c_X_as_57 kc ks loc (st) h)) := gk_if1_ne
theorem s_X_as_57 {x : Nat} {l : eg_Lo} : wps rm K Q c_X_as_57 kc ks (some (.ref x) :: l) (st) h = wps rm K Q c_X_as_58 kc ks (some (.ref x) :: l) (.ref x :: st) h := gk_aload rfl
theorem s_X_as_58  : wps rm K Q c_X_as_58 kc ks loc (st) h = wps rm K Q c_X_as_61 kc ks loc (.long (-1000000000000000004) :: st) h := gk_lc (by decide)
theorem s_X_as_61  {a1 : Value} {x : Nat} : wps rm K Q c_X_as_61 kc ks loc (a1 :: .ref (x + 1) :: st) h = (eg_cls h x 11 ∧ st.length ≤ 4 ∧ eg_Cs n_X_found (.ref (x + 1) :: [a1]) h (fun v h9 => wps rm K Q c_X_as_64 kc ks loc (v.toList ++ st) h9)) := eg_c1_1
theorem s_X_as_64 {x : Int64} : wps rm K Q c_X_as_64 kc ks loc ([.long x]) h = (kc = rm.cells ∧ Q (some (.long x)) h) := gk_lret
theorem s_X_as_65 {x : Nat} {l : eg_Lo} : wps rm K Q c_X_as_65 kc ks (some (.ref x) :: l) (st) h = wps rm K Q c_X_as_66 kc ks (some (.ref x) :: l) (.ref x :: st) h := gk_aload rfl
theorem s_X_as_66 {x : Nat} : wps rm K Q c_X_as_66 kc ks loc (.ref (x + 1) :: st) h = eg_gf h x 11 2 (fun v => wps rm K Q c_X_as_69 kc ks loc (v :: st) h) := gk_gf
theorem s_X_as_69 {x : Int32} {l0 : Option Value} {l : eg_Lo} : wps rm K Q c_X_as_69 kc ks (l0 :: some (.int x) :: l) (st) h = wps rm K Q c_X_as_70 kc ks (l0 :: some (.int x) :: l) (.int x :: st) h := gk_iload rfl
theorem s_X_as_70 {x : Nat} {i : Int32} : wps rm K Q c_X_as_70 kc ks loc (.int i :: .ref (x + 1) :: st) h = eg_aa h x i (fun v => wps rm K Q c_X_as_71 kc ks loc (v :: st) h) := gk_aaload
theorem s_X_as_71 {x : Nat} : wps rm K Q c_X_as_71 kc ks loc (.ref (x + 1) :: st) h = eg_gf h x 2 5 (fun v => wps rm K Q c_X_as_74 kc ks loc (v :: st) h) := gk_gf
theorem s_X_as_74 {x : Int32} : wps rm K Q c_X_as_74 kc ks loc (.int x :: st) h = wps rm K Q c_X_as_75 kc ks loc (.long (x.toInt64) :: st) h := gk_i2l
theorem s_X_as_75 {x : Int64} : wps rm K Q c_X_as_75 kc ks loc ([.long x]) h = (kc = rm.cells ∧ Q (some (.long x)) h) := gk_lret
def T_X_as : List (Nat × List eg_I) := [(16, c_X_as_16), (24, c_X_as_24), (44, c_X_as_44), (65, c_X_as_65)]
theorem j_X_as_16 {R : Nat → Nat → Nat → eg_Lo → List Value → List eg_E → Prop} {f pc0 : Nat} : eg_run rm R Q T_X_as (f + 1) 16 kc ks loc st h = wps rm (eg_run rm R Q T_X_as f) Q c_X_as_16 kc ks loc st h := rfl
theorem j_X_as_24 {R : Nat → Nat → Nat → eg_Lo → List Value → List eg_E → Prop} {f pc0 : Nat} : eg_run rm R Q T_X_as (f + 1) 24 kc ks loc st h = wps rm (eg_run rm R Q T_X_as f) Q c_X_as_24 kc ks loc st h := rfl
theorem j_X_as_44 {R : Nat → Nat → Nat → eg_Lo → List Value → List eg_E → Prop} {f pc0 : Nat} : eg_run rm R Q T_X_as (f + 1) 44 kc ks loc st h = wps rm (eg_run rm R Q T_X_as f) Q c_X_as_44 kc ks loc st h := rfl
theorem j_X_as_65 {R : Nat → Nat → Nat → eg_Lo → List Value → List eg_E → Prop} {f pc0 : Nat} : eg_run rm R Q T_X_as (f + 1) 65 kc ks loc st h = wps rm (eg_run rm R Q T_X_as f) Q c_X_as_65 kc ks loc st h := rfl
end
theorem y_X_as_0 : eg_seq m_X_as 0 c_X_as_0 = true := by decide +kernel
theorem y_X_as_24 : eg_seq m_X_as 24 c_X_as_24 = true := by decide +kernel
theorem y_X_as_44 : eg_seq m_X_as 44 c_X_as_44 = true := by decide +kernel
theorem y_X_as_65 : eg_seq m_X_as 65 c_X_as_65 = true := by decide +kernel
theorem q_X_as : ∀ q ∈ T_X_as, eg_seq m_X_as q.1 q.2 = true := by
  intro q hq
  simp only [T_X_as, List.mem_cons, List.not_mem_nil, or_false] at hq
  rcases hq with rfl | rfl | rfl | rfl
  · exact (eg_seq_drop y_X_as_0 8 : eg_seq m_X_as 16 c_X_as_16 = true)
  · exact y_X_as_24
  · exact y_X_as_44
  · exact y_X_as_65
theorem b_X_as {as : List Value} {h : List eg_E} {Q : Option Value → List eg_E → Prop} (hf : (eg_fl as).length ≤ 3) (hw : wps (eg_rm m_X_as) (eg_run (eg_rm m_X_as) (eg_R m_X_as Q (h.length + 0)) Q T_X_as 6) Q c_X_as_0 0 0 (eg_entry 3 as) [] h) : eg_Runs n_X_as as h Q := eg_begin2 (d := m_X_as) rfl (by decide) y_X_as_0 q_X_as hf hw
/-! ===== X_held ===== -/
def c_X_held_66 : List eg_I := .inl (66, 1, .lreturn, 0, 0) :: []
def c_X_held_65 : List eg_I := .inl (65, 1, .i2l, 0, 0) :: c_X_held_66
def c_X_held_64 : List eg_I := .inl (64, 1, .iaload, 0, 0) :: c_X_held_65
def c_X_held_63 : List eg_I := .inl (63, 1, .iload 2, 0, 0) :: c_X_held_64
def c_X_held_60 : List eg_I := .inl (60, 3, .getfield 225, 2, 0) :: c_X_held_63
def c_X_held_59 : List eg_I := .inl (59, 1, .aaload, 0, 0) :: c_X_held_60
def c_X_held_58 : List eg_I := .inl (58, 1, .iload 1, 0, 0) :: c_X_held_59
def c_X_held_55 : List eg_I := .inl (55, 3, .getfield 23, 11, 2) :: c_X_held_58
def c_X_held_54 : List eg_I := .inl (54, 1, .aload 0, 0, 0) :: c_X_held_55
def c_X_held_53 : List eg_I := .inl (53, 1, .lreturn, 0, 0) :: []
def c_X_held_50 : List eg_I := .inr (50, 1, 86, n_X_found, 1, 11, 0, 0) :: c_X_held_53
def c_X_held_47 : List eg_I := .inl (47, 3, .sipush (-1000000000000000006), 158, 0) :: c_X_held_50
def c_X_held_46 : List eg_I := .inl (46, 1, .aload 0, 0, 0) :: c_X_held_47
def c_X_held_43 : List eg_I := .inl (43, 3, .ifCond .ne (11), 54, 0) :: c_X_held_46
def c_X_held_40 : List eg_I := .inr (40, 0, 80, n_X_isWithin, 3, 11, 0, 0) :: c_X_held_43
def c_X_held_39 : List eg_I := .inl (39, 1, .isub, 0, 0) :: c_X_held_40
def c_X_held_38 : List eg_I := .inl (38, 1, .iconst (1), 0, 0) :: c_X_held_39
def c_X_held_35 : List eg_I := .inl (35, 3, .getfield 215, 2, 6) :: c_X_held_38
def c_X_held_34 : List eg_I := .inl (34, 1, .aaload, 0, 0) :: c_X_held_35
def c_X_held_33 : List eg_I := .inl (33, 1, .iload 1, 0, 0) :: c_X_held_34
def c_X_held_30 : List eg_I := .inl (30, 3, .getfield 23, 11, 2) :: c_X_held_33
def c_X_held_29 : List eg_I := .inl (29, 1, .aload 0, 0, 0) :: c_X_held_30
def c_X_held_28 : List eg_I := .inl (28, 1, .iconst (0), 0, 0) :: c_X_held_29
def c_X_held_27 : List eg_I := .inl (27, 1, .iload 2, 0, 0) :: c_X_held_28
def c_X_held_24 : List eg_I := .inl (24, 3, .ifCond .eq (22), 46, 0) :: c_X_held_27
def c_X_held_21 : List eg_I := .inr (21, 1, 218, n_Fig_isOne, 0, 2, 0, 0) :: c_X_held_24
def c_X_held_20 : List eg_I := .inl (20, 1, .aaload, 0, 0) :: c_X_held_21
def c_X_held_19 : List eg_I := .inl (19, 1, .iload 1, 0, 0) :: c_X_held_20
def c_X_held_16 : List eg_I := .inl (16, 3, .getfield 23, 11, 2) :: c_X_held_19
def c_X_held_15 : List eg_I := .inl (15, 1, .aload 0, 0, 0) :: c_X_held_16
def c_X_held_14 : List eg_I := .inl (14, 1, .lreturn, 0, 0) :: []
def c_X_held_11 : List eg_I := .inr (11, 1, 86, n_X_found, 1, 11, 0, 0) :: c_X_held_14
def c_X_held_8 : List eg_I := .inl (8, 3, .sipush (-1000000000000000001), 84, 0) :: c_X_held_11
def c_X_held_7 : List eg_I := .inl (7, 1, .aload 0, 0, 0) :: c_X_held_8
def c_X_held_4 : List eg_I := .inl (4, 3, .ifCond .ne (11), 15, 0) :: c_X_held_7
def c_X_held_1 : List eg_I := .inr (1, 0, 202, n_X_isFigure, 1, 11, 0, 0) :: c_X_held_4
def c_X_held_0 : List eg_I := .inl (0, 1, .iload 1, 0, 0) :: c_X_held_1
section
variable {rm : Room} {K : Nat → Nat → Nat → eg_Lo → List Value → List eg_E → Prop} {Q : Option Value → List eg_E → Prop} {kc ks : Nat} {loc : eg_Lo} {st : List Value} {h : List eg_E}
theorem s_X_held_0 {x : Int32} {l0 : Option Value} {l : eg_Lo} : wps rm K Q c_X_held_0 kc ks (l0 :: some (.int x) :: l) (st) h = wps rm K Q c_X_held_1 kc ks (l0 :: some (.int x) :: l) (.int x :: st) h := gk_iload rfl
theorem s_X_held_1  {a1 : Value} : wps rm K Q c_X_held_1 kc ks loc (a1 :: st) h = (st.length ≤ 4 ∧ eg_Cs n_X_isFigure [a1] h (fun v h9 => wps rm K Q c_X_held_4 kc ks loc (v.toList ++ st) h9)) := eg_c0_1
theorem s_X_held_4 {x : Int32} : wps rm K Q c_X_held_4 kc ks loc (.int x :: st) h = ((¬ x = 0 → K 15 kc ks loc st h) ∧ (x = 0 → wps rm K Q c_X_held_7 kc ks loc (st) h)) := gk_if1_ne
theorem s_X_held_7 {x : Nat} {l : eg_Lo} : wps rm K Q c_X_held_7 kc ks (some (.ref x) :: l) (st) h = wps rm K Q c_X_held_8 kc ks (some (.ref x) :: l) (.ref x :: st) h := gk_aload rfl
theorem s_X_held_8  : wps rm K Q c_X_held_8 kc ks loc (st) h = wps rm K Q c_X_held_11 kc ks loc (.long (-1000000000000000001) :: st) h := gk_lc (by decide)
theorem s_X_held_11  {a1 : Value} {x : Nat} : wps rm K Q c_X_held_11 kc ks loc (a1 :: .ref (x + 1) :: st) h = (eg_cls h x 11 ∧ st.length ≤ 4 ∧ eg_Cs n_X_found (.ref (x + 1) :: [a1]) h (fun v h9 => wps rm K Q c_X_held_14 kc ks loc (v.toList ++ st) h9)) := eg_c1_1
theorem s_X_held_14 {x : Int64} : wps rm K Q c_X_held_14 kc ks loc ([.long x]) h = (kc = rm.cells ∧ Q (some (.long x)) h) := gk_lret
theorem s_X_held_15 {x : Nat} {l : eg_Lo} : wps rm K Q c_X_held_15 kc ks (some (.ref x) :: l) (st) h = wps rm K Q c_X_held_16 kc ks (some (.ref x) :: l) (.ref x :: st) h := gk_aload rfl
theorem s_X_held_16 {x : Nat} : wps rm K Q c_X_held_16 kc ks loc (.ref (x + 1) :: st) h = eg_gf h x 11 2 (fun v => wps rm K Q c_X_held_19 kc ks loc (v :: st) h) := gk_gf
theorem s_X_held_19 {x : Int32} {l0 : Option Value} {l : eg_Lo} : wps rm K Q c_X_held_19 kc ks (l0 :: some (.int x) :: l) (st) h = wps rm K Q c_X_held_20 kc ks (l0 :: some (.int x) :: l) (.int x :: st) h := gk_iload rfl
theorem s_X_held_20 {x : Nat} {i : Int32} : wps rm K Q c_X_held_20 kc ks loc (.int i :: .ref (x + 1) :: st) h = eg_aa h x i (fun v => wps rm K Q c_X_held_21 kc ks loc (v :: st) h) := gk_aaload
theorem s_X_held_21  {x : Nat} : wps rm K Q c_X_held_21 kc ks loc (.ref (x + 1) :: st) h = (eg_cls h x 2 ∧ st.length ≤ 4 ∧ eg_Cs n_Fig_isOne (.ref (x + 1) :: []) h (fun v h9 => wps rm K Q c_X_held_24 kc ks loc (v.toList ++ st) h9)) := eg_c1_0
theorem s_X_held_24 {x : Int32} : wps rm K Q c_X_held_24 kc ks loc (.int x :: st) h = ((x = 0 → K 46 kc ks loc st h) ∧ (¬ x = 0 → wps rm K Q c_X_held_27 kc ks loc (st) h)) := gk_if1_eq
theorem s_X_held_27 {x : Int32} {l0 l1 : Option Value} {l : eg_Lo} : wps rm K Q c_X_held_27 kc ks (l0 :: l1 :: some (.int x) :: l) (st) h = wps rm K Q c_X_held_28 kc ks (l0 :: l1 :: some (.int x) :: l) (.int x :: st) h := gk_iload rfl
theorem s_X_held_28  : wps rm K Q c_X_held_28 kc ks loc (st) h = wps rm K Q c_X_held_29 kc ks loc (.int (0) :: st) h := gk_ic (by decide)
theorem s_X_held_29 {x : Nat} {l : eg_Lo} : wps rm K Q c_X_held_29 kc ks (some (.ref x) :: l) (st) h = wps rm K Q c_X_held_30 kc ks (some (.ref x) :: l) (.ref x :: st) h := gk_aload rfl
theorem s_X_held_30 {x : Nat} : wps rm K Q c_X_held_30 kc ks loc (.ref (x + 1) :: st) h = eg_gf h x 11 2 (fun v => wps rm K Q c_X_held_33 kc ks loc (v :: st) h) := gk_gf
theorem s_X_held_33 {x : Int32} {l0 : Option Value} {l : eg_Lo} : wps rm K Q c_X_held_33 kc ks (l0 :: some (.int x) :: l) (st) h = wps rm K Q c_X_held_34 kc ks (l0 :: some (.int x) :: l) (.int x :: st) h := gk_iload rfl
theorem s_X_held_34 {x : Nat} {i : Int32} : wps rm K Q c_X_held_34 kc ks loc (.int i :: .ref (x + 1) :: st) h = eg_aa h x i (fun v => wps rm K Q c_X_held_35 kc ks loc (v :: st) h) := gk_aaload
theorem s_X_held_35 {x : Nat} : wps rm K Q c_X_held_35 kc ks loc (.ref (x + 1) :: st) h = eg_gf h x 2 6 (fun v => wps rm K Q c_X_held_38 kc ks loc (v :: st) h) := gk_gf
theorem s_X_held_38  : wps rm K Q c_X_held_38 kc ks loc (st) h = wps rm K Q c_X_held_39 kc ks loc (.int (1) :: st) h := gk_ic (by decide)
theorem s_X_held_39 {x y : Int32} : wps rm K Q c_X_held_39 kc ks loc (.int y :: .int x :: st) h = wps rm K Q c_X_held_40 kc ks loc (.int (x - y) :: st) h := gk_isub
theorem s_X_held_40  {a1 : Value} {a2 : Value} {a3 : Value} : wps rm K Q c_X_held_40 kc ks loc (a3 :: a2 :: a1 :: st) h = (st.length ≤ 4 ∧ eg_Cs n_X_isWithin [a1, a2, a3] h (fun v h9 => wps rm K Q c_X_held_43 kc ks loc (v.toList ++ st) h9)) := eg_c0_3
theorem s_X_held_43 {x : Int32} : wps rm K Q c_X_held_43 kc ks loc (.int x :: st) h = ((¬ x = 0 → K 54 kc ks loc st h) ∧ (x = 0 → wps rm K Q c_X_held_46 kc ks loc (st) h)) := gk_if1_ne
theorem s_X_held_46 {x : Nat} {l : eg_Lo} : wps rm K Q c_X_held_46 kc ks (some (.ref x) :: l) (st) h = wps rm K Q c_X_held_47 kc ks (some (.ref x) :: l) (.ref x :: st) h := gk_aload rfl
theorem s_X_held_47  : wps rm K Q c_X_held_47 kc ks loc (st) h = wps rm K Q c_X_held_50 kc ks loc (.long (-1000000000000000006) :: st) h := gk_lc (by decide)
theorem s_X_held_50  {a1 : Value} {x : Nat} : wps rm K Q c_X_held_50 kc ks loc (a1 :: .ref (x + 1) :: st) h = (eg_cls h x 11 ∧ st.length ≤ 4 ∧ eg_Cs n_X_found (.ref (x + 1) :: [a1]) h (fun v h9 => wps rm K Q c_X_held_53 kc ks loc (v.toList ++ st) h9)) := eg_c1_1
theorem s_X_held_53 {x : Int64} : wps rm K Q c_X_held_53 kc ks loc ([.long x]) h = (kc = rm.cells ∧ Q (some (.long x)) h) := gk_lret
theorem s_X_held_54 {x : Nat} {l : eg_Lo} : wps rm K Q c_X_held_54 kc ks (some (.ref x) :: l) (st) h = wps rm K Q c_X_held_55 kc ks (some (.ref x) :: l) (.ref x :: st) h := gk_aload rfl
theorem s_X_held_55 {x : Nat} : wps rm K Q c_X_held_55 kc ks loc (.ref (x + 1) :: st) h = eg_gf h x 11 2 (fun v => wps rm K Q c_X_held_58 kc ks loc (v :: st) h) := gk_gf
theorem s_X_held_58 {x : Int32} {l0 : Option Value} {l : eg_Lo} : wps rm K Q c_X_held_58 kc ks (l0 :: some (.int x) :: l) (st) h = wps rm K Q c_X_held_59 kc ks (l0 :: some (.int x) :: l) (.int x :: st) h := gk_iload rfl
theorem s_X_held_59 {x : Nat} {i : Int32} : wps rm K Q c_X_held_59 kc ks loc (.int i :: .ref (x + 1) :: st) h = eg_aa h x i (fun v => wps rm K Q c_X_held_60 kc ks loc (v :: st) h) := gk_aaload
theorem s_X_held_60 {x : Nat} : wps rm K Q c_X_held_60 kc ks loc (.ref (x + 1) :: st) h = eg_gf h x 2 0 (fun v => wps rm K Q c_X_held_63 kc ks loc (v :: st) h) := gk_gf
theorem s_X_held_63 {x : Int32} {l0 l1 : Option Value} {l : eg_Lo} : wps rm K Q c_X_held_63 kc ks (l0 :: l1 :: some (.int x) :: l) (st) h = wps rm K Q c_X_held_64 kc ks (l0 :: l1 :: some (.int x) :: l) (.int x :: st) h := gk_iload rfl
theorem s_X_held_64 {x : Nat} {i : Int32} : wps rm K Q c_X_held_64 kc ks loc (.int i :: .ref (x + 1) :: st) h = eg_ia h x i (fun v => wps rm K Q c_X_held_65 kc ks loc (.int v :: st) h) := gk_iaload
theorem s_X_held_65 {x : Int32} : wps rm K Q c_X_held_65 kc ks loc (.int x :: st) h = wps rm K Q c_X_held_66 kc ks loc (.long (x.toInt64) :: st) h := gk_i2l
theorem s_X_held_66 {x : Int64} : wps rm K Q c_X_held_66 kc ks loc ([.long x]) h = (kc = rm.cells ∧ Q (some (.long x)) h) := gk_lret
def T_X_held : List (Nat × List eg_I) := [(15, c_X_held_15), (46, c_X_held_46), (54, c_X_held_54)]
theorem j_X_held_15 {R : Nat → Nat → Nat → eg_Lo → List Value → List eg_E → Prop} {f pc0 : Nat} : eg_run rm R Q T_X_held (f + 1) 15 kc ks loc st h = wps rm (eg_run rm R Q T_X_held f) Q c_X_held_15 kc ks loc st h := rfl
theorem j_X_held_46 {R : Nat → Nat → Nat → eg_Lo → List Value → List eg_E → Prop} {f pc0 : Nat} : eg_run rm R Q T_X_held (f + 1) 46 kc ks loc st h = wps rm (eg_run rm R Q T_X_held f) Q c_X_held_46 kc ks loc st h := rfl
theorem j_X_held_54 {R : Nat → Nat → Nat → eg_Lo → List Value → List eg_E → Prop} {f pc0 : Nat} : eg_run rm R Q T_X_held (f + 1) 54 kc ks loc st h = wps rm (eg_run rm R Q T_X_held f) Q c_X_held_54 kc ks loc st h := rfl
end
theorem y_X_held_0 : eg_seq m_X_held 0 c_X_held_0 = true := by decide +kernel
theorem y_X_held_15 : eg_seq m_X_held 15 c_X_held_15 = true := by decide +kernel
theorem y_X_held_54 : eg_seq m_X_held 54 c_X_held_54 = true := by decide +kernel
theorem q_X_held : ∀ q ∈ T_X_held, eg_seq m_X_held q.1 q.2 = true := by
  intro q hq
  simp only [T_X_held, List.mem_cons, List.not_mem_nil, or_false] at hq
  rcases hq with rfl | rfl | rfl
  · exact y_X_held_15
  · exact (eg_seq_drop y_X_held_15 17 : eg_seq m_X_held 46 c_X_held_46 = true)
  · exact y_X_held_54
theorem b_X_held {as : List Value} {h : List eg_E} {Q : Option Value → List eg_E → Prop} (hf : (eg_fl as).length ≤ 3) (hw : wps (eg_rm m_X_held) (eg_run (eg_rm m_X_held) (eg_R m_X_held Q (h.length + 0)) Q T_X_held 5) Q c_X_held_0 0 0 (eg_entry 3 as) [] h) : eg_Runs n_X_held as h Q := eg_begin2 (d := m_X_held) rfl (by decide) y_X_held_0 q_X_held hf hw
/-! ===== X_missOf ===== -/
def c_X_missOf_48 : List eg_I := .inl (48, 1, .lreturn, 0, 0) :: []
def c_X_missOf_45 : List eg_I := .inr (45, 1, 232, n_Frac_side, 1, 4, 0, 0) :: c_X_missOf_48
def c_X_missOf_44 : List eg_I := .inl (44, 1, .iload 2, 0, 0) :: c_X_missOf_45
def c_X_missOf_41 : List eg_I := .inl (41, 3, .getfield 228, 2, 2) :: c_X_missOf_44
def c_X_missOf_40 : List eg_I := .inl (40, 1, .aaload, 0, 0) :: c_X_missOf_41
def c_X_missOf_39 : List eg_I := .inl (39, 1, .iload 1, 0, 0) :: c_X_missOf_40
def c_X_missOf_36 : List eg_I := .inl (36, 3, .getfield 23, 11, 2) :: c_X_missOf_39
def c_X_missOf_35 : List eg_I := .inl (35, 1, .aload 0, 0, 0) :: c_X_missOf_36
def c_X_missOf_34 : List eg_I := .inl (34, 1, .lreturn, 0, 0) :: []
def c_X_missOf_31 : List eg_I := .inr (31, 1, 86, n_X_found, 1, 11, 0, 0) :: c_X_missOf_34
def c_X_missOf_28 : List eg_I := .inl (28, 3, .sipush (-1000000000000000006), 158, 0) :: c_X_missOf_31
def c_X_missOf_27 : List eg_I := .inl (27, 1, .aload 0, 0, 0) :: c_X_missOf_28
def c_X_missOf_24 : List eg_I := .inl (24, 3, .ifCond .ne (11), 35, 0) :: c_X_missOf_27
def c_X_missOf_21 : List eg_I := .inr (21, 1, 218, n_Fig_isOne, 0, 2, 0, 0) :: c_X_missOf_24
def c_X_missOf_20 : List eg_I := .inl (20, 1, .aaload, 0, 0) :: c_X_missOf_21
def c_X_missOf_19 : List eg_I := .inl (19, 1, .iload 1, 0, 0) :: c_X_missOf_20
def c_X_missOf_16 : List eg_I := .inl (16, 3, .getfield 23, 11, 2) :: c_X_missOf_19
def c_X_missOf_15 : List eg_I := .inl (15, 1, .aload 0, 0, 0) :: c_X_missOf_16
def c_X_missOf_14 : List eg_I := .inl (14, 1, .lreturn, 0, 0) :: []
def c_X_missOf_11 : List eg_I := .inr (11, 1, 86, n_X_found, 1, 11, 0, 0) :: c_X_missOf_14
def c_X_missOf_8 : List eg_I := .inl (8, 3, .sipush (-1000000000000000001), 84, 0) :: c_X_missOf_11
def c_X_missOf_7 : List eg_I := .inl (7, 1, .aload 0, 0, 0) :: c_X_missOf_8
def c_X_missOf_4 : List eg_I := .inl (4, 3, .ifCond .ne (11), 15, 0) :: c_X_missOf_7
def c_X_missOf_1 : List eg_I := .inr (1, 0, 202, n_X_isFigure, 1, 11, 0, 0) :: c_X_missOf_4
def c_X_missOf_0 : List eg_I := .inl (0, 1, .iload 1, 0, 0) :: c_X_missOf_1
section
variable {rm : Room} {K : Nat → Nat → Nat → eg_Lo → List Value → List eg_E → Prop} {Q : Option Value → List eg_E → Prop} {kc ks : Nat} {loc : eg_Lo} {st : List Value} {h : List eg_E}
theorem s_X_missOf_0 {x : Int32} {l0 : Option Value} {l : eg_Lo} : wps rm K Q c_X_missOf_0 kc ks (l0 :: some (.int x) :: l) (st) h = wps rm K Q c_X_missOf_1 kc ks (l0 :: some (.int x) :: l) (.int x :: st) h := gk_iload rfl
theorem s_X_missOf_1  {a1 : Value} : wps rm K Q c_X_missOf_1 kc ks loc (a1 :: st) h = (st.length ≤ 4 ∧ eg_Cs n_X_isFigure [a1] h (fun v h9 => wps rm K Q c_X_missOf_4 kc ks loc (v.toList ++ st) h9)) := eg_c0_1
theorem s_X_missOf_4 {x : Int32} : wps rm K Q c_X_missOf_4 kc ks loc (.int x :: st) h = ((¬ x = 0 → K 15 kc ks loc st h) ∧ (x = 0 → wps rm K Q c_X_missOf_7 kc ks loc (st) h)) := gk_if1_ne
theorem s_X_missOf_7 {x : Nat} {l : eg_Lo} : wps rm K Q c_X_missOf_7 kc ks (some (.ref x) :: l) (st) h = wps rm K Q c_X_missOf_8 kc ks (some (.ref x) :: l) (.ref x :: st) h := gk_aload rfl
theorem s_X_missOf_8  : wps rm K Q c_X_missOf_8 kc ks loc (st) h = wps rm K Q c_X_missOf_11 kc ks loc (.long (-1000000000000000001) :: st) h := gk_lc (by decide)
theorem s_X_missOf_11  {a1 : Value} {x : Nat} : wps rm K Q c_X_missOf_11 kc ks loc (a1 :: .ref (x + 1) :: st) h = (eg_cls h x 11 ∧ st.length ≤ 4 ∧ eg_Cs n_X_found (.ref (x + 1) :: [a1]) h (fun v h9 => wps rm K Q c_X_missOf_14 kc ks loc (v.toList ++ st) h9)) := eg_c1_1
theorem s_X_missOf_14 {x : Int64} : wps rm K Q c_X_missOf_14 kc ks loc ([.long x]) h = (kc = rm.cells ∧ Q (some (.long x)) h) := gk_lret
theorem s_X_missOf_15 {x : Nat} {l : eg_Lo} : wps rm K Q c_X_missOf_15 kc ks (some (.ref x) :: l) (st) h = wps rm K Q c_X_missOf_16 kc ks (some (.ref x) :: l) (.ref x :: st) h := gk_aload rfl
theorem s_X_missOf_16 {x : Nat} : wps rm K Q c_X_missOf_16 kc ks loc (.ref (x + 1) :: st) h = eg_gf h x 11 2 (fun v => wps rm K Q c_X_missOf_19 kc ks loc (v :: st) h) := gk_gf
theorem s_X_missOf_19 {x : Int32} {l0 : Option Value} {l : eg_Lo} : wps rm K Q c_X_missOf_19 kc ks (l0 :: some (.int x) :: l) (st) h = wps rm K Q c_X_missOf_20 kc ks (l0 :: some (.int x) :: l) (.int x :: st) h := gk_iload rfl
theorem s_X_missOf_20 {x : Nat} {i : Int32} : wps rm K Q c_X_missOf_20 kc ks loc (.int i :: .ref (x + 1) :: st) h = eg_aa h x i (fun v => wps rm K Q c_X_missOf_21 kc ks loc (v :: st) h) := gk_aaload
theorem s_X_missOf_21  {x : Nat} : wps rm K Q c_X_missOf_21 kc ks loc (.ref (x + 1) :: st) h = (eg_cls h x 2 ∧ st.length ≤ 4 ∧ eg_Cs n_Fig_isOne (.ref (x + 1) :: []) h (fun v h9 => wps rm K Q c_X_missOf_24 kc ks loc (v.toList ++ st) h9)) := eg_c1_0
theorem s_X_missOf_24 {x : Int32} : wps rm K Q c_X_missOf_24 kc ks loc (.int x :: st) h = ((¬ x = 0 → K 35 kc ks loc st h) ∧ (x = 0 → wps rm K Q c_X_missOf_27 kc ks loc (st) h)) := gk_if1_ne
theorem s_X_missOf_27 {x : Nat} {l : eg_Lo} : wps rm K Q c_X_missOf_27 kc ks (some (.ref x) :: l) (st) h = wps rm K Q c_X_missOf_28 kc ks (some (.ref x) :: l) (.ref x :: st) h := gk_aload rfl
theorem s_X_missOf_28  : wps rm K Q c_X_missOf_28 kc ks loc (st) h = wps rm K Q c_X_missOf_31 kc ks loc (.long (-1000000000000000006) :: st) h := gk_lc (by decide)
theorem s_X_missOf_31  {a1 : Value} {x : Nat} : wps rm K Q c_X_missOf_31 kc ks loc (a1 :: .ref (x + 1) :: st) h = (eg_cls h x 11 ∧ st.length ≤ 4 ∧ eg_Cs n_X_found (.ref (x + 1) :: [a1]) h (fun v h9 => wps rm K Q c_X_missOf_34 kc ks loc (v.toList ++ st) h9)) := eg_c1_1
theorem s_X_missOf_34 {x : Int64} : wps rm K Q c_X_missOf_34 kc ks loc ([.long x]) h = (kc = rm.cells ∧ Q (some (.long x)) h) := gk_lret
theorem s_X_missOf_35 {x : Nat} {l : eg_Lo} : wps rm K Q c_X_missOf_35 kc ks (some (.ref x) :: l) (st) h = wps rm K Q c_X_missOf_36 kc ks (some (.ref x) :: l) (.ref x :: st) h := gk_aload rfl
theorem s_X_missOf_36 {x : Nat} : wps rm K Q c_X_missOf_36 kc ks loc (.ref (x + 1) :: st) h = eg_gf h x 11 2 (fun v => wps rm K Q c_X_missOf_39 kc ks loc (v :: st) h) := gk_gf
theorem s_X_missOf_39 {x : Int32} {l0 : Option Value} {l : eg_Lo} : wps rm K Q c_X_missOf_39 kc ks (l0 :: some (.int x) :: l) (st) h = wps rm K Q c_X_missOf_40 kc ks (l0 :: some (.int x) :: l) (.int x :: st) h := gk_iload rfl
theorem s_X_missOf_40 {x : Nat} {i : Int32} : wps rm K Q c_X_missOf_40 kc ks loc (.int i :: .ref (x + 1) :: st) h = eg_aa h x i (fun v => wps rm K Q c_X_missOf_41 kc ks loc (v :: st) h) := gk_aaload
theorem s_X_missOf_41 {x : Nat} : wps rm K Q c_X_missOf_41 kc ks loc (.ref (x + 1) :: st) h = eg_gf h x 2 2 (fun v => wps rm K Q c_X_missOf_44 kc ks loc (v :: st) h) := gk_gf
theorem s_X_missOf_44 {x : Int32} {l0 l1 : Option Value} {l : eg_Lo} : wps rm K Q c_X_missOf_44 kc ks (l0 :: l1 :: some (.int x) :: l) (st) h = wps rm K Q c_X_missOf_45 kc ks (l0 :: l1 :: some (.int x) :: l) (.int x :: st) h := gk_iload rfl
theorem s_X_missOf_45  {a1 : Value} {x : Nat} : wps rm K Q c_X_missOf_45 kc ks loc (a1 :: .ref (x + 1) :: st) h = (eg_cls h x 4 ∧ st.length ≤ 4 ∧ eg_Cs n_Frac_side (.ref (x + 1) :: [a1]) h (fun v h9 => wps rm K Q c_X_missOf_48 kc ks loc (v.toList ++ st) h9)) := eg_c1_1
theorem s_X_missOf_48 {x : Int64} : wps rm K Q c_X_missOf_48 kc ks loc ([.long x]) h = (kc = rm.cells ∧ Q (some (.long x)) h) := gk_lret
def T_X_missOf : List (Nat × List eg_I) := [(15, c_X_missOf_15), (35, c_X_missOf_35)]
theorem j_X_missOf_15 {R : Nat → Nat → Nat → eg_Lo → List Value → List eg_E → Prop} {f pc0 : Nat} : eg_run rm R Q T_X_missOf (f + 1) 15 kc ks loc st h = wps rm (eg_run rm R Q T_X_missOf f) Q c_X_missOf_15 kc ks loc st h := rfl
theorem j_X_missOf_35 {R : Nat → Nat → Nat → eg_Lo → List Value → List eg_E → Prop} {f pc0 : Nat} : eg_run rm R Q T_X_missOf (f + 1) 35 kc ks loc st h = wps rm (eg_run rm R Q T_X_missOf f) Q c_X_missOf_35 kc ks loc st h := rfl
end
theorem y_X_missOf_0 : eg_seq m_X_missOf 0 c_X_missOf_0 = true := by decide +kernel
theorem y_X_missOf_15 : eg_seq m_X_missOf 15 c_X_missOf_15 = true := by decide +kernel
theorem y_X_missOf_35 : eg_seq m_X_missOf 35 c_X_missOf_35 = true := by decide +kernel
theorem q_X_missOf : ∀ q ∈ T_X_missOf, eg_seq m_X_missOf q.1 q.2 = true := by
  intro q hq
  simp only [T_X_missOf, List.mem_cons, List.not_mem_nil, or_false] at hq
  rcases hq with rfl | rfl
  · exact y_X_missOf_15
  · exact y_X_missOf_35
theorem b_X_missOf {as : List Value} {h : List eg_E} {Q : Option Value → List eg_E → Prop} (hf : (eg_fl as).length ≤ 3) (hw : wps (eg_rm m_X_missOf) (eg_run (eg_rm m_X_missOf) (eg_R m_X_missOf Q (h.length + 0)) Q T_X_missOf 4) Q c_X_missOf_0 0 0 (eg_entry 3 as) [] h) : eg_Runs n_X_missOf as h Q := eg_begin2 (d := m_X_missOf) rfl (by decide) y_X_missOf_0 q_X_missOf hf hw
/-! ===== X_way ===== -/
def c_X_way_76 : List eg_I := .inl (76, 1, .lreturn, 0, 0) :: []
def c_X_way_75 : List eg_I := .inl (75, 1, .laload, 0, 0) :: c_X_way_76
def c_X_way_74 : List eg_I := .inl (74, 1, .iload 2, 0, 0) :: c_X_way_75
def c_X_way_71 : List eg_I := .inl (71, 3, .getfield 238, 2, 1) :: c_X_way_74
def c_X_way_70 : List eg_I := .inl (70, 1, .aaload, 0, 0) :: c_X_way_71
def c_X_way_69 : List eg_I := .inl (69, 1, .iload 1, 0, 0) :: c_X_way_70
def c_X_way_66 : List eg_I := .inl (66, 3, .getfield 23, 11, 2) :: c_X_way_69
def c_X_way_65 : List eg_I := .inl (65, 1, .aload 0, 0, 0) :: c_X_way_66
def c_X_way_64 : List eg_I := .inl (64, 1, .lreturn, 0, 0) :: []
def c_X_way_61 : List eg_I := .inr (61, 1, 86, n_X_found, 1, 11, 0, 0) :: c_X_way_64
def c_X_way_58 : List eg_I := .inl (58, 3, .sipush (-1000000000000000004), 183, 0) :: c_X_way_61
def c_X_way_57 : List eg_I := .inl (57, 1, .aload 0, 0, 0) :: c_X_way_58
def c_X_way_54 : List eg_I := .inl (54, 3, .ifCond .ne (11), 65, 0) :: c_X_way_57
def c_X_way_51 : List eg_I := .inr (51, 1, 222, n_Fig_isOfKind, 1, 2, 0, 0) :: c_X_way_54
def c_X_way_50 : List eg_I := .inl (50, 1, .iconst (1), 0, 0) :: c_X_way_51
def c_X_way_49 : List eg_I := .inl (49, 1, .aaload, 0, 0) :: c_X_way_50
def c_X_way_48 : List eg_I := .inl (48, 1, .iload 1, 0, 0) :: c_X_way_49
def c_X_way_45 : List eg_I := .inl (45, 3, .getfield 23, 11, 2) :: c_X_way_48
def c_X_way_44 : List eg_I := .inl (44, 1, .aload 0, 0, 0) :: c_X_way_45
def c_X_way_43 : List eg_I := .inl (43, 1, .lreturn, 0, 0) :: []
def c_X_way_40 : List eg_I := .inr (40, 1, 86, n_X_found, 1, 11, 0, 0) :: c_X_way_43
def c_X_way_37 : List eg_I := .inl (37, 3, .sipush (-1000000000000000006), 158, 0) :: c_X_way_40
def c_X_way_36 : List eg_I := .inl (36, 1, .aload 0, 0, 0) :: c_X_way_37
def c_X_way_33 : List eg_I := .inl (33, 3, .ifCond .ne (11), 44, 0) :: c_X_way_36
def c_X_way_30 : List eg_I := .inr (30, 1, 218, n_Fig_isOne, 0, 2, 0, 0) :: c_X_way_33
def c_X_way_29 : List eg_I := .inl (29, 1, .aaload, 0, 0) :: c_X_way_30
def c_X_way_28 : List eg_I := .inl (28, 1, .iload 1, 0, 0) :: c_X_way_29
def c_X_way_25 : List eg_I := .inl (25, 3, .getfield 23, 11, 2) :: c_X_way_28
def c_X_way_24 : List eg_I := .inl (24, 1, .aload 0, 0, 0) :: c_X_way_25
def c_X_way_23 : List eg_I := .inl (23, 1, .lreturn, 0, 0) :: []
def c_X_way_20 : List eg_I := .inr (20, 1, 86, n_X_found, 1, 11, 0, 0) :: c_X_way_23
def c_X_way_17 : List eg_I := .inl (17, 3, .sipush (-1000000000000000001), 84, 0) :: c_X_way_20
def c_X_way_16 : List eg_I := .inl (16, 1, .aload 0, 0, 0) :: c_X_way_17
def c_X_way_13 : List eg_I := .inl (13, 3, .ifCond .ne (11), 24, 0) :: c_X_way_16
def c_X_way_10 : List eg_I := .inr (10, 0, 80, n_X_isWithin, 3, 11, 0, 0) :: c_X_way_13
def c_X_way_9 : List eg_I := .inl (9, 1, .iconst (2), 0, 0) :: c_X_way_10
def c_X_way_8 : List eg_I := .inl (8, 1, .iconst (0), 0, 0) :: c_X_way_9
def c_X_way_7 : List eg_I := .inl (7, 1, .iload 2, 0, 0) :: c_X_way_8
def c_X_way_4 : List eg_I := .inl (4, 3, .ifCond .eq (12), 16, 0) :: c_X_way_7
def c_X_way_1 : List eg_I := .inr (1, 0, 202, n_X_isFigure, 1, 11, 0, 0) :: c_X_way_4
def c_X_way_0 : List eg_I := .inl (0, 1, .iload 1, 0, 0) :: c_X_way_1
section
variable {rm : Room} {K : Nat → Nat → Nat → eg_Lo → List Value → List eg_E → Prop} {Q : Option Value → List eg_E → Prop} {kc ks : Nat} {loc : eg_Lo} {st : List Value} {h : List eg_E}
theorem s_X_way_0 {x : Int32} {l0 : Option Value} {l : eg_Lo} : wps rm K Q c_X_way_0 kc ks (l0 :: some (.int x) :: l) (st) h = wps rm K Q c_X_way_1 kc ks (l0 :: some (.int x) :: l) (.int x :: st) h := gk_iload rfl
theorem s_X_way_1  {a1 : Value} : wps rm K Q c_X_way_1 kc ks loc (a1 :: st) h = (st.length ≤ 4 ∧ eg_Cs n_X_isFigure [a1] h (fun v h9 => wps rm K Q c_X_way_4 kc ks loc (v.toList ++ st) h9)) := eg_c0_1
theorem s_X_way_4 {x : Int32} : wps rm K Q c_X_way_4 kc ks loc (.int x :: st) h = ((x = 0 → K 16 kc ks loc st h) ∧ (¬ x = 0 → wps rm K Q c_X_way_7 kc ks loc (st) h)) := gk_if1_eq
theorem s_X_way_7 {x : Int32} {l0 l1 : Option Value} {l : eg_Lo} : wps rm K Q c_X_way_7 kc ks (l0 :: l1 :: some (.int x) :: l) (st) h = wps rm K Q c_X_way_8 kc ks (l0 :: l1 :: some (.int x) :: l) (.int x :: st) h := gk_iload rfl
theorem s_X_way_8  : wps rm K Q c_X_way_8 kc ks loc (st) h = wps rm K Q c_X_way_9 kc ks loc (.int (0) :: st) h := gk_ic (by decide)
theorem s_X_way_9  : wps rm K Q c_X_way_9 kc ks loc (st) h = wps rm K Q c_X_way_10 kc ks loc (.int (2) :: st) h := gk_ic (by decide)
theorem s_X_way_10  {a1 : Value} {a2 : Value} {a3 : Value} : wps rm K Q c_X_way_10 kc ks loc (a3 :: a2 :: a1 :: st) h = (st.length ≤ 4 ∧ eg_Cs n_X_isWithin [a1, a2, a3] h (fun v h9 => wps rm K Q c_X_way_13 kc ks loc (v.toList ++ st) h9)) := eg_c0_3
theorem s_X_way_13 {x : Int32} : wps rm K Q c_X_way_13 kc ks loc (.int x :: st) h = ((¬ x = 0 → K 24 kc ks loc st h) ∧ (x = 0 → wps rm K Q c_X_way_16 kc ks loc (st) h)) := gk_if1_ne
theorem s_X_way_16 {x : Nat} {l : eg_Lo} : wps rm K Q c_X_way_16 kc ks (some (.ref x) :: l) (st) h = wps rm K Q c_X_way_17 kc ks (some (.ref x) :: l) (.ref x :: st) h := gk_aload rfl
theorem s_X_way_17  : wps rm K Q c_X_way_17 kc ks loc (st) h = wps rm K Q c_X_way_20 kc ks loc (.long (-1000000000000000001) :: st) h := gk_lc (by decide)
theorem s_X_way_20  {a1 : Value} {x : Nat} : wps rm K Q c_X_way_20 kc ks loc (a1 :: .ref (x + 1) :: st) h = (eg_cls h x 11 ∧ st.length ≤ 4 ∧ eg_Cs n_X_found (.ref (x + 1) :: [a1]) h (fun v h9 => wps rm K Q c_X_way_23 kc ks loc (v.toList ++ st) h9)) := eg_c1_1
theorem s_X_way_23 {x : Int64} : wps rm K Q c_X_way_23 kc ks loc ([.long x]) h = (kc = rm.cells ∧ Q (some (.long x)) h) := gk_lret
theorem s_X_way_24 {x : Nat} {l : eg_Lo} : wps rm K Q c_X_way_24 kc ks (some (.ref x) :: l) (st) h = wps rm K Q c_X_way_25 kc ks (some (.ref x) :: l) (.ref x :: st) h := gk_aload rfl
theorem s_X_way_25 {x : Nat} : wps rm K Q c_X_way_25 kc ks loc (.ref (x + 1) :: st) h = eg_gf h x 11 2 (fun v => wps rm K Q c_X_way_28 kc ks loc (v :: st) h) := gk_gf
theorem s_X_way_28 {x : Int32} {l0 : Option Value} {l : eg_Lo} : wps rm K Q c_X_way_28 kc ks (l0 :: some (.int x) :: l) (st) h = wps rm K Q c_X_way_29 kc ks (l0 :: some (.int x) :: l) (.int x :: st) h := gk_iload rfl
theorem s_X_way_29 {x : Nat} {i : Int32} : wps rm K Q c_X_way_29 kc ks loc (.int i :: .ref (x + 1) :: st) h = eg_aa h x i (fun v => wps rm K Q c_X_way_30 kc ks loc (v :: st) h) := gk_aaload
theorem s_X_way_30  {x : Nat} : wps rm K Q c_X_way_30 kc ks loc (.ref (x + 1) :: st) h = (eg_cls h x 2 ∧ st.length ≤ 4 ∧ eg_Cs n_Fig_isOne (.ref (x + 1) :: []) h (fun v h9 => wps rm K Q c_X_way_33 kc ks loc (v.toList ++ st) h9)) := eg_c1_0
theorem s_X_way_33 {x : Int32} : wps rm K Q c_X_way_33 kc ks loc (.int x :: st) h = ((¬ x = 0 → K 44 kc ks loc st h) ∧ (x = 0 → wps rm K Q c_X_way_36 kc ks loc (st) h)) := gk_if1_ne
theorem s_X_way_36 {x : Nat} {l : eg_Lo} : wps rm K Q c_X_way_36 kc ks (some (.ref x) :: l) (st) h = wps rm K Q c_X_way_37 kc ks (some (.ref x) :: l) (.ref x :: st) h := gk_aload rfl
theorem s_X_way_37  : wps rm K Q c_X_way_37 kc ks loc (st) h = wps rm K Q c_X_way_40 kc ks loc (.long (-1000000000000000006) :: st) h := gk_lc (by decide)
theorem s_X_way_40  {a1 : Value} {x : Nat} : wps rm K Q c_X_way_40 kc ks loc (a1 :: .ref (x + 1) :: st) h = (eg_cls h x 11 ∧ st.length ≤ 4 ∧ eg_Cs n_X_found (.ref (x + 1) :: [a1]) h (fun v h9 => wps rm K Q c_X_way_43 kc ks loc (v.toList ++ st) h9)) := eg_c1_1
theorem s_X_way_43 {x : Int64} : wps rm K Q c_X_way_43 kc ks loc ([.long x]) h = (kc = rm.cells ∧ Q (some (.long x)) h) := gk_lret
theorem s_X_way_44 {x : Nat} {l : eg_Lo} : wps rm K Q c_X_way_44 kc ks (some (.ref x) :: l) (st) h = wps rm K Q c_X_way_45 kc ks (some (.ref x) :: l) (.ref x :: st) h := gk_aload rfl
theorem s_X_way_45 {x : Nat} : wps rm K Q c_X_way_45 kc ks loc (.ref (x + 1) :: st) h = eg_gf h x 11 2 (fun v => wps rm K Q c_X_way_48 kc ks loc (v :: st) h) := gk_gf
theorem s_X_way_48 {x : Int32} {l0 : Option Value} {l : eg_Lo} : wps rm K Q c_X_way_48 kc ks (l0 :: some (.int x) :: l) (st) h = wps rm K Q c_X_way_49 kc ks (l0 :: some (.int x) :: l) (.int x :: st) h := gk_iload rfl
theorem s_X_way_49 {x : Nat} {i : Int32} : wps rm K Q c_X_way_49 kc ks loc (.int i :: .ref (x + 1) :: st) h = eg_aa h x i (fun v => wps rm K Q c_X_way_50 kc ks loc (v :: st) h) := gk_aaload
theorem s_X_way_50  : wps rm K Q c_X_way_50 kc ks loc (st) h = wps rm K Q c_X_way_51 kc ks loc (.int (1) :: st) h := gk_ic (by decide)
theorem s_X_way_51  {a1 : Value} {x : Nat} : wps rm K Q c_X_way_51 kc ks loc (a1 :: .ref (x + 1) :: st) h = (eg_cls h x 2 ∧ st.length ≤ 4 ∧ eg_Cs n_Fig_isOfKind (.ref (x + 1) :: [a1]) h (fun v h9 => wps rm K Q c_X_way_54 kc ks loc (v.toList ++ st) h9)) := eg_c1_1
theorem s_X_way_54 {x : Int32} : wps rm K Q c_X_way_54 kc ks loc (.int x :: st) h = ((¬ x = 0 → K 65 kc ks loc st h) ∧ (x = 0 → wps rm K Q c_X_way_57 kc ks loc (st) h)) := gk_if1_ne
theorem s_X_way_57 {x : Nat} {l : eg_Lo} : wps rm K Q c_X_way_57 kc ks (some (.ref x) :: l) (st) h = wps rm K Q c_X_way_58 kc ks (some (.ref x) :: l) (.ref x :: st) h := gk_aload rfl
theorem s_X_way_58  : wps rm K Q c_X_way_58 kc ks loc (st) h = wps rm K Q c_X_way_61 kc ks loc (.long (-1000000000000000004) :: st) h := gk_lc (by decide)
theorem s_X_way_61  {a1 : Value} {x : Nat} : wps rm K Q c_X_way_61 kc ks loc (a1 :: .ref (x + 1) :: st) h = (eg_cls h x 11 ∧ st.length ≤ 4 ∧ eg_Cs n_X_found (.ref (x + 1) :: [a1]) h (fun v h9 => wps rm K Q c_X_way_64 kc ks loc (v.toList ++ st) h9)) := eg_c1_1
theorem s_X_way_64 {x : Int64} : wps rm K Q c_X_way_64 kc ks loc ([.long x]) h = (kc = rm.cells ∧ Q (some (.long x)) h) := gk_lret
theorem s_X_way_65 {x : Nat} {l : eg_Lo} : wps rm K Q c_X_way_65 kc ks (some (.ref x) :: l) (st) h = wps rm K Q c_X_way_66 kc ks (some (.ref x) :: l) (.ref x :: st) h := gk_aload rfl
theorem s_X_way_66 {x : Nat} : wps rm K Q c_X_way_66 kc ks loc (.ref (x + 1) :: st) h = eg_gf h x 11 2 (fun v => wps rm K Q c_X_way_69 kc ks loc (v :: st) h) := gk_gf
theorem s_X_way_69 {x : Int32} {l0 : Option Value} {l : eg_Lo} : wps rm K Q c_X_way_69 kc ks (l0 :: some (.int x) :: l) (st) h = wps rm K Q c_X_way_70 kc ks (l0 :: some (.int x) :: l) (.int x :: st) h := gk_iload rfl
theorem s_X_way_70 {x : Nat} {i : Int32} : wps rm K Q c_X_way_70 kc ks loc (.int i :: .ref (x + 1) :: st) h = eg_aa h x i (fun v => wps rm K Q c_X_way_71 kc ks loc (v :: st) h) := gk_aaload
theorem s_X_way_71 {x : Nat} : wps rm K Q c_X_way_71 kc ks loc (.ref (x + 1) :: st) h = eg_gf h x 2 1 (fun v => wps rm K Q c_X_way_74 kc ks loc (v :: st) h) := gk_gf
theorem s_X_way_74 {x : Int32} {l0 l1 : Option Value} {l : eg_Lo} : wps rm K Q c_X_way_74 kc ks (l0 :: l1 :: some (.int x) :: l) (st) h = wps rm K Q c_X_way_75 kc ks (l0 :: l1 :: some (.int x) :: l) (.int x :: st) h := gk_iload rfl
theorem s_X_way_75 {x : Nat} {i : Int32} : wps rm K Q c_X_way_75 kc ks loc (.int i :: .ref (x + 1) :: st) h = eg_la h x i (fun v => wps rm K Q c_X_way_76 kc ks loc (.long v :: st) h) := gk_laload
theorem s_X_way_76 {x : Int64} : wps rm K Q c_X_way_76 kc ks loc ([.long x]) h = (kc = rm.cells ∧ Q (some (.long x)) h) := gk_lret
def T_X_way : List (Nat × List eg_I) := [(16, c_X_way_16), (24, c_X_way_24), (44, c_X_way_44), (65, c_X_way_65)]
theorem j_X_way_16 {R : Nat → Nat → Nat → eg_Lo → List Value → List eg_E → Prop} {f pc0 : Nat} : eg_run rm R Q T_X_way (f + 1) 16 kc ks loc st h = wps rm (eg_run rm R Q T_X_way f) Q c_X_way_16 kc ks loc st h := rfl
theorem j_X_way_24 {R : Nat → Nat → Nat → eg_Lo → List Value → List eg_E → Prop} {f pc0 : Nat} : eg_run rm R Q T_X_way (f + 1) 24 kc ks loc st h = wps rm (eg_run rm R Q T_X_way f) Q c_X_way_24 kc ks loc st h := rfl
theorem j_X_way_44 {R : Nat → Nat → Nat → eg_Lo → List Value → List eg_E → Prop} {f pc0 : Nat} : eg_run rm R Q T_X_way (f + 1) 44 kc ks loc st h = wps rm (eg_run rm R Q T_X_way f) Q c_X_way_44 kc ks loc st h := rfl
theorem j_X_way_65 {R : Nat → Nat → Nat → eg_Lo → List Value → List eg_E → Prop} {f pc0 : Nat} : eg_run rm R Q T_X_way (f + 1) 65 kc ks loc st h = wps rm (eg_run rm R Q T_X_way f) Q c_X_way_65 kc ks loc st h := rfl
end
theorem y_X_way_0 : eg_seq m_X_way 0 c_X_way_0 = true := by decide +kernel
theorem y_X_way_24 : eg_seq m_X_way 24 c_X_way_24 = true := by decide +kernel
theorem y_X_way_44 : eg_seq m_X_way 44 c_X_way_44 = true := by decide +kernel
theorem y_X_way_65 : eg_seq m_X_way 65 c_X_way_65 = true := by decide +kernel
theorem q_X_way : ∀ q ∈ T_X_way, eg_seq m_X_way q.1 q.2 = true := by
  intro q hq
  simp only [T_X_way, List.mem_cons, List.not_mem_nil, or_false] at hq
  rcases hq with rfl | rfl | rfl | rfl
  · exact (eg_seq_drop y_X_way_0 8 : eg_seq m_X_way 16 c_X_way_16 = true)
  · exact y_X_way_24
  · exact y_X_way_44
  · exact y_X_way_65
theorem b_X_way {as : List Value} {h : List eg_E} {Q : Option Value → List eg_E → Prop} (hf : (eg_fl as).length ≤ 3) (hw : wps (eg_rm m_X_way) (eg_run (eg_rm m_X_way) (eg_R m_X_way Q (h.length + 0)) Q T_X_way 6) Q c_X_way_0 0 0 (eg_entry 3 as) [] h) : eg_Runs n_X_way as h Q := eg_begin2 (d := m_X_way) rfl (by decide) y_X_way_0 q_X_way hf hw
/-! ===== X_middle ===== -/
def c_X_middle_85 : List eg_I := .inl (85, 1, .lreturn, 0, 0) :: []
def c_X_middle_82 : List eg_I := .inr (82, 1, 232, n_Frac_side, 1, 4, 0, 0) :: c_X_middle_85
def c_X_middle_81 : List eg_I := .inl (81, 1, .iload 3, 0, 0) :: c_X_middle_82
def c_X_middle_78 : List eg_I := .inl (78, 3, .getfield 245, 2, 3) :: c_X_middle_81
def c_X_middle_77 : List eg_I := .inl (77, 1, .aaload, 0, 0) :: c_X_middle_78
def c_X_middle_76 : List eg_I := .inl (76, 1, .iload 1, 0, 0) :: c_X_middle_77
def c_X_middle_73 : List eg_I := .inl (73, 3, .getfield 23, 11, 2) :: c_X_middle_76
def c_X_middle_72 : List eg_I := .inl (72, 1, .aload 0, 0, 0) :: c_X_middle_73
def c_X_middle_69 : List eg_I := .inl (69, 3, .goto (12), 81, 0) :: []
def c_X_middle_66 : List eg_I := .inl (66, 3, .getfield 242, 2, 4) :: c_X_middle_69
def c_X_middle_65 : List eg_I := .inl (65, 1, .aaload, 0, 0) :: c_X_middle_66
def c_X_middle_64 : List eg_I := .inl (64, 1, .iload 1, 0, 0) :: c_X_middle_65
def c_X_middle_61 : List eg_I := .inl (61, 3, .getfield 23, 11, 2) :: c_X_middle_64
def c_X_middle_60 : List eg_I := .inl (60, 1, .aload 0, 0, 0) :: c_X_middle_61
def c_X_middle_57 : List eg_I := .inl (57, 3, .ifCond .eq (15), 72, 0) :: c_X_middle_60
def c_X_middle_56 : List eg_I := .inl (56, 1, .iload 2, 0, 0) :: c_X_middle_57
def c_X_middle_55 : List eg_I := .inl (55, 1, .lreturn, 0, 0) :: []
def c_X_middle_52 : List eg_I := .inr (52, 1, 86, n_X_found, 1, 11, 0, 0) :: c_X_middle_55
def c_X_middle_49 : List eg_I := .inl (49, 3, .sipush (-1000000000000000004), 183, 0) :: c_X_middle_52
def c_X_middle_48 : List eg_I := .inl (48, 1, .aload 0, 0, 0) :: c_X_middle_49
def c_X_middle_45 : List eg_I := .inl (45, 3, .ifCond .ne (11), 56, 0) :: c_X_middle_48
def c_X_middle_42 : List eg_I := .inr (42, 1, 222, n_Fig_isOfKind, 1, 2, 0, 0) :: c_X_middle_45
def c_X_middle_41 : List eg_I := .inl (41, 1, .iconst (4), 0, 0) :: c_X_middle_42
def c_X_middle_40 : List eg_I := .inl (40, 1, .aaload, 0, 0) :: c_X_middle_41
def c_X_middle_39 : List eg_I := .inl (39, 1, .iload 1, 0, 0) :: c_X_middle_40
def c_X_middle_36 : List eg_I := .inl (36, 3, .getfield 23, 11, 2) :: c_X_middle_39
def c_X_middle_35 : List eg_I := .inl (35, 1, .aload 0, 0, 0) :: c_X_middle_36
def c_X_middle_34 : List eg_I := .inl (34, 1, .lreturn, 0, 0) :: []
def c_X_middle_31 : List eg_I := .inr (31, 1, 86, n_X_found, 1, 11, 0, 0) :: c_X_middle_34
def c_X_middle_28 : List eg_I := .inl (28, 3, .sipush (-1000000000000000006), 158, 0) :: c_X_middle_31
def c_X_middle_27 : List eg_I := .inl (27, 1, .aload 0, 0, 0) :: c_X_middle_28
def c_X_middle_24 : List eg_I := .inl (24, 3, .ifCond .ne (11), 35, 0) :: c_X_middle_27
def c_X_middle_21 : List eg_I := .inr (21, 1, 218, n_Fig_isOne, 0, 2, 0, 0) :: c_X_middle_24
def c_X_middle_20 : List eg_I := .inl (20, 1, .aaload, 0, 0) :: c_X_middle_21
def c_X_middle_19 : List eg_I := .inl (19, 1, .iload 1, 0, 0) :: c_X_middle_20
def c_X_middle_16 : List eg_I := .inl (16, 3, .getfield 23, 11, 2) :: c_X_middle_19
def c_X_middle_15 : List eg_I := .inl (15, 1, .aload 0, 0, 0) :: c_X_middle_16
def c_X_middle_14 : List eg_I := .inl (14, 1, .lreturn, 0, 0) :: []
def c_X_middle_11 : List eg_I := .inr (11, 1, 86, n_X_found, 1, 11, 0, 0) :: c_X_middle_14
def c_X_middle_8 : List eg_I := .inl (8, 3, .sipush (-1000000000000000001), 84, 0) :: c_X_middle_11
def c_X_middle_7 : List eg_I := .inl (7, 1, .aload 0, 0, 0) :: c_X_middle_8
def c_X_middle_4 : List eg_I := .inl (4, 3, .ifCond .ne (11), 15, 0) :: c_X_middle_7
def c_X_middle_1 : List eg_I := .inr (1, 0, 202, n_X_isFigure, 1, 11, 0, 0) :: c_X_middle_4
def c_X_middle_0 : List eg_I := .inl (0, 1, .iload 1, 0, 0) :: c_X_middle_1
section
variable {rm : Room} {K : Nat → Nat → Nat → eg_Lo → List Value → List eg_E → Prop} {Q : Option Value → List eg_E → Prop} {kc ks : Nat} {loc : eg_Lo} {st : List Value} {h : List eg_E}
theorem s_X_middle_0 {x : Int32} {l0 : Option Value} {l : eg_Lo} : wps rm K Q c_X_middle_0 kc ks (l0 :: some (.int x) :: l) (st) h = wps rm K Q c_X_middle_1 kc ks (l0 :: some (.int x) :: l) (.int x :: st) h := gk_iload rfl
theorem s_X_middle_1  {a1 : Value} : wps rm K Q c_X_middle_1 kc ks loc (a1 :: st) h = (st.length ≤ 4 ∧ eg_Cs n_X_isFigure [a1] h (fun v h9 => wps rm K Q c_X_middle_4 kc ks loc (v.toList ++ st) h9)) := eg_c0_1
theorem s_X_middle_4 {x : Int32} : wps rm K Q c_X_middle_4 kc ks loc (.int x :: st) h = ((¬ x = 0 → K 15 kc ks loc st h) ∧ (x = 0 → wps rm K Q c_X_middle_7 kc ks loc (st) h)) := gk_if1_ne
theorem s_X_middle_7 {x : Nat} {l : eg_Lo} : wps rm K Q c_X_middle_7 kc ks (some (.ref x) :: l) (st) h = wps rm K Q c_X_middle_8 kc ks (some (.ref x) :: l) (.ref x :: st) h := gk_aload rfl
theorem s_X_middle_8  : wps rm K Q c_X_middle_8 kc ks loc (st) h = wps rm K Q c_X_middle_11 kc ks loc (.long (-1000000000000000001) :: st) h := gk_lc (by decide)
theorem s_X_middle_11  {a1 : Value} {x : Nat} : wps rm K Q c_X_middle_11 kc ks loc (a1 :: .ref (x + 1) :: st) h = (eg_cls h x 11 ∧ st.length ≤ 4 ∧ eg_Cs n_X_found (.ref (x + 1) :: [a1]) h (fun v h9 => wps rm K Q c_X_middle_14 kc ks loc (v.toList ++ st) h9)) := eg_c1_1
theorem s_X_middle_14 {x : Int64} : wps rm K Q c_X_middle_14 kc ks loc ([.long x]) h = (kc = rm.cells ∧ Q (some (.long x)) h) := gk_lret
theorem s_X_middle_15 {x : Nat} {l : eg_Lo} : wps rm K Q c_X_middle_15 kc ks (some (.ref x) :: l) (st) h = wps rm K Q c_X_middle_16 kc ks (some (.ref x) :: l) (.ref x :: st) h := gk_aload rfl
theorem s_X_middle_16 {x : Nat} : wps rm K Q c_X_middle_16 kc ks loc (.ref (x + 1) :: st) h = eg_gf h x 11 2 (fun v => wps rm K Q c_X_middle_19 kc ks loc (v :: st) h) := gk_gf
theorem s_X_middle_19 {x : Int32} {l0 : Option Value} {l : eg_Lo} : wps rm K Q c_X_middle_19 kc ks (l0 :: some (.int x) :: l) (st) h = wps rm K Q c_X_middle_20 kc ks (l0 :: some (.int x) :: l) (.int x :: st) h := gk_iload rfl
theorem s_X_middle_20 {x : Nat} {i : Int32} : wps rm K Q c_X_middle_20 kc ks loc (.int i :: .ref (x + 1) :: st) h = eg_aa h x i (fun v => wps rm K Q c_X_middle_21 kc ks loc (v :: st) h) := gk_aaload
theorem s_X_middle_21  {x : Nat} : wps rm K Q c_X_middle_21 kc ks loc (.ref (x + 1) :: st) h = (eg_cls h x 2 ∧ st.length ≤ 4 ∧ eg_Cs n_Fig_isOne (.ref (x + 1) :: []) h (fun v h9 => wps rm K Q c_X_middle_24 kc ks loc (v.toList ++ st) h9)) := eg_c1_0
theorem s_X_middle_24 {x : Int32} : wps rm K Q c_X_middle_24 kc ks loc (.int x :: st) h = ((¬ x = 0 → K 35 kc ks loc st h) ∧ (x = 0 → wps rm K Q c_X_middle_27 kc ks loc (st) h)) := gk_if1_ne
theorem s_X_middle_27 {x : Nat} {l : eg_Lo} : wps rm K Q c_X_middle_27 kc ks (some (.ref x) :: l) (st) h = wps rm K Q c_X_middle_28 kc ks (some (.ref x) :: l) (.ref x :: st) h := gk_aload rfl
theorem s_X_middle_28  : wps rm K Q c_X_middle_28 kc ks loc (st) h = wps rm K Q c_X_middle_31 kc ks loc (.long (-1000000000000000006) :: st) h := gk_lc (by decide)
theorem s_X_middle_31  {a1 : Value} {x : Nat} : wps rm K Q c_X_middle_31 kc ks loc (a1 :: .ref (x + 1) :: st) h = (eg_cls h x 11 ∧ st.length ≤ 4 ∧ eg_Cs n_X_found (.ref (x + 1) :: [a1]) h (fun v h9 => wps rm K Q c_X_middle_34 kc ks loc (v.toList ++ st) h9)) := eg_c1_1
theorem s_X_middle_34 {x : Int64} : wps rm K Q c_X_middle_34 kc ks loc ([.long x]) h = (kc = rm.cells ∧ Q (some (.long x)) h) := gk_lret
theorem s_X_middle_35 {x : Nat} {l : eg_Lo} : wps rm K Q c_X_middle_35 kc ks (some (.ref x) :: l) (st) h = wps rm K Q c_X_middle_36 kc ks (some (.ref x) :: l) (.ref x :: st) h := gk_aload rfl
theorem s_X_middle_36 {x : Nat} : wps rm K Q c_X_middle_36 kc ks loc (.ref (x + 1) :: st) h = eg_gf h x 11 2 (fun v => wps rm K Q c_X_middle_39 kc ks loc (v :: st) h) := gk_gf
theorem s_X_middle_39 {x : Int32} {l0 : Option Value} {l : eg_Lo} : wps rm K Q c_X_middle_39 kc ks (l0 :: some (.int x) :: l) (st) h = wps rm K Q c_X_middle_40 kc ks (l0 :: some (.int x) :: l) (.int x :: st) h := gk_iload rfl
theorem s_X_middle_40 {x : Nat} {i : Int32} : wps rm K Q c_X_middle_40 kc ks loc (.int i :: .ref (x + 1) :: st) h = eg_aa h x i (fun v => wps rm K Q c_X_middle_41 kc ks loc (v :: st) h) := gk_aaload
theorem s_X_middle_41  : wps rm K Q c_X_middle_41 kc ks loc (st) h = wps rm K Q c_X_middle_42 kc ks loc (.int (4) :: st) h := gk_ic (by decide)
theorem s_X_middle_42  {a1 : Value} {x : Nat} : wps rm K Q c_X_middle_42 kc ks loc (a1 :: .ref (x + 1) :: st) h = (eg_cls h x 2 ∧ st.length ≤ 4 ∧ eg_Cs n_Fig_isOfKind (.ref (x + 1) :: [a1]) h (fun v h9 => wps rm K Q c_X_middle_45 kc ks loc (v.toList ++ st) h9)) := eg_c1_1
theorem s_X_middle_45 {x : Int32} : wps rm K Q c_X_middle_45 kc ks loc (.int x :: st) h = ((¬ x = 0 → K 56 kc ks loc st h) ∧ (x = 0 → wps rm K Q c_X_middle_48 kc ks loc (st) h)) := gk_if1_ne
theorem s_X_middle_48 {x : Nat} {l : eg_Lo} : wps rm K Q c_X_middle_48 kc ks (some (.ref x) :: l) (st) h = wps rm K Q c_X_middle_49 kc ks (some (.ref x) :: l) (.ref x :: st) h := gk_aload rfl
theorem s_X_middle_49  : wps rm K Q c_X_middle_49 kc ks loc (st) h = wps rm K Q c_X_middle_52 kc ks loc (.long (-1000000000000000004) :: st) h := gk_lc (by decide)
theorem s_X_middle_52  {a1 : Value} {x : Nat} : wps rm K Q c_X_middle_52 kc ks loc (a1 :: .ref (x + 1) :: st) h = (eg_cls h x 11 ∧ st.length ≤ 4 ∧ eg_Cs n_X_found (.ref (x + 1) :: [a1]) h (fun v h9 => wps rm K Q c_X_middle_55 kc ks loc (v.toList ++ st) h9)) := eg_c1_1
theorem s_X_middle_55 {x : Int64} : wps rm K Q c_X_middle_55 kc ks loc ([.long x]) h = (kc = rm.cells ∧ Q (some (.long x)) h) := gk_lret
theorem s_X_middle_56 {x : Int32} {l0 l1 : Option Value} {l : eg_Lo} : wps rm K Q c_X_middle_56 kc ks (l0 :: l1 :: some (.int x) :: l) (st) h = wps rm K Q c_X_middle_57 kc ks (l0 :: l1 :: some (.int x) :: l) (.int x :: st) h := gk_iload rfl
theorem s_X_middle_57 {x : Int32} : wps rm K Q c_X_middle_57 kc ks loc (.int x :: st) h = ((x = 0 → K 72 kc ks loc st h) ∧ (¬ x = 0 → wps rm K Q c_X_middle_60 kc ks loc (st) h)) := gk_if1_eq
theorem s_X_middle_60 {x : Nat} {l : eg_Lo} : wps rm K Q c_X_middle_60 kc ks (some (.ref x) :: l) (st) h = wps rm K Q c_X_middle_61 kc ks (some (.ref x) :: l) (.ref x :: st) h := gk_aload rfl
theorem s_X_middle_61 {x : Nat} : wps rm K Q c_X_middle_61 kc ks loc (.ref (x + 1) :: st) h = eg_gf h x 11 2 (fun v => wps rm K Q c_X_middle_64 kc ks loc (v :: st) h) := gk_gf
theorem s_X_middle_64 {x : Int32} {l0 : Option Value} {l : eg_Lo} : wps rm K Q c_X_middle_64 kc ks (l0 :: some (.int x) :: l) (st) h = wps rm K Q c_X_middle_65 kc ks (l0 :: some (.int x) :: l) (.int x :: st) h := gk_iload rfl
theorem s_X_middle_65 {x : Nat} {i : Int32} : wps rm K Q c_X_middle_65 kc ks loc (.int i :: .ref (x + 1) :: st) h = eg_aa h x i (fun v => wps rm K Q c_X_middle_66 kc ks loc (v :: st) h) := gk_aaload
theorem s_X_middle_66 {x : Nat} : wps rm K Q c_X_middle_66 kc ks loc (.ref (x + 1) :: st) h = eg_gf h x 2 4 (fun v => wps rm K Q c_X_middle_69 kc ks loc (v :: st) h) := gk_gf
theorem s_X_middle_69  : wps rm K Q c_X_middle_69 kc ks loc (st) h = K 81 kc ks loc st h := gk_goto
theorem s_X_middle_72 {x : Nat} {l : eg_Lo} : wps rm K Q c_X_middle_72 kc ks (some (.ref x) :: l) (st) h = wps rm K Q c_X_middle_73 kc ks (some (.ref x) :: l) (.ref x :: st) h := gk_aload rfl
theorem s_X_middle_73 {x : Nat} : wps rm K Q c_X_middle_73 kc ks loc (.ref (x + 1) :: st) h = eg_gf h x 11 2 (fun v => wps rm K Q c_X_middle_76 kc ks loc (v :: st) h) := gk_gf
theorem s_X_middle_76 {x : Int32} {l0 : Option Value} {l : eg_Lo} : wps rm K Q c_X_middle_76 kc ks (l0 :: some (.int x) :: l) (st) h = wps rm K Q c_X_middle_77 kc ks (l0 :: some (.int x) :: l) (.int x :: st) h := gk_iload rfl
theorem s_X_middle_77 {x : Nat} {i : Int32} : wps rm K Q c_X_middle_77 kc ks loc (.int i :: .ref (x + 1) :: st) h = eg_aa h x i (fun v => wps rm K Q c_X_middle_78 kc ks loc (v :: st) h) := gk_aaload
theorem s_X_middle_78 {x : Nat} : wps rm K Q c_X_middle_78 kc ks loc (.ref (x + 1) :: st) h = eg_gf h x 2 3 (fun v => wps rm K Q c_X_middle_81 kc ks loc (v :: st) h) := gk_gf
theorem s_X_middle_81 {x : Int32} {l0 l1 l2 : Option Value} {l : eg_Lo} : wps rm K Q c_X_middle_81 kc ks (l0 :: l1 :: l2 :: some (.int x) :: l) (st) h = wps rm K Q c_X_middle_82 kc ks (l0 :: l1 :: l2 :: some (.int x) :: l) (.int x :: st) h := gk_iload rfl
theorem s_X_middle_82  {a1 : Value} {x : Nat} : wps rm K Q c_X_middle_82 kc ks loc (a1 :: .ref (x + 1) :: st) h = (eg_cls h x 4 ∧ st.length ≤ 4 ∧ eg_Cs n_Frac_side (.ref (x + 1) :: [a1]) h (fun v h9 => wps rm K Q c_X_middle_85 kc ks loc (v.toList ++ st) h9)) := eg_c1_1
theorem s_X_middle_85 {x : Int64} : wps rm K Q c_X_middle_85 kc ks loc ([.long x]) h = (kc = rm.cells ∧ Q (some (.long x)) h) := gk_lret
def T_X_middle : List (Nat × List eg_I) := [(15, c_X_middle_15), (35, c_X_middle_35), (56, c_X_middle_56), (72, c_X_middle_72), (81, c_X_middle_81)]
theorem j_X_middle_15 {R : Nat → Nat → Nat → eg_Lo → List Value → List eg_E → Prop} {f pc0 : Nat} : eg_run rm R Q T_X_middle (f + 1) 15 kc ks loc st h = wps rm (eg_run rm R Q T_X_middle f) Q c_X_middle_15 kc ks loc st h := rfl
theorem j_X_middle_35 {R : Nat → Nat → Nat → eg_Lo → List Value → List eg_E → Prop} {f pc0 : Nat} : eg_run rm R Q T_X_middle (f + 1) 35 kc ks loc st h = wps rm (eg_run rm R Q T_X_middle f) Q c_X_middle_35 kc ks loc st h := rfl
theorem j_X_middle_56 {R : Nat → Nat → Nat → eg_Lo → List Value → List eg_E → Prop} {f pc0 : Nat} : eg_run rm R Q T_X_middle (f + 1) 56 kc ks loc st h = wps rm (eg_run rm R Q T_X_middle f) Q c_X_middle_56 kc ks loc st h := rfl
theorem j_X_middle_72 {R : Nat → Nat → Nat → eg_Lo → List Value → List eg_E → Prop} {f pc0 : Nat} : eg_run rm R Q T_X_middle (f + 1) 72 kc ks loc st h = wps rm (eg_run rm R Q T_X_middle f) Q c_X_middle_72 kc ks loc st h := rfl
theorem j_X_middle_81 {R : Nat → Nat → Nat → eg_Lo → List Value → List eg_E → Prop} {f pc0 : Nat} : eg_run rm R Q T_X_middle (f + 1) 81 kc ks loc st h = wps rm (eg_run rm R Q T_X_middle f) Q c_X_middle_81 kc ks loc st h := rfl
end
theorem y_X_middle_0 : eg_seq m_X_middle 0 c_X_middle_0 = true := by decide +kernel
theorem y_X_middle_15 : eg_seq m_X_middle 15 c_X_middle_15 = true := by decide +kernel
theorem y_X_middle_35 : eg_seq m_X_middle 35 c_X_middle_35 = true := by decide +kernel
theorem y_X_middle_56 : eg_seq m_X_middle 56 c_X_middle_56 = true := by decide +kernel
theorem y_X_middle_72 : eg_seq m_X_middle 72 c_X_middle_72 = true := by decide +kernel
theorem q_X_middle : ∀ q ∈ T_X_middle, eg_seq m_X_middle q.1 q.2 = true := by
  intro q hq
  simp only [T_X_middle, List.mem_cons, List.not_mem_nil, or_false] at hq
  rcases hq with rfl | rfl | rfl | rfl | rfl
  · exact y_X_middle_15
  · exact y_X_middle_35
  · exact y_X_middle_56
  · exact y_X_middle_72
  · exact (eg_seq_drop y_X_middle_72 5 : eg_seq m_X_middle 81 c_X_middle_81 = true)
theorem b_X_middle {as : List Value} {h : List eg_E} {Q : Option Value → List eg_E → Prop} (hf : (eg_fl as).length ≤ 4) (hw : wps (eg_rm m_X_middle) (eg_run (eg_rm m_X_middle) (eg_R m_X_middle Q (h.length + 0)) Q T_X_middle 7) Q c_X_middle_0 0 0 (eg_entry 4 as) [] h) : eg_Runs n_X_middle as h Q := eg_begin2 (d := m_X_middle) rfl (by decide) y_X_middle_0 q_X_middle hf hw
/-! ===== X_ask ===== -/
def c_X_ask_64 : List eg_I := .inl (64, 1, .lreturn, 0, 0) :: []
def c_X_ask_63 : List eg_I := .inl (63, 1, .sipush (0), 0, 0) :: c_X_ask_64
def c_X_ask_60 : List eg_I := .inl (60, 3, .goto (4), 64, 0) :: []
def c_X_ask_59 : List eg_I := .inl (59, 1, .sipush (1), 0, 0) :: c_X_ask_60
def c_X_ask_56 : List eg_I := .inl (56, 3, .ifCond .eq (7), 63, 0) :: c_X_ask_59
def c_X_ask_53 : List eg_I := .inr (53, 1, 248, n_Fig_keeps, 1, 2, 0, 0) :: c_X_ask_56
def c_X_ask_52 : List eg_I := .inl (52, 1, .iload 2, 0, 0) :: c_X_ask_53
def c_X_ask_51 : List eg_I := .inl (51, 1, .aaload, 0, 0) :: c_X_ask_52
def c_X_ask_50 : List eg_I := .inl (50, 1, .iload 1, 0, 0) :: c_X_ask_51
def c_X_ask_47 : List eg_I := .inl (47, 3, .getfield 23, 11, 2) :: c_X_ask_50
def c_X_ask_46 : List eg_I := .inl (46, 1, .aload 0, 0, 0) :: c_X_ask_47
def c_X_ask_45 : List eg_I := .inl (45, 1, .lreturn, 0, 0) :: []
def c_X_ask_42 : List eg_I := .inr (42, 1, 86, n_X_found, 1, 11, 0, 0) :: c_X_ask_45
def c_X_ask_39 : List eg_I := .inl (39, 3, .sipush (-1000000000000000006), 158, 0) :: c_X_ask_42
def c_X_ask_38 : List eg_I := .inl (38, 1, .aload 0, 0, 0) :: c_X_ask_39
def c_X_ask_35 : List eg_I := .inl (35, 3, .ifCond .ne (11), 46, 0) :: c_X_ask_38
def c_X_ask_32 : List eg_I := .inr (32, 1, 218, n_Fig_isOne, 0, 2, 0, 0) :: c_X_ask_35
def c_X_ask_31 : List eg_I := .inl (31, 1, .aaload, 0, 0) :: c_X_ask_32
def c_X_ask_30 : List eg_I := .inl (30, 1, .iload 1, 0, 0) :: c_X_ask_31
def c_X_ask_27 : List eg_I := .inl (27, 3, .getfield 23, 11, 2) :: c_X_ask_30
def c_X_ask_26 : List eg_I := .inl (26, 1, .aload 0, 0, 0) :: c_X_ask_27
def c_X_ask_25 : List eg_I := .inl (25, 1, .lreturn, 0, 0) :: []
def c_X_ask_22 : List eg_I := .inr (22, 1, 86, n_X_found, 1, 11, 0, 0) :: c_X_ask_25
def c_X_ask_19 : List eg_I := .inl (19, 3, .sipush (-1000000000000000001), 84, 0) :: c_X_ask_22
def c_X_ask_18 : List eg_I := .inl (18, 1, .aload 0, 0, 0) :: c_X_ask_19
def c_X_ask_15 : List eg_I := .inl (15, 3, .ifCond .ne (11), 26, 0) :: c_X_ask_18
def c_X_ask_12 : List eg_I := .inr (12, 0, 80, n_X_isWithin, 3, 11, 0, 0) :: c_X_ask_15
def c_X_ask_9 : List eg_I := .inl (9, 3, .iconst (2000), 0, 0) :: c_X_ask_12
def c_X_ask_8 : List eg_I := .inl (8, 1, .iconst (0), 0, 0) :: c_X_ask_9
def c_X_ask_7 : List eg_I := .inl (7, 1, .iload 2, 0, 0) :: c_X_ask_8
def c_X_ask_4 : List eg_I := .inl (4, 3, .ifCond .eq (14), 18, 0) :: c_X_ask_7
def c_X_ask_1 : List eg_I := .inr (1, 0, 202, n_X_isFigure, 1, 11, 0, 0) :: c_X_ask_4
def c_X_ask_0 : List eg_I := .inl (0, 1, .iload 1, 0, 0) :: c_X_ask_1
section
variable {rm : Room} {K : Nat → Nat → Nat → eg_Lo → List Value → List eg_E → Prop} {Q : Option Value → List eg_E → Prop} {kc ks : Nat} {loc : eg_Lo} {st : List Value} {h : List eg_E}
theorem s_X_ask_0 {x : Int32} {l0 : Option Value} {l : eg_Lo} : wps rm K Q c_X_ask_0 kc ks (l0 :: some (.int x) :: l) (st) h = wps rm K Q c_X_ask_1 kc ks (l0 :: some (.int x) :: l) (.int x :: st) h := gk_iload rfl
theorem s_X_ask_1  {a1 : Value} : wps rm K Q c_X_ask_1 kc ks loc (a1 :: st) h = (st.length ≤ 4 ∧ eg_Cs n_X_isFigure [a1] h (fun v h9 => wps rm K Q c_X_ask_4 kc ks loc (v.toList ++ st) h9)) := eg_c0_1
theorem s_X_ask_4 {x : Int32} : wps rm K Q c_X_ask_4 kc ks loc (.int x :: st) h = ((x = 0 → K 18 kc ks loc st h) ∧ (¬ x = 0 → wps rm K Q c_X_ask_7 kc ks loc (st) h)) := gk_if1_eq
theorem s_X_ask_7 {x : Int32} {l0 l1 : Option Value} {l : eg_Lo} : wps rm K Q c_X_ask_7 kc ks (l0 :: l1 :: some (.int x) :: l) (st) h = wps rm K Q c_X_ask_8 kc ks (l0 :: l1 :: some (.int x) :: l) (.int x :: st) h := gk_iload rfl
theorem s_X_ask_8  : wps rm K Q c_X_ask_8 kc ks loc (st) h = wps rm K Q c_X_ask_9 kc ks loc (.int (0) :: st) h := gk_ic (by decide)
theorem s_X_ask_9  : wps rm K Q c_X_ask_9 kc ks loc (st) h = wps rm K Q c_X_ask_12 kc ks loc (.int (2000) :: st) h := gk_ic (by decide)
theorem s_X_ask_12  {a1 : Value} {a2 : Value} {a3 : Value} : wps rm K Q c_X_ask_12 kc ks loc (a3 :: a2 :: a1 :: st) h = (st.length ≤ 4 ∧ eg_Cs n_X_isWithin [a1, a2, a3] h (fun v h9 => wps rm K Q c_X_ask_15 kc ks loc (v.toList ++ st) h9)) := eg_c0_3
theorem s_X_ask_15 {x : Int32} : wps rm K Q c_X_ask_15 kc ks loc (.int x :: st) h = ((¬ x = 0 → K 26 kc ks loc st h) ∧ (x = 0 → wps rm K Q c_X_ask_18 kc ks loc (st) h)) := gk_if1_ne
theorem s_X_ask_18 {x : Nat} {l : eg_Lo} : wps rm K Q c_X_ask_18 kc ks (some (.ref x) :: l) (st) h = wps rm K Q c_X_ask_19 kc ks (some (.ref x) :: l) (.ref x :: st) h := gk_aload rfl
theorem s_X_ask_19  : wps rm K Q c_X_ask_19 kc ks loc (st) h = wps rm K Q c_X_ask_22 kc ks loc (.long (-1000000000000000001) :: st) h := gk_lc (by decide)
theorem s_X_ask_22  {a1 : Value} {x : Nat} : wps rm K Q c_X_ask_22 kc ks loc (a1 :: .ref (x + 1) :: st) h = (eg_cls h x 11 ∧ st.length ≤ 4 ∧ eg_Cs n_X_found (.ref (x + 1) :: [a1]) h (fun v h9 => wps rm K Q c_X_ask_25 kc ks loc (v.toList ++ st) h9)) := eg_c1_1
theorem s_X_ask_25 {x : Int64} : wps rm K Q c_X_ask_25 kc ks loc ([.long x]) h = (kc = rm.cells ∧ Q (some (.long x)) h) := gk_lret
theorem s_X_ask_26 {x : Nat} {l : eg_Lo} : wps rm K Q c_X_ask_26 kc ks (some (.ref x) :: l) (st) h = wps rm K Q c_X_ask_27 kc ks (some (.ref x) :: l) (.ref x :: st) h := gk_aload rfl
theorem s_X_ask_27 {x : Nat} : wps rm K Q c_X_ask_27 kc ks loc (.ref (x + 1) :: st) h = eg_gf h x 11 2 (fun v => wps rm K Q c_X_ask_30 kc ks loc (v :: st) h) := gk_gf
theorem s_X_ask_30 {x : Int32} {l0 : Option Value} {l : eg_Lo} : wps rm K Q c_X_ask_30 kc ks (l0 :: some (.int x) :: l) (st) h = wps rm K Q c_X_ask_31 kc ks (l0 :: some (.int x) :: l) (.int x :: st) h := gk_iload rfl
theorem s_X_ask_31 {x : Nat} {i : Int32} : wps rm K Q c_X_ask_31 kc ks loc (.int i :: .ref (x + 1) :: st) h = eg_aa h x i (fun v => wps rm K Q c_X_ask_32 kc ks loc (v :: st) h) := gk_aaload
theorem s_X_ask_32  {x : Nat} : wps rm K Q c_X_ask_32 kc ks loc (.ref (x + 1) :: st) h = (eg_cls h x 2 ∧ st.length ≤ 4 ∧ eg_Cs n_Fig_isOne (.ref (x + 1) :: []) h (fun v h9 => wps rm K Q c_X_ask_35 kc ks loc (v.toList ++ st) h9)) := eg_c1_0
theorem s_X_ask_35 {x : Int32} : wps rm K Q c_X_ask_35 kc ks loc (.int x :: st) h = ((¬ x = 0 → K 46 kc ks loc st h) ∧ (x = 0 → wps rm K Q c_X_ask_38 kc ks loc (st) h)) := gk_if1_ne
theorem s_X_ask_38 {x : Nat} {l : eg_Lo} : wps rm K Q c_X_ask_38 kc ks (some (.ref x) :: l) (st) h = wps rm K Q c_X_ask_39 kc ks (some (.ref x) :: l) (.ref x :: st) h := gk_aload rfl
theorem s_X_ask_39  : wps rm K Q c_X_ask_39 kc ks loc (st) h = wps rm K Q c_X_ask_42 kc ks loc (.long (-1000000000000000006) :: st) h := gk_lc (by decide)
theorem s_X_ask_42  {a1 : Value} {x : Nat} : wps rm K Q c_X_ask_42 kc ks loc (a1 :: .ref (x + 1) :: st) h = (eg_cls h x 11 ∧ st.length ≤ 4 ∧ eg_Cs n_X_found (.ref (x + 1) :: [a1]) h (fun v h9 => wps rm K Q c_X_ask_45 kc ks loc (v.toList ++ st) h9)) := eg_c1_1
theorem s_X_ask_45 {x : Int64} : wps rm K Q c_X_ask_45 kc ks loc ([.long x]) h = (kc = rm.cells ∧ Q (some (.long x)) h) := gk_lret
theorem s_X_ask_46 {x : Nat} {l : eg_Lo} : wps rm K Q c_X_ask_46 kc ks (some (.ref x) :: l) (st) h = wps rm K Q c_X_ask_47 kc ks (some (.ref x) :: l) (.ref x :: st) h := gk_aload rfl
theorem s_X_ask_47 {x : Nat} : wps rm K Q c_X_ask_47 kc ks loc (.ref (x + 1) :: st) h = eg_gf h x 11 2 (fun v => wps rm K Q c_X_ask_50 kc ks loc (v :: st) h) := gk_gf
theorem s_X_ask_50 {x : Int32} {l0 : Option Value} {l : eg_Lo} : wps rm K Q c_X_ask_50 kc ks (l0 :: some (.int x) :: l) (st) h = wps rm K Q c_X_ask_51 kc ks (l0 :: some (.int x) :: l) (.int x :: st) h := gk_iload rfl
theorem s_X_ask_51 {x : Nat} {i : Int32} : wps rm K Q c_X_ask_51 kc ks loc (.int i :: .ref (x + 1) :: st) h = eg_aa h x i (fun v => wps rm K Q c_X_ask_52 kc ks loc (v :: st) h) := gk_aaload
theorem s_X_ask_52 {x : Int32} {l0 l1 : Option Value} {l : eg_Lo} : wps rm K Q c_X_ask_52 kc ks (l0 :: l1 :: some (.int x) :: l) (st) h = wps rm K Q c_X_ask_53 kc ks (l0 :: l1 :: some (.int x) :: l) (.int x :: st) h := gk_iload rfl
theorem s_X_ask_53  {a1 : Value} {x : Nat} : wps rm K Q c_X_ask_53 kc ks loc (a1 :: .ref (x + 1) :: st) h = (eg_cls h x 2 ∧ st.length ≤ 4 ∧ eg_Cs n_Fig_keeps (.ref (x + 1) :: [a1]) h (fun v h9 => wps rm K Q c_X_ask_56 kc ks loc (v.toList ++ st) h9)) := eg_c1_1
theorem s_X_ask_56 {x : Int32} : wps rm K Q c_X_ask_56 kc ks loc (.int x :: st) h = ((x = 0 → K 63 kc ks loc st h) ∧ (¬ x = 0 → wps rm K Q c_X_ask_59 kc ks loc (st) h)) := gk_if1_eq
theorem s_X_ask_59  : wps rm K Q c_X_ask_59 kc ks loc (st) h = wps rm K Q c_X_ask_60 kc ks loc (.long (1) :: st) h := gk_lc (by decide)
theorem s_X_ask_60  : wps rm K Q c_X_ask_60 kc ks loc (st) h = K 64 kc ks loc st h := gk_goto
theorem s_X_ask_63  : wps rm K Q c_X_ask_63 kc ks loc (st) h = wps rm K Q c_X_ask_64 kc ks loc (.long (0) :: st) h := gk_lc (by decide)
theorem s_X_ask_64 {x : Int64} : wps rm K Q c_X_ask_64 kc ks loc ([.long x]) h = (kc = rm.cells ∧ Q (some (.long x)) h) := gk_lret
def T_X_ask : List (Nat × List eg_I) := [(18, c_X_ask_18), (26, c_X_ask_26), (46, c_X_ask_46), (63, c_X_ask_63), (64, c_X_ask_64)]
theorem j_X_ask_18 {R : Nat → Nat → Nat → eg_Lo → List Value → List eg_E → Prop} {f pc0 : Nat} : eg_run rm R Q T_X_ask (f + 1) 18 kc ks loc st h = wps rm (eg_run rm R Q T_X_ask f) Q c_X_ask_18 kc ks loc st h := rfl
theorem j_X_ask_26 {R : Nat → Nat → Nat → eg_Lo → List Value → List eg_E → Prop} {f pc0 : Nat} : eg_run rm R Q T_X_ask (f + 1) 26 kc ks loc st h = wps rm (eg_run rm R Q T_X_ask f) Q c_X_ask_26 kc ks loc st h := rfl
theorem j_X_ask_46 {R : Nat → Nat → Nat → eg_Lo → List Value → List eg_E → Prop} {f pc0 : Nat} : eg_run rm R Q T_X_ask (f + 1) 46 kc ks loc st h = wps rm (eg_run rm R Q T_X_ask f) Q c_X_ask_46 kc ks loc st h := rfl
theorem j_X_ask_63 {R : Nat → Nat → Nat → eg_Lo → List Value → List eg_E → Prop} {f pc0 : Nat} : eg_run rm R Q T_X_ask (f + 1) 63 kc ks loc st h = wps rm (eg_run rm R Q T_X_ask f) Q c_X_ask_63 kc ks loc st h := rfl
theorem j_X_ask_64 {R : Nat → Nat → Nat → eg_Lo → List Value → List eg_E → Prop} {f pc0 : Nat} : eg_run rm R Q T_X_ask (f + 1) 64 kc ks loc st h = wps rm (eg_run rm R Q T_X_ask f) Q c_X_ask_64 kc ks loc st h := rfl
end
theorem y_X_ask_0 : eg_seq m_X_ask 0 c_X_ask_0 = true := by decide +kernel
theorem y_X_ask_26 : eg_seq m_X_ask 26 c_X_ask_26 = true := by decide +kernel
theorem y_X_ask_46 : eg_seq m_X_ask 46 c_X_ask_46 = true := by decide +kernel
theorem y_X_ask_63 : eg_seq m_X_ask 63 c_X_ask_63 = true := by decide +kernel
theorem q_X_ask : ∀ q ∈ T_X_ask, eg_seq m_X_ask q.1 q.2 = true := by
  intro q hq
  simp only [T_X_ask, List.mem_cons, List.not_mem_nil, or_false] at hq
  rcases hq with rfl | rfl | rfl | rfl | rfl
  · exact (eg_seq_drop y_X_ask_0 8 : eg_seq m_X_ask 18 c_X_ask_18 = true)
  · exact y_X_ask_26
  · exact y_X_ask_46
  · exact y_X_ask_63
  · exact (eg_seq_drop y_X_ask_63 1 : eg_seq m_X_ask 64 c_X_ask_64 = true)
theorem b_X_ask {as : List Value} {h : List eg_E} {Q : Option Value → List eg_E → Prop} (hf : (eg_fl as).length ≤ 3) (hw : wps (eg_rm m_X_ask) (eg_run (eg_rm m_X_ask) (eg_R m_X_ask Q (h.length + 0)) Q T_X_ask 7) Q c_X_ask_0 0 0 (eg_entry 3 as) [] h) : eg_Runs n_X_ask as h Q := eg_begin2 (d := m_X_ask) rfl (by decide) y_X_ask_0 q_X_ask hf hw
