/-! ===== M_grid ===== -/
def c_M_grid_55 : List eg_I := .inl (55, 1, .lreturn, 0, 0) :: []
def c_M_grid_54 : List eg_I := .inl (54, 1, .sipush (1), 0, 0) :: c_M_grid_55
def c_M_grid_53 : List eg_I := .inl (53, 1, .iastore, 0, 0) :: c_M_grid_54
def c_M_grid_52 : List eg_I := .inl (52, 1, .iload 3, 0, 0) :: c_M_grid_53
def c_M_grid_51 : List eg_I := .inl (51, 1, .iload 1, 0, 0) :: c_M_grid_52
def c_M_grid_48 : List eg_I := .inl (48, 3, .getfield 29, 12, 6) :: c_M_grid_51
def c_M_grid_47 : List eg_I := .inl (47, 1, .aload 0, 0, 0) :: c_M_grid_48
def c_M_grid_46 : List eg_I := .inl (46, 1, .iastore, 0, 0) :: c_M_grid_47
def c_M_grid_45 : List eg_I := .inl (45, 1, .iload 2, 0, 0) :: c_M_grid_46
def c_M_grid_44 : List eg_I := .inl (44, 1, .iload 1, 0, 0) :: c_M_grid_45
def c_M_grid_41 : List eg_I := .inl (41, 3, .getfield 26, 12, 5) :: c_M_grid_44
def c_M_grid_40 : List eg_I := .inl (40, 1, .aload 0, 0, 0) :: c_M_grid_41
def c_M_grid_39 : List eg_I := .inl (39, 1, .lreturn, 0, 0) :: []
def c_M_grid_36 : List eg_I := .inr (36, 1, 112, n_M_finding, 1, 12, 0, 0) :: c_M_grid_39
def c_M_grid_33 : List eg_I := .inl (33, 3, .sipush (-1000000000000000001), 110, 0) :: c_M_grid_36
def c_M_grid_32 : List eg_I := .inl (32, 1, .aload 0, 0, 0) :: c_M_grid_33
def c_M_grid_29 : List eg_I := .inl (29, 3, .ifCond .ne (11), 40, 0) :: c_M_grid_32
def c_M_grid_26 : List eg_I := .inr (26, 0, 95, n_M_isIn, 3, 12, 0, 0) :: c_M_grid_29
def c_M_grid_24 : List eg_I := .inl (24, 2, .iconst (50), 0, 0) :: c_M_grid_26
def c_M_grid_22 : List eg_I := .inl (22, 2, .iconst (-50), 0, 0) :: c_M_grid_24
def c_M_grid_21 : List eg_I := .inl (21, 1, .iload 3, 0, 0) :: c_M_grid_22
def c_M_grid_18 : List eg_I := .inl (18, 3, .ifCond .eq (14), 32, 0) :: c_M_grid_21
def c_M_grid_15 : List eg_I := .inr (15, 0, 95, n_M_isIn, 3, 12, 0, 0) :: c_M_grid_18
def c_M_grid_13 : List eg_I := .inl (13, 2, .iconst (50), 0, 0) :: c_M_grid_15
def c_M_grid_11 : List eg_I := .inl (11, 2, .iconst (-50), 0, 0) :: c_M_grid_13
def c_M_grid_10 : List eg_I := .inl (10, 1, .iload 2, 0, 0) :: c_M_grid_11
def c_M_grid_7 : List eg_I := .inl (7, 3, .ifCond .eq (25), 32, 0) :: c_M_grid_10
def c_M_grid_4 : List eg_I := .inr (4, 0, 95, n_M_isIn, 3, 12, 0, 0) :: c_M_grid_7
def c_M_grid_2 : List eg_I := .inl (2, 2, .iconst (8), 0, 0) :: c_M_grid_4
def c_M_grid_1 : List eg_I := .inl (1, 1, .iconst (0), 0, 0) :: c_M_grid_2
def c_M_grid_0 : List eg_I := .inl (0, 1, .iload 1, 0, 0) :: c_M_grid_1
section
variable {rm : Room} {K : Nat → Nat → Nat → eg_Lo → List Value → List eg_E → Prop} {Q : Option Value → List eg_E → Prop} {kc ks : Nat} {loc : eg_Lo} {st : List Value} {h : List eg_E}
theorem s_M_grid_0 {x : Int32} {l0 : Option Value} {l : eg_Lo} : wps rm K Q c_M_grid_0 kc ks (l0 :: some (.int x) :: l) (st) h = wps rm K Q c_M_grid_1 kc ks (l0 :: some (.int x) :: l) (.int x :: st) h := gk_iload rfl
theorem s_M_grid_1  : wps rm K Q c_M_grid_1 kc ks loc (st) h = wps rm K Q c_M_grid_2 kc ks loc (.int (0) :: st) h := gk_ic (by decide)
theorem s_M_grid_2  : wps rm K Q c_M_grid_2 kc ks loc (st) h = wps rm K Q c_M_grid_4 kc ks loc (.int (8) :: st) h := gk_ic (by decide)
theorem s_M_grid_4  {a1 : Value} {a2 : Value} {a3 : Value} : wps rm K Q c_M_grid_4 kc ks loc (a3 :: a2 :: a1 :: st) h = (st.length ≤ 4 ∧ eg_Cs n_M_isIn [a1, a2, a3] h (fun v h9 => wps rm K Q c_M_grid_7 kc ks loc (v.toList ++ st) h9)) := eg_c0_3
theorem s_M_grid_7 {x : Int32} : wps rm K Q c_M_grid_7 kc ks loc (.int x :: st) h = ((x = 0 → K 32 kc ks loc st h) ∧ (¬ x = 0 → wps rm K Q c_M_grid_10 kc ks loc (st) h)) := gk_if1_eq
theorem s_M_grid_10 {x : Int32} {l0 l1 : Option Value} {l : eg_Lo} : wps rm K Q c_M_grid_10 kc ks (l0 :: l1 :: some (.int x) :: l) (st) h = wps rm K Q c_M_grid_11 kc ks (l0 :: l1 :: some (.int x) :: l) (.int x :: st) h := gk_iload rfl
theorem s_M_grid_11  : wps rm K Q c_M_grid_11 kc ks loc (st) h = wps rm K Q c_M_grid_13 kc ks loc (.int (-50) :: st) h := gk_ic (by decide)
theorem s_M_grid_13  : wps rm K Q c_M_grid_13 kc ks loc (st) h = wps rm K Q c_M_grid_15 kc ks loc (.int (50) :: st) h := gk_ic (by decide)
theorem s_M_grid_15  {a1 : Value} {a2 : Value} {a3 : Value} : wps rm K Q c_M_grid_15 kc ks loc (a3 :: a2 :: a1 :: st) h = (st.length ≤ 4 ∧ eg_Cs n_M_isIn [a1, a2, a3] h (fun v h9 => wps rm K Q c_M_grid_18 kc ks loc (v.toList ++ st) h9)) := eg_c0_3
theorem s_M_grid_18 {x : Int32} : wps rm K Q c_M_grid_18 kc ks loc (.int x :: st) h = ((x = 0 → K 32 kc ks loc st h) ∧ (¬ x = 0 → wps rm K Q c_M_grid_21 kc ks loc (st) h)) := gk_if1_eq
theorem s_M_grid_21 {x : Int32} {l0 l1 l2 : Option Value} {l : eg_Lo} : wps rm K Q c_M_grid_21 kc ks (l0 :: l1 :: l2 :: some (.int x) :: l) (st) h = wps rm K Q c_M_grid_22 kc ks (l0 :: l1 :: l2 :: some (.int x) :: l) (.int x :: st) h := gk_iload rfl
theorem s_M_grid_22  : wps rm K Q c_M_grid_22 kc ks loc (st) h = wps rm K Q c_M_grid_24 kc ks loc (.int (-50) :: st) h := gk_ic (by decide)
theorem s_M_grid_24  : wps rm K Q c_M_grid_24 kc ks loc (st) h = wps rm K Q c_M_grid_26 kc ks loc (.int (50) :: st) h := gk_ic (by decide)
theorem s_M_grid_26  {a1 : Value} {a2 : Value} {a3 : Value} : wps rm K Q c_M_grid_26 kc ks loc (a3 :: a2 :: a1 :: st) h = (st.length ≤ 4 ∧ eg_Cs n_M_isIn [a1, a2, a3] h (fun v h9 => wps rm K Q c_M_grid_29 kc ks loc (v.toList ++ st) h9)) := eg_c0_3
theorem s_M_grid_29 {x : Int32} : wps rm K Q c_M_grid_29 kc ks loc (.int x :: st) h = ((¬ x = 0 → K 40 kc ks loc st h) ∧ (x = 0 → wps rm K Q c_M_grid_32 kc ks loc (st) h)) := gk_if1_ne
theorem s_M_grid_32 {x : Nat} {l : eg_Lo} : wps rm K Q c_M_grid_32 kc ks (some (.ref x) :: l) (st) h = wps rm K Q c_M_grid_33 kc ks (some (.ref x) :: l) (.ref x :: st) h := gk_aload rfl
theorem s_M_grid_33  : wps rm K Q c_M_grid_33 kc ks loc (st) h = wps rm K Q c_M_grid_36 kc ks loc (.long (-1000000000000000001) :: st) h := gk_lc (by decide)
theorem s_M_grid_36  {a1 : Value} {x : Nat} : wps rm K Q c_M_grid_36 kc ks loc (a1 :: .ref (x + 1) :: st) h = (eg_cls h x 12 ∧ st.length ≤ 4 ∧ eg_Cs n_M_finding (.ref (x + 1) :: [a1]) h (fun v h9 => wps rm K Q c_M_grid_39 kc ks loc (v.toList ++ st) h9)) := eg_c1_1
theorem s_M_grid_39 {x : Int64} : wps rm K Q c_M_grid_39 kc ks loc ([.long x]) h = (kc = rm.cells ∧ Q (some (.long x)) h) := gk_lret
theorem s_M_grid_40 {x : Nat} {l : eg_Lo} : wps rm K Q c_M_grid_40 kc ks (some (.ref x) :: l) (st) h = wps rm K Q c_M_grid_41 kc ks (some (.ref x) :: l) (.ref x :: st) h := gk_aload rfl
theorem s_M_grid_41 {x : Nat} : wps rm K Q c_M_grid_41 kc ks loc (.ref (x + 1) :: st) h = eg_gf h x 12 5 (fun v => wps rm K Q c_M_grid_44 kc ks loc (v :: st) h) := gk_gf
theorem s_M_grid_44 {x : Int32} {l0 : Option Value} {l : eg_Lo} : wps rm K Q c_M_grid_44 kc ks (l0 :: some (.int x) :: l) (st) h = wps rm K Q c_M_grid_45 kc ks (l0 :: some (.int x) :: l) (.int x :: st) h := gk_iload rfl
theorem s_M_grid_45 {x : Int32} {l0 l1 : Option Value} {l : eg_Lo} : wps rm K Q c_M_grid_45 kc ks (l0 :: l1 :: some (.int x) :: l) (st) h = wps rm K Q c_M_grid_46 kc ks (l0 :: l1 :: some (.int x) :: l) (.int x :: st) h := gk_iload rfl
theorem s_M_grid_46 {x : Nat} {i : Int32} {v : Int32} : wps rm K Q c_M_grid_46 kc ks loc (.int v :: .int i :: .ref (x + 1) :: st) h = eg_is h x i v (fun h9 => wps rm K Q c_M_grid_47 kc ks loc (st) h9) := gk_iastore
theorem s_M_grid_47 {x : Nat} {l : eg_Lo} : wps rm K Q c_M_grid_47 kc ks (some (.ref x) :: l) (st) h = wps rm K Q c_M_grid_48 kc ks (some (.ref x) :: l) (.ref x :: st) h := gk_aload rfl
theorem s_M_grid_48 {x : Nat} : wps rm K Q c_M_grid_48 kc ks loc (.ref (x + 1) :: st) h = eg_gf h x 12 6 (fun v => wps rm K Q c_M_grid_51 kc ks loc (v :: st) h) := gk_gf
theorem s_M_grid_51 {x : Int32} {l0 : Option Value} {l : eg_Lo} : wps rm K Q c_M_grid_51 kc ks (l0 :: some (.int x) :: l) (st) h = wps rm K Q c_M_grid_52 kc ks (l0 :: some (.int x) :: l) (.int x :: st) h := gk_iload rfl
theorem s_M_grid_52 {x : Int32} {l0 l1 l2 : Option Value} {l : eg_Lo} : wps rm K Q c_M_grid_52 kc ks (l0 :: l1 :: l2 :: some (.int x) :: l) (st) h = wps rm K Q c_M_grid_53 kc ks (l0 :: l1 :: l2 :: some (.int x) :: l) (.int x :: st) h := gk_iload rfl
theorem s_M_grid_53 {x : Nat} {i : Int32} {v : Int32} : wps rm K Q c_M_grid_53 kc ks loc (.int v :: .int i :: .ref (x + 1) :: st) h = eg_is h x i v (fun h9 => wps rm K Q c_M_grid_54 kc ks loc (st) h9) := gk_iastore
theorem s_M_grid_54  : wps rm K Q c_M_grid_54 kc ks loc (st) h = wps rm K Q c_M_grid_55 kc ks loc (.long (1) :: st) h := gk_lc (by decide)
theorem s_M_grid_55 {x : Int64} : wps rm K Q c_M_grid_55 kc ks loc ([.long x]) h = (kc = rm.cells ∧ Q (some (.long x)) h) := gk_lret
def T_M_grid : List (Nat × List eg_I) := [(32, c_M_grid_32), (40, c_M_grid_40)]
theorem j_M_grid_32 {R : Nat → Nat → Nat → eg_Lo → List Value → List eg_E → Prop} {f pc0 : Nat} : eg_run rm R Q T_M_grid (f + 1) 32 kc ks loc st h = wps rm (eg_run rm R Q T_M_grid f) Q c_M_grid_32 kc ks loc st h := rfl
theorem j_M_grid_40 {R : Nat → Nat → Nat → eg_Lo → List Value → List eg_E → Prop} {f pc0 : Nat} : eg_run rm R Q T_M_grid (f + 1) 40 kc ks loc st h = wps rm (eg_run rm R Q T_M_grid f) Q c_M_grid_40 kc ks loc st h := rfl
end
theorem y_M_grid_0 : eg_seq m_M_grid 0 c_M_grid_0 = true := by decide +kernel
theorem y_M_grid_40 : eg_seq m_M_grid 40 c_M_grid_40 = true := by decide +kernel
theorem q_M_grid : ∀ q ∈ T_M_grid, eg_seq m_M_grid q.1 q.2 = true := by
  intro q hq
  simp only [T_M_grid, List.mem_cons, List.not_mem_nil, or_false] at hq
  rcases hq with rfl | rfl
  · exact (eg_seq_drop y_M_grid_0 15 : eg_seq m_M_grid 32 c_M_grid_32 = true)
  · exact y_M_grid_40
theorem b_M_grid {as : List Value} {h : List eg_E} {Q : Option Value → List eg_E → Prop} (hf : (eg_fl as).length ≤ 4) (hw : wps (eg_rm m_M_grid) (eg_run (eg_rm m_M_grid) (eg_R m_M_grid Q (h.length + 0)) Q T_M_grid 4) Q c_M_grid_0 0 0 (eg_entry 4 as) [] h) : eg_Runs n_M_grid as h Q := eg_begin2 (d := m_M_grid) rfl (by decide) y_M_grid_0 q_M_grid hf hw
/-! ===== M_off ===== -/
def c_M_off_44 : List eg_I := .inl (44, 1, .lreturn, 0, 0) :: []
def c_M_off_43 : List eg_I := .inl (43, 1, .i2l, 0, 0) :: c_M_off_44
def c_M_off_40 : List eg_I := .inr (40, 1, 129, n_M_offOf, 3, 12, 0, 0) :: c_M_off_43
def c_M_off_37 : List eg_I := .inl (37, 3, .getfield 26, 12, 5) :: c_M_off_40
def c_M_off_36 : List eg_I := .inl (36, 1, .aload 0, 0, 0) :: c_M_off_37
def c_M_off_33 : List eg_I := .inl (33, 3, .goto (7), 40, 0) :: []
def c_M_off_30 : List eg_I := .inl (30, 3, .getfield 29, 12, 6) :: c_M_off_33
def c_M_off_29 : List eg_I := .inl (29, 1, .aload 0, 0, 0) :: c_M_off_30
def c_M_off_26 : List eg_I := .inl (26, 3, .ifCond .eq (10), 36, 0) :: c_M_off_29
def c_M_off_25 : List eg_I := .inl (25, 1, .iload 3, 0, 0) :: c_M_off_26
def c_M_off_24 : List eg_I := .inl (24, 1, .iload 2, 0, 0) :: c_M_off_25
def c_M_off_23 : List eg_I := .inl (23, 1, .iload 1, 0, 0) :: c_M_off_24
def c_M_off_22 : List eg_I := .inl (22, 1, .aload 0, 0, 0) :: c_M_off_23
def c_M_off_21 : List eg_I := .inl (21, 1, .lreturn, 0, 0) :: []
def c_M_off_18 : List eg_I := .inr (18, 1, 112, n_M_finding, 1, 12, 0, 0) :: c_M_off_21
def c_M_off_15 : List eg_I := .inl (15, 3, .sipush (-1000000000000000001), 110, 0) :: c_M_off_18
def c_M_off_14 : List eg_I := .inl (14, 1, .aload 0, 0, 0) :: c_M_off_15
def c_M_off_11 : List eg_I := .inl (11, 3, .ifCond .ne (11), 22, 0) :: c_M_off_14
def c_M_off_8 : List eg_I := .inr (8, 0, 107, n_M_isNear, 1, 12, 0, 0) :: c_M_off_11
def c_M_off_7 : List eg_I := .inl (7, 1, .iload 2, 0, 0) :: c_M_off_8
def c_M_off_4 : List eg_I := .inl (4, 3, .ifCond .eq (10), 14, 0) :: c_M_off_7
def c_M_off_1 : List eg_I := .inr (1, 0, 107, n_M_isNear, 1, 12, 0, 0) :: c_M_off_4
def c_M_off_0 : List eg_I := .inl (0, 1, .iload 1, 0, 0) :: c_M_off_1
section
variable {rm : Room} {K : Nat → Nat → Nat → eg_Lo → List Value → List eg_E → Prop} {Q : Option Value → List eg_E → Prop} {kc ks : Nat} {loc : eg_Lo} {st : List Value} {h : List eg_E}
theorem s_M_off_0 {x : Int32} {l0 : Option Value} {l : eg_Lo} : wps rm K Q c_M_off_0 kc ks (l0 :: some (.int x) :: l) (st) h = wps rm K Q c_M_off_1 kc ks (l0 :: some (.int x) :: l) (.int x :: st) h := gk_iload rfl
theorem s_M_off_1  {a1 : Value} : wps rm K Q c_M_off_1 kc ks loc (a1 :: st) h = (st.length ≤ 4 ∧ eg_Cs n_M_isNear [a1] h (fun v h9 => wps rm K Q c_M_off_4 kc ks loc (v.toList ++ st) h9)) := eg_c0_1
theorem s_M_off_4 {x : Int32} : wps rm K Q c_M_off_4 kc ks loc (.int x :: st) h = ((x = 0 → K 14 kc ks loc st h) ∧ (¬ x = 0 → wps rm K Q c_M_off_7 kc ks loc (st) h)) := gk_if1_eq
theorem s_M_off_7 {x : Int32} {l0 l1 : Option Value} {l : eg_Lo} : wps rm K Q c_M_off_7 kc ks (l0 :: l1 :: some (.int x) :: l) (st) h = wps rm K Q c_M_off_8 kc ks (l0 :: l1 :: some (.int x) :: l) (.int x :: st) h := gk_iload rfl
theorem s_M_off_8  {a1 : Value} : wps rm K Q c_M_off_8 kc ks loc (a1 :: st) h = (st.length ≤ 4 ∧ eg_Cs n_M_isNear [a1] h (fun v h9 => wps rm K Q c_M_off_11 kc ks loc (v.toList ++ st) h9)) := eg_c0_1
theorem s_M_off_11 {x : Int32} : wps rm K Q c_M_off_11 kc ks loc (.int x :: st) h = ((¬ x = 0 → K 22 kc ks loc st h) ∧ (x = 0 → wps rm K Q c_M_off_14 kc ks loc (st) h)) := gk_if1_ne
theorem s_M_off_14 {x : Nat} {l : eg_Lo} : wps rm K Q c_M_off_14 kc ks (some (.ref x) :: l) (st) h = wps rm K Q c_M_off_15 kc ks (some (.ref x) :: l) (.ref x :: st) h := gk_aload rfl
theorem s_M_off_15  : wps rm K Q c_M_off_15 kc ks loc (st) h = wps rm K Q c_M_off_18 kc ks loc (.long (-1000000000000000001) :: st) h := gk_lc (by decide)
theorem s_M_off_18  {a1 : Value} {x : Nat} : wps rm K Q c_M_off_18 kc ks loc (a1 :: .ref (x + 1) :: st) h = (eg_cls h x 12 ∧ st.length ≤ 4 ∧ eg_Cs n_M_finding (.ref (x + 1) :: [a1]) h (fun v h9 => wps rm K Q c_M_off_21 kc ks loc (v.toList ++ st) h9)) := eg_c1_1
theorem s_M_off_21 {x : Int64} : wps rm K Q c_M_off_21 kc ks loc ([.long x]) h = (kc = rm.cells ∧ Q (some (.long x)) h) := gk_lret
theorem s_M_off_22 {x : Nat} {l : eg_Lo} : wps rm K Q c_M_off_22 kc ks (some (.ref x) :: l) (st) h = wps rm K Q c_M_off_23 kc ks (some (.ref x) :: l) (.ref x :: st) h := gk_aload rfl
theorem s_M_off_23 {x : Int32} {l0 : Option Value} {l : eg_Lo} : wps rm K Q c_M_off_23 kc ks (l0 :: some (.int x) :: l) (st) h = wps rm K Q c_M_off_24 kc ks (l0 :: some (.int x) :: l) (.int x :: st) h := gk_iload rfl
theorem s_M_off_24 {x : Int32} {l0 l1 : Option Value} {l : eg_Lo} : wps rm K Q c_M_off_24 kc ks (l0 :: l1 :: some (.int x) :: l) (st) h = wps rm K Q c_M_off_25 kc ks (l0 :: l1 :: some (.int x) :: l) (.int x :: st) h := gk_iload rfl
theorem s_M_off_25 {x : Int32} {l0 l1 l2 : Option Value} {l : eg_Lo} : wps rm K Q c_M_off_25 kc ks (l0 :: l1 :: l2 :: some (.int x) :: l) (st) h = wps rm K Q c_M_off_26 kc ks (l0 :: l1 :: l2 :: some (.int x) :: l) (.int x :: st) h := gk_iload rfl
theorem s_M_off_26 {x : Int32} : wps rm K Q c_M_off_26 kc ks loc (.int x :: st) h = ((x = 0 → K 36 kc ks loc st h) ∧ (¬ x = 0 → wps rm K Q c_M_off_29 kc ks loc (st) h)) := gk_if1_eq
theorem s_M_off_29 {x : Nat} {l : eg_Lo} : wps rm K Q c_M_off_29 kc ks (some (.ref x) :: l) (st) h = wps rm K Q c_M_off_30 kc ks (some (.ref x) :: l) (.ref x :: st) h := gk_aload rfl
theorem s_M_off_30 {x : Nat} : wps rm K Q c_M_off_30 kc ks loc (.ref (x + 1) :: st) h = eg_gf h x 12 6 (fun v => wps rm K Q c_M_off_33 kc ks loc (v :: st) h) := gk_gf
theorem s_M_off_33  : wps rm K Q c_M_off_33 kc ks loc (st) h = K 40 kc ks loc st h := gk_goto
theorem s_M_off_36 {x : Nat} {l : eg_Lo} : wps rm K Q c_M_off_36 kc ks (some (.ref x) :: l) (st) h = wps rm K Q c_M_off_37 kc ks (some (.ref x) :: l) (.ref x :: st) h := gk_aload rfl
theorem s_M_off_37 {x : Nat} : wps rm K Q c_M_off_37 kc ks loc (.ref (x + 1) :: st) h = eg_gf h x 12 5 (fun v => wps rm K Q c_M_off_40 kc ks loc (v :: st) h) := gk_gf
theorem s_M_off_40  {a1 : Value} {a2 : Value} {a3 : Value} {x : Nat} : wps rm K Q c_M_off_40 kc ks loc (a3 :: a2 :: a1 :: .ref (x + 1) :: st) h = (eg_cls h x 12 ∧ st.length ≤ 4 ∧ eg_Cs n_M_offOf (.ref (x + 1) :: [a1, a2, a3]) h (fun v h9 => wps rm K Q c_M_off_43 kc ks loc (v.toList ++ st) h9)) := eg_c1_3
theorem s_M_off_43 {x : Int32} : wps rm K Q c_M_off_43 kc ks loc (.int x :: st) h = wps rm K Q c_M_off_44 kc ks loc (.long (x.toInt64) :: st) h := gk_i2l
theorem s_M_off_44 {x : Int64} : wps rm K Q c_M_off_44 kc ks loc ([.long x]) h = (kc = rm.cells ∧ Q (some (.long x)) h) := gk_lret
def T_M_off : List (Nat × List eg_I) := [(14, c_M_off_14), (22, c_M_off_22), (36, c_M_off_36), (40, c_M_off_40)]
theorem j_M_off_14 {R : Nat → Nat → Nat → eg_Lo → List Value → List eg_E → Prop} {f pc0 : Nat} : eg_run rm R Q T_M_off (f + 1) 14 kc ks loc st h = wps rm (eg_run rm R Q T_M_off f) Q c_M_off_14 kc ks loc st h := rfl
theorem j_M_off_22 {R : Nat → Nat → Nat → eg_Lo → List Value → List eg_E → Prop} {f pc0 : Nat} : eg_run rm R Q T_M_off (f + 1) 22 kc ks loc st h = wps rm (eg_run rm R Q T_M_off f) Q c_M_off_22 kc ks loc st h := rfl
theorem j_M_off_36 {R : Nat → Nat → Nat → eg_Lo → List Value → List eg_E → Prop} {f pc0 : Nat} : eg_run rm R Q T_M_off (f + 1) 36 kc ks loc st h = wps rm (eg_run rm R Q T_M_off f) Q c_M_off_36 kc ks loc st h := rfl
theorem j_M_off_40 {R : Nat → Nat → Nat → eg_Lo → List Value → List eg_E → Prop} {f pc0 : Nat} : eg_run rm R Q T_M_off (f + 1) 40 kc ks loc st h = wps rm (eg_run rm R Q T_M_off f) Q c_M_off_40 kc ks loc st h := rfl
end
theorem y_M_off_0 : eg_seq m_M_off 0 c_M_off_0 = true := by decide +kernel
theorem y_M_off_22 : eg_seq m_M_off 22 c_M_off_22 = true := by decide +kernel
theorem y_M_off_36 : eg_seq m_M_off 36 c_M_off_36 = true := by decide +kernel
theorem q_M_off : ∀ q ∈ T_M_off, eg_seq m_M_off q.1 q.2 = true := by
  intro q hq
  simp only [T_M_off, List.mem_cons, List.not_mem_nil, or_false] at hq
  rcases hq with rfl | rfl | rfl | rfl
  · exact (eg_seq_drop y_M_off_0 6 : eg_seq m_M_off 14 c_M_off_14 = true)
  · exact y_M_off_22
  · exact y_M_off_36
  · exact (eg_seq_drop y_M_off_36 2 : eg_seq m_M_off 40 c_M_off_40 = true)
theorem b_M_off {as : List Value} {h : List eg_E} {Q : Option Value → List eg_E → Prop} (hf : (eg_fl as).length ≤ 4) (hw : wps (eg_rm m_M_off) (eg_run (eg_rm m_M_off) (eg_R m_M_off Q (h.length + 0)) Q T_M_off 6) Q c_M_off_0 0 0 (eg_entry 4 as) [] h) : eg_Runs n_M_off as h Q := eg_begin2 (d := m_M_off) rfl (by decide) y_M_off_0 q_M_off hf hw
/-! ===== M_apart ===== -/
def z_M_apart_42 : List eg_I := [.inl (42, 0, .nop, 0, 0)]
def c_M_apart_248 : List eg_I := .inl (248, 1, .lreturn, 0, 0) :: []
def c_M_apart_247 : List eg_I := .inl (247, 1, .i2l, 0, 0) :: c_M_apart_248
def c_M_apart_245 : List eg_I := .inl (245, 2, .iload 6, 0, 0) :: c_M_apart_247
def c_M_apart_242 : List eg_I := .inl (242, 3, .goto (6), 248, 0) :: []
def c_M_apart_240 : List eg_I := .inl (240, 2, .lload 4, 0, 0) :: c_M_apart_242
def c_M_apart_237 : List eg_I := .inl (237, 3, .ifCond .ne (8), 245, 0) :: c_M_apart_240
def c_M_apart_236 : List eg_I := .inl (236, 1, .iload 3, 0, 0) :: c_M_apart_237
def c_M_apart_233 : List eg_I := .inl (233, 3, .goto (15), 248, 0) :: []
def c_M_apart_230 : List eg_I := .inr (230, 1, 112, n_M_finding, 1, 12, 0, 0) :: c_M_apart_233
def c_M_apart_227 : List eg_I := .inl (227, 3, .sipush (-1000000000000000006), 138, 0) :: c_M_apart_230
def c_M_apart_226 : List eg_I := .inl (226, 1, .aload 0, 0, 0) :: c_M_apart_227
def c_M_apart_223 : List eg_I := .inl (223, 3, .ifCond .ge (13), 236, 0) :: c_M_apart_226
def c_M_apart_222 : List eg_I := .inl (222, 1, .lcmp, 0, 0) :: c_M_apart_223
def c_M_apart_221 : List eg_I := .inl (221, 1, .sipush (0), 0, 0) :: c_M_apart_222
def c_M_apart_219 : List eg_I := .inl (219, 2, .lload 4, 0, 0) :: c_M_apart_221
def c_M_apart_216 : List eg_I := .inl (216, 3, .goto (-174), 42, 0) :: []
def c_M_apart_213 : List eg_I := .inl (213, 3, .iinc 7 (1), 0, 0) :: c_M_apart_216
def c_M_apart_211 : List eg_I := .inl (211, 2, .lstore 4, 0, 0) :: c_M_apart_213
def c_M_apart_209 : List eg_I := .inl (209, 2, .lload 4, 0, 0) :: c_M_apart_211
def c_M_apart_206 : List eg_I := .inl (206, 3, .goto (5), 211, 0) :: []
def c_M_apart_204 : List eg_I := .inl (204, 2, .lload 16, 0, 0) :: c_M_apart_206
def c_M_apart_201 : List eg_I := .inl (201, 3, .ifCond .le (8), 209, 0) :: c_M_apart_204
def c_M_apart_200 : List eg_I := .inl (200, 1, .lcmp, 0, 0) :: c_M_apart_201
def c_M_apart_198 : List eg_I := .inl (198, 2, .lload 4, 0, 0) :: c_M_apart_200
def c_M_apart_196 : List eg_I := .inl (196, 2, .lload 16, 0, 0) :: c_M_apart_198
def c_M_apart_194 : List eg_I := .inl (194, 2, .istore 6, 0, 0) :: c_M_apart_196
def c_M_apart_192 : List eg_I := .inl (192, 2, .iload 6, 0, 0) :: c_M_apart_194
def c_M_apart_189 : List eg_I := .inl (189, 3, .goto (5), 194, 0) :: []
def c_M_apart_187 : List eg_I := .inl (187, 2, .iload 7, 0, 0) :: c_M_apart_189
def c_M_apart_184 : List eg_I := .inl (184, 3, .ifCond .le (8), 192, 0) :: c_M_apart_187
def c_M_apart_183 : List eg_I := .inl (183, 1, .lcmp, 0, 0) :: c_M_apart_184
def c_M_apart_181 : List eg_I := .inl (181, 2, .lload 4, 0, 0) :: c_M_apart_183
def c_M_apart_179 : List eg_I := .inl (179, 2, .lload 16, 0, 0) :: c_M_apart_181
def c_M_apart_177 : List eg_I := .inl (177, 2, .lstore 16, 0, 0) :: c_M_apart_179
def c_M_apart_176 : List eg_I := .inl (176, 1, .ladd, 0, 0) :: c_M_apart_177
def c_M_apart_175 : List eg_I := .inl (175, 1, .lmul, 0, 0) :: c_M_apart_176
def c_M_apart_173 : List eg_I := .inl (173, 2, .lload 14, 0, 0) :: c_M_apart_175
def c_M_apart_171 : List eg_I := .inl (171, 2, .lload 14, 0, 0) :: c_M_apart_173
def c_M_apart_170 : List eg_I := .inl (170, 1, .ladd, 0, 0) :: c_M_apart_171
def c_M_apart_169 : List eg_I := .inl (169, 1, .lmul, 0, 0) :: c_M_apart_170
def c_M_apart_167 : List eg_I := .inl (167, 2, .lload 12, 0, 0) :: c_M_apart_169
def c_M_apart_165 : List eg_I := .inl (165, 2, .lload 12, 0, 0) :: c_M_apart_167
def c_M_apart_164 : List eg_I := .inl (164, 1, .lmul, 0, 0) :: c_M_apart_165
def c_M_apart_162 : List eg_I := .inl (162, 2, .lload 10, 0, 0) :: c_M_apart_164
def c_M_apart_160 : List eg_I := .inl (160, 2, .lload 10, 0, 0) :: c_M_apart_162
def c_M_apart_157 : List eg_I := .inl (157, 3, .goto (20), 177, 0) :: []
def c_M_apart_154 : List eg_I := .inl (154, 3, .sipush (-1), 136, 0) :: c_M_apart_157
def c_M_apart_151 : List eg_I := .inl (151, 3, .ifCond .eq (9), 160, 0) :: c_M_apart_154
def c_M_apart_150 : List eg_I := .inl (150, 1, .baload, 0, 0) :: c_M_apart_151
def c_M_apart_148 : List eg_I := .inl (148, 2, .iload 9, 0, 0) :: c_M_apart_150
def c_M_apart_145 : List eg_I := .inl (145, 3, .getfield 22, 12, 4) :: c_M_apart_148
def c_M_apart_144 : List eg_I := .inl (144, 1, .aload 0, 0, 0) :: c_M_apart_145
def c_M_apart_141 : List eg_I := .inl (141, 3, .ifCond .ne (13), 154, 0) :: c_M_apart_144
def c_M_apart_140 : List eg_I := .inl (140, 1, .baload, 0, 0) :: c_M_apart_141
def c_M_apart_138 : List eg_I := .inl (138, 2, .iload 8, 0, 0) :: c_M_apart_140
def c_M_apart_135 : List eg_I := .inl (135, 3, .getfield 22, 12, 4) :: c_M_apart_138
def c_M_apart_134 : List eg_I := .inl (134, 1, .aload 0, 0, 0) :: c_M_apart_135
def c_M_apart_132 : List eg_I := .inl (132, 2, .lstore 14, 0, 0) :: c_M_apart_134
def c_M_apart_131 : List eg_I := .inl (131, 1, .i2l, 0, 0) :: c_M_apart_132
def c_M_apart_130 : List eg_I := .inl (130, 1, .isub, 0, 0) :: c_M_apart_131
def c_M_apart_129 : List eg_I := .inl (129, 1, .iaload, 0, 0) :: c_M_apart_130
def c_M_apart_127 : List eg_I := .inl (127, 2, .iload 9, 0, 0) :: c_M_apart_129
def c_M_apart_124 : List eg_I := .inl (124, 3, .getfield 19, 12, 3) :: c_M_apart_127
def c_M_apart_123 : List eg_I := .inl (123, 1, .aload 0, 0, 0) :: c_M_apart_124
def c_M_apart_122 : List eg_I := .inl (122, 1, .iaload, 0, 0) :: c_M_apart_123
def c_M_apart_120 : List eg_I := .inl (120, 2, .iload 8, 0, 0) :: c_M_apart_122
def c_M_apart_117 : List eg_I := .inl (117, 3, .getfield 19, 12, 3) :: c_M_apart_120
def c_M_apart_116 : List eg_I := .inl (116, 1, .aload 0, 0, 0) :: c_M_apart_117
def c_M_apart_114 : List eg_I := .inl (114, 2, .lstore 12, 0, 0) :: c_M_apart_116
def c_M_apart_113 : List eg_I := .inl (113, 1, .i2l, 0, 0) :: c_M_apart_114
def c_M_apart_112 : List eg_I := .inl (112, 1, .isub, 0, 0) :: c_M_apart_113
def c_M_apart_111 : List eg_I := .inl (111, 1, .iaload, 0, 0) :: c_M_apart_112
def c_M_apart_109 : List eg_I := .inl (109, 2, .iload 9, 0, 0) :: c_M_apart_111
def c_M_apart_106 : List eg_I := .inl (106, 3, .getfield 16, 12, 2) :: c_M_apart_109
def c_M_apart_105 : List eg_I := .inl (105, 1, .aload 0, 0, 0) :: c_M_apart_106
def c_M_apart_104 : List eg_I := .inl (104, 1, .iaload, 0, 0) :: c_M_apart_105
def c_M_apart_102 : List eg_I := .inl (102, 2, .iload 8, 0, 0) :: c_M_apart_104
def c_M_apart_99 : List eg_I := .inl (99, 3, .getfield 16, 12, 2) :: c_M_apart_102
def c_M_apart_98 : List eg_I := .inl (98, 1, .aload 0, 0, 0) :: c_M_apart_99
def c_M_apart_96 : List eg_I := .inl (96, 2, .lstore 10, 0, 0) :: c_M_apart_98
def c_M_apart_95 : List eg_I := .inl (95, 1, .i2l, 0, 0) :: c_M_apart_96
def c_M_apart_94 : List eg_I := .inl (94, 1, .isub, 0, 0) :: c_M_apart_95
def c_M_apart_93 : List eg_I := .inl (93, 1, .iaload, 0, 0) :: c_M_apart_94
def c_M_apart_91 : List eg_I := .inl (91, 2, .iload 9, 0, 0) :: c_M_apart_93
def c_M_apart_88 : List eg_I := .inl (88, 3, .getfield 13, 12, 1) :: c_M_apart_91
def c_M_apart_87 : List eg_I := .inl (87, 1, .aload 0, 0, 0) :: c_M_apart_88
def c_M_apart_86 : List eg_I := .inl (86, 1, .iaload, 0, 0) :: c_M_apart_87
def c_M_apart_84 : List eg_I := .inl (84, 2, .iload 8, 0, 0) :: c_M_apart_86
def c_M_apart_81 : List eg_I := .inl (81, 3, .getfield 13, 12, 1) :: c_M_apart_84
def c_M_apart_80 : List eg_I := .inl (80, 1, .aload 0, 0, 0) :: c_M_apart_81
def c_M_apart_78 : List eg_I := .inl (78, 2, .istore 9, 0, 0) :: c_M_apart_80
def c_M_apart_75 : List eg_I := .inr (75, 0, 103, n_M_at_II, 2, 12, 0, 0) :: c_M_apart_78
def c_M_apart_73 : List eg_I := .inl (73, 2, .iload 7, 0, 0) :: c_M_apart_75
def c_M_apart_72 : List eg_I := .inl (72, 1, .iload 2, 0, 0) :: c_M_apart_73
def c_M_apart_70 : List eg_I := .inl (70, 2, .istore 8, 0, 0) :: c_M_apart_72
def c_M_apart_67 : List eg_I := .inr (67, 0, 103, n_M_at_II, 2, 12, 0, 0) :: c_M_apart_70
def c_M_apart_65 : List eg_I := .inl (65, 2, .iload 7, 0, 0) :: c_M_apart_67
def c_M_apart_64 : List eg_I := .inl (64, 1, .iload 1, 0, 0) :: c_M_apart_65
def c_M_apart_61 : List eg_I := .inl (61, 3, .if_icmp .ge (158), 219, 0) :: c_M_apart_64
def c_M_apart_60 : List eg_I := .inl (60, 1, .iaload, 0, 0) :: c_M_apart_61
def c_M_apart_59 : List eg_I := .inl (59, 1, .iload 2, 0, 0) :: c_M_apart_60
def c_M_apart_56 : List eg_I := .inl (56, 3, .getfield 9, 12, 0) :: c_M_apart_59
def c_M_apart_55 : List eg_I := .inl (55, 1, .aload 0, 0, 0) :: c_M_apart_56
def c_M_apart_53 : List eg_I := .inl (53, 2, .iload 7, 0, 0) :: c_M_apart_55
def c_M_apart_50 : List eg_I := .inl (50, 3, .if_icmp .ge (169), 219, 0) :: c_M_apart_53
def c_M_apart_49 : List eg_I := .inl (49, 1, .iaload, 0, 0) :: c_M_apart_50
def c_M_apart_48 : List eg_I := .inl (48, 1, .iload 1, 0, 0) :: c_M_apart_49
def c_M_apart_45 : List eg_I := .inl (45, 3, .getfield 9, 12, 0) :: c_M_apart_48
def c_M_apart_44 : List eg_I := .inl (44, 1, .aload 0, 0, 0) :: c_M_apart_45
def c_M_apart_42 : List eg_I := .inl (42, 2, .iload 7, 0, 0) :: c_M_apart_44
def c_M_apart_40 : List eg_I := .inl (40, 2, .istore 7, 0, 0) :: z_M_apart_42
def c_M_apart_39 : List eg_I := .inl (39, 1, .iconst (0), 0, 0) :: c_M_apart_40
def c_M_apart_37 : List eg_I := .inl (37, 2, .istore 6, 0, 0) :: c_M_apart_39
def c_M_apart_36 : List eg_I := .inl (36, 1, .iconst (-1), 0, 0) :: c_M_apart_37
def c_M_apart_34 : List eg_I := .inl (34, 2, .lstore 4, 0, 0) :: c_M_apart_36
def c_M_apart_31 : List eg_I := .inl (31, 3, .sipush (-1), 136, 0) :: c_M_apart_34
def c_M_apart_30 : List eg_I := .inl (30, 1, .lreturn, 0, 0) :: []
def c_M_apart_27 : List eg_I := .inr (27, 1, 112, n_M_finding, 1, 12, 0, 0) :: c_M_apart_30
def c_M_apart_24 : List eg_I := .inl (24, 3, .sipush (-1000000000000000001), 110, 0) :: c_M_apart_27
def c_M_apart_23 : List eg_I := .inl (23, 1, .aload 0, 0, 0) :: c_M_apart_24
def c_M_apart_20 : List eg_I := .inl (20, 3, .ifCond .ne (11), 31, 0) :: c_M_apart_23
def c_M_apart_17 : List eg_I := .inr (17, 0, 95, n_M_isIn, 3, 12, 0, 0) :: c_M_apart_20
def c_M_apart_16 : List eg_I := .inl (16, 1, .iconst (1), 0, 0) :: c_M_apart_17
def c_M_apart_15 : List eg_I := .inl (15, 1, .iconst (0), 0, 0) :: c_M_apart_16
def c_M_apart_14 : List eg_I := .inl (14, 1, .iload 3, 0, 0) :: c_M_apart_15
def c_M_apart_11 : List eg_I := .inl (11, 3, .ifCond .eq (12), 23, 0) :: c_M_apart_14
def c_M_apart_8 : List eg_I := .inr (8, 0, 99, n_M_isPart, 1, 12, 0, 0) :: c_M_apart_11
def c_M_apart_7 : List eg_I := .inl (7, 1, .iload 2, 0, 0) :: c_M_apart_8
def c_M_apart_4 : List eg_I := .inl (4, 3, .ifCond .eq (19), 23, 0) :: c_M_apart_7
def c_M_apart_1 : List eg_I := .inr (1, 0, 99, n_M_isPart, 1, 12, 0, 0) :: c_M_apart_4
def c_M_apart_0 : List eg_I := .inl (0, 1, .iload 1, 0, 0) :: c_M_apart_1
section
variable {rm : Room} {K : Nat → Nat → Nat → eg_Lo → List Value → List eg_E → Prop} {Q : Option Value → List eg_E → Prop} {kc ks : Nat} {loc : eg_Lo} {st : List Value} {h : List eg_E}
theorem s_M_apart_0 {x : Int32} {l0 : Option Value} {l : eg_Lo} : wps rm K Q c_M_apart_0 kc ks (l0 :: some (.int x) :: l) (st) h = wps rm K Q c_M_apart_1 kc ks (l0 :: some (.int x) :: l) (.int x :: st) h := gk_iload rfl
theorem s_M_apart_1  {a1 : Value} : wps rm K Q c_M_apart_1 kc ks loc (a1 :: st) h = (st.length ≤ 4 ∧ eg_Cs n_M_isPart [a1] h (fun v h9 => wps rm K Q c_M_apart_4 kc ks loc (v.toList ++ st) h9)) := eg_c0_1
theorem s_M_apart_4 {x : Int32} : wps rm K Q c_M_apart_4 kc ks loc (.int x :: st) h = ((x = 0 → K 23 kc ks loc st h) ∧ (¬ x = 0 → wps rm K Q c_M_apart_7 kc ks loc (st) h)) := gk_if1_eq
theorem s_M_apart_7 {x : Int32} {l0 l1 : Option Value} {l : eg_Lo} : wps rm K Q c_M_apart_7 kc ks (l0 :: l1 :: some (.int x) :: l) (st) h = wps rm K Q c_M_apart_8 kc ks (l0 :: l1 :: some (.int x) :: l) (.int x :: st) h := gk_iload rfl
theorem s_M_apart_8  {a1 : Value} : wps rm K Q c_M_apart_8 kc ks loc (a1 :: st) h = (st.length ≤ 4 ∧ eg_Cs n_M_isPart [a1] h (fun v h9 => wps rm K Q c_M_apart_11 kc ks loc (v.toList ++ st) h9)) := eg_c0_1
theorem s_M_apart_11 {x : Int32} : wps rm K Q c_M_apart_11 kc ks loc (.int x :: st) h = ((x = 0 → K 23 kc ks loc st h) ∧ (¬ x = 0 → wps rm K Q c_M_apart_14 kc ks loc (st) h)) := gk_if1_eq
theorem s_M_apart_14 {x : Int32} {l0 l1 l2 : Option Value} {l : eg_Lo} : wps rm K Q c_M_apart_14 kc ks (l0 :: l1 :: l2 :: some (.int x) :: l) (st) h = wps rm K Q c_M_apart_15 kc ks (l0 :: l1 :: l2 :: some (.int x) :: l) (.int x :: st) h := gk_iload rfl
theorem s_M_apart_15  : wps rm K Q c_M_apart_15 kc ks loc (st) h = wps rm K Q c_M_apart_16 kc ks loc (.int (0) :: st) h := gk_ic (by decide)
theorem s_M_apart_16  : wps rm K Q c_M_apart_16 kc ks loc (st) h = wps rm K Q c_M_apart_17 kc ks loc (.int (1) :: st) h := gk_ic (by decide)
theorem s_M_apart_17  {a1 : Value} {a2 : Value} {a3 : Value} : wps rm K Q c_M_apart_17 kc ks loc (a3 :: a2 :: a1 :: st) h = (st.length ≤ 4 ∧ eg_Cs n_M_isIn [a1, a2, a3] h (fun v h9 => wps rm K Q c_M_apart_20 kc ks loc (v.toList ++ st) h9)) := eg_c0_3
theorem s_M_apart_20 {x : Int32} : wps rm K Q c_M_apart_20 kc ks loc (.int x :: st) h = ((¬ x = 0 → K 31 kc ks loc st h) ∧ (x = 0 → wps rm K Q c_M_apart_23 kc ks loc (st) h)) := gk_if1_ne
theorem s_M_apart_23 {x : Nat} {l : eg_Lo} : wps rm K Q c_M_apart_23 kc ks (some (.ref x) :: l) (st) h = wps rm K Q c_M_apart_24 kc ks (some (.ref x) :: l) (.ref x :: st) h := gk_aload rfl
theorem s_M_apart_24  : wps rm K Q c_M_apart_24 kc ks loc (st) h = wps rm K Q c_M_apart_27 kc ks loc (.long (-1000000000000000001) :: st) h := gk_lc (by decide)
theorem s_M_apart_27  {a1 : Value} {x : Nat} : wps rm K Q c_M_apart_27 kc ks loc (a1 :: .ref (x + 1) :: st) h = (eg_cls h x 12 ∧ st.length ≤ 4 ∧ eg_Cs n_M_finding (.ref (x + 1) :: [a1]) h (fun v h9 => wps rm K Q c_M_apart_30 kc ks loc (v.toList ++ st) h9)) := eg_c1_1
theorem s_M_apart_30 {x : Int64} : wps rm K Q c_M_apart_30 kc ks loc ([.long x]) h = (kc = rm.cells ∧ Q (some (.long x)) h) := gk_lret
theorem s_M_apart_31  : wps rm K Q c_M_apart_31 kc ks loc (st) h = wps rm K Q c_M_apart_34 kc ks loc (.long (-1) :: st) h := gk_lc (by decide)
theorem s_M_apart_34 {x : Int64} : wps rm K Q c_M_apart_34 kc ks loc (.long x :: st) h = wps rm K Q c_M_apart_36 kc ks (eg_set2 loc 4 (.long x)) (st) h := gk_lstore
theorem s_M_apart_36  : wps rm K Q c_M_apart_36 kc ks loc (st) h = wps rm K Q c_M_apart_37 kc ks loc (.int (-1) :: st) h := gk_ic (by decide)
theorem s_M_apart_37 {x : Int32} : wps rm K Q c_M_apart_37 kc ks loc (.int x :: st) h = wps rm K Q c_M_apart_39 kc ks (eg_set1 loc 6 (.int x)) (st) h := gk_istore
theorem s_M_apart_39  : wps rm K Q c_M_apart_39 kc ks loc (st) h = wps rm K Q c_M_apart_40 kc ks loc (.int (0) :: st) h := gk_ic (by decide)
theorem s_M_apart_40 {x : Int32} : wps rm K Q c_M_apart_40 kc ks loc (.int x :: st) h = wps rm K Q z_M_apart_42 kc ks (eg_set1 loc 7 (.int x)) (st) h := gk_istore
theorem s_M_apart_42 {x : Int32} {l0 l1 l2 l3 l4 l5 l6 : Option Value} {l : eg_Lo} : wps rm K Q c_M_apart_42 kc ks (l0 :: l1 :: l2 :: l3 :: l4 :: l5 :: l6 :: some (.int x) :: l) (st) h = wps rm K Q c_M_apart_44 kc ks (l0 :: l1 :: l2 :: l3 :: l4 :: l5 :: l6 :: some (.int x) :: l) (.int x :: st) h := gk_iload rfl
theorem s_M_apart_44 {x : Nat} {l : eg_Lo} : wps rm K Q c_M_apart_44 kc ks (some (.ref x) :: l) (st) h = wps rm K Q c_M_apart_45 kc ks (some (.ref x) :: l) (.ref x :: st) h := gk_aload rfl
theorem s_M_apart_45 {x : Nat} : wps rm K Q c_M_apart_45 kc ks loc (.ref (x + 1) :: st) h = eg_gf h x 12 0 (fun v => wps rm K Q c_M_apart_48 kc ks loc (v :: st) h) := gk_gf
theorem s_M_apart_48 {x : Int32} {l0 : Option Value} {l : eg_Lo} : wps rm K Q c_M_apart_48 kc ks (l0 :: some (.int x) :: l) (st) h = wps rm K Q c_M_apart_49 kc ks (l0 :: some (.int x) :: l) (.int x :: st) h := gk_iload rfl
theorem s_M_apart_49 {x : Nat} {i : Int32} : wps rm K Q c_M_apart_49 kc ks loc (.int i :: .ref (x + 1) :: st) h = eg_ia h x i (fun v => wps rm K Q c_M_apart_50 kc ks loc (.int v :: st) h) := gk_iaload
theorem s_M_apart_50 {x y : Int32} : wps rm K Q c_M_apart_50 kc ks loc (.int y :: .int x :: st) h = ((y ≤ x → K 219 kc ks loc st h) ∧ (¬ y ≤ x → wps rm K Q c_M_apart_53 kc ks loc (st) h)) := gk_if2_ge
theorem s_M_apart_53 {x : Int32} {l0 l1 l2 l3 l4 l5 l6 : Option Value} {l : eg_Lo} : wps rm K Q c_M_apart_53 kc ks (l0 :: l1 :: l2 :: l3 :: l4 :: l5 :: l6 :: some (.int x) :: l) (st) h = wps rm K Q c_M_apart_55 kc ks (l0 :: l1 :: l2 :: l3 :: l4 :: l5 :: l6 :: some (.int x) :: l) (.int x :: st) h := gk_iload rfl
theorem s_M_apart_55 {x : Nat} {l : eg_Lo} : wps rm K Q c_M_apart_55 kc ks (some (.ref x) :: l) (st) h = wps rm K Q c_M_apart_56 kc ks (some (.ref x) :: l) (.ref x :: st) h := gk_aload rfl
theorem s_M_apart_56 {x : Nat} : wps rm K Q c_M_apart_56 kc ks loc (.ref (x + 1) :: st) h = eg_gf h x 12 0 (fun v => wps rm K Q c_M_apart_59 kc ks loc (v :: st) h) := gk_gf
theorem s_M_apart_59 {x : Int32} {l0 l1 : Option Value} {l : eg_Lo} : wps rm K Q c_M_apart_59 kc ks (l0 :: l1 :: some (.int x) :: l) (st) h = wps rm K Q c_M_apart_60 kc ks (l0 :: l1 :: some (.int x) :: l) (.int x :: st) h := gk_iload rfl
theorem s_M_apart_60 {x : Nat} {i : Int32} : wps rm K Q c_M_apart_60 kc ks loc (.int i :: .ref (x + 1) :: st) h = eg_ia h x i (fun v => wps rm K Q c_M_apart_61 kc ks loc (.int v :: st) h) := gk_iaload
theorem s_M_apart_61 {x y : Int32} : wps rm K Q c_M_apart_61 kc ks loc (.int y :: .int x :: st) h = ((y ≤ x → K 219 kc ks loc st h) ∧ (¬ y ≤ x → wps rm K Q c_M_apart_64 kc ks loc (st) h)) := gk_if2_ge
theorem s_M_apart_64 {x : Int32} {l0 : Option Value} {l : eg_Lo} : wps rm K Q c_M_apart_64 kc ks (l0 :: some (.int x) :: l) (st) h = wps rm K Q c_M_apart_65 kc ks (l0 :: some (.int x) :: l) (.int x :: st) h := gk_iload rfl
theorem s_M_apart_65 {x : Int32} {l0 l1 l2 l3 l4 l5 l6 : Option Value} {l : eg_Lo} : wps rm K Q c_M_apart_65 kc ks (l0 :: l1 :: l2 :: l3 :: l4 :: l5 :: l6 :: some (.int x) :: l) (st) h = wps rm K Q c_M_apart_67 kc ks (l0 :: l1 :: l2 :: l3 :: l4 :: l5 :: l6 :: some (.int x) :: l) (.int x :: st) h := gk_iload rfl
theorem s_M_apart_67  {a1 : Value} {a2 : Value} : wps rm K Q c_M_apart_67 kc ks loc (a2 :: a1 :: st) h = (st.length ≤ 4 ∧ eg_Cs n_M_at_II [a1, a2] h (fun v h9 => wps rm K Q c_M_apart_70 kc ks loc (v.toList ++ st) h9)) := eg_c0_2
theorem s_M_apart_70 {x : Int32} : wps rm K Q c_M_apart_70 kc ks loc (.int x :: st) h = wps rm K Q c_M_apart_72 kc ks (eg_set1 loc 8 (.int x)) (st) h := gk_istore
theorem s_M_apart_72 {x : Int32} {l0 l1 : Option Value} {l : eg_Lo} : wps rm K Q c_M_apart_72 kc ks (l0 :: l1 :: some (.int x) :: l) (st) h = wps rm K Q c_M_apart_73 kc ks (l0 :: l1 :: some (.int x) :: l) (.int x :: st) h := gk_iload rfl
theorem s_M_apart_73 {x : Int32} {l0 l1 l2 l3 l4 l5 l6 : Option Value} {l : eg_Lo} : wps rm K Q c_M_apart_73 kc ks (l0 :: l1 :: l2 :: l3 :: l4 :: l5 :: l6 :: some (.int x) :: l) (st) h = wps rm K Q c_M_apart_75 kc ks (l0 :: l1 :: l2 :: l3 :: l4 :: l5 :: l6 :: some (.int x) :: l) (.int x :: st) h := gk_iload rfl
theorem s_M_apart_75  {a1 : Value} {a2 : Value} : wps rm K Q c_M_apart_75 kc ks loc (a2 :: a1 :: st) h = (st.length ≤ 4 ∧ eg_Cs n_M_at_II [a1, a2] h (fun v h9 => wps rm K Q c_M_apart_78 kc ks loc (v.toList ++ st) h9)) := eg_c0_2
theorem s_M_apart_78 {x : Int32} : wps rm K Q c_M_apart_78 kc ks loc (.int x :: st) h = wps rm K Q c_M_apart_80 kc ks (eg_set1 loc 9 (.int x)) (st) h := gk_istore
theorem s_M_apart_80 {x : Nat} {l : eg_Lo} : wps rm K Q c_M_apart_80 kc ks (some (.ref x) :: l) (st) h = wps rm K Q c_M_apart_81 kc ks (some (.ref x) :: l) (.ref x :: st) h := gk_aload rfl
theorem s_M_apart_81 {x : Nat} : wps rm K Q c_M_apart_81 kc ks loc (.ref (x + 1) :: st) h = eg_gf h x 12 1 (fun v => wps rm K Q c_M_apart_84 kc ks loc (v :: st) h) := gk_gf
theorem s_M_apart_84 {x : Int32} {l0 l1 l2 l3 l4 l5 l6 l7 : Option Value} {l : eg_Lo} : wps rm K Q c_M_apart_84 kc ks (l0 :: l1 :: l2 :: l3 :: l4 :: l5 :: l6 :: l7 :: some (.int x) :: l) (st) h = wps rm K Q c_M_apart_86 kc ks (l0 :: l1 :: l2 :: l3 :: l4 :: l5 :: l6 :: l7 :: some (.int x) :: l) (.int x :: st) h := gk_iload rfl
theorem s_M_apart_86 {x : Nat} {i : Int32} : wps rm K Q c_M_apart_86 kc ks loc (.int i :: .ref (x + 1) :: st) h = eg_ia h x i (fun v => wps rm K Q c_M_apart_87 kc ks loc (.int v :: st) h) := gk_iaload
theorem s_M_apart_87 {x : Nat} {l : eg_Lo} : wps rm K Q c_M_apart_87 kc ks (some (.ref x) :: l) (st) h = wps rm K Q c_M_apart_88 kc ks (some (.ref x) :: l) (.ref x :: st) h := gk_aload rfl
theorem s_M_apart_88 {x : Nat} : wps rm K Q c_M_apart_88 kc ks loc (.ref (x + 1) :: st) h = eg_gf h x 12 1 (fun v => wps rm K Q c_M_apart_91 kc ks loc (v :: st) h) := gk_gf
theorem s_M_apart_91 {x : Int32} {l0 l1 l2 l3 l4 l5 l6 l7 l8 : Option Value} {l : eg_Lo} : wps rm K Q c_M_apart_91 kc ks (l0 :: l1 :: l2 :: l3 :: l4 :: l5 :: l6 :: l7 :: l8 :: some (.int x) :: l) (st) h = wps rm K Q c_M_apart_93 kc ks (l0 :: l1 :: l2 :: l3 :: l4 :: l5 :: l6 :: l7 :: l8 :: some (.int x) :: l) (.int x :: st) h := gk_iload rfl
theorem s_M_apart_93 {x : Nat} {i : Int32} : wps rm K Q c_M_apart_93 kc ks loc (.int i :: .ref (x + 1) :: st) h = eg_ia h x i (fun v => wps rm K Q c_M_apart_94 kc ks loc (.int v :: st) h) := gk_iaload
theorem s_M_apart_94 {x y : Int32} : wps rm K Q c_M_apart_94 kc ks loc (.int y :: .int x :: st) h = wps rm K Q c_M_apart_95 kc ks loc (.int (x - y) :: st) h := gk_isub
theorem s_M_apart_95 {x : Int32} : wps rm K Q c_M_apart_95 kc ks loc (.int x :: st) h = wps rm K Q c_M_apart_96 kc ks loc (.long (x.toInt64) :: st) h := gk_i2l
theorem s_M_apart_96 {x : Int64} : wps rm K Q c_M_apart_96 kc ks loc (.long x :: st) h = wps rm K Q c_M_apart_98 kc ks (eg_set2 loc 10 (.long x)) (st) h := gk_lstore
theorem s_M_apart_98 {x : Nat} {l : eg_Lo} : wps rm K Q c_M_apart_98 kc ks (some (.ref x) :: l) (st) h = wps rm K Q c_M_apart_99 kc ks (some (.ref x) :: l) (.ref x :: st) h := gk_aload rfl
theorem s_M_apart_99 {x : Nat} : wps rm K Q c_M_apart_99 kc ks loc (.ref (x + 1) :: st) h = eg_gf h x 12 2 (fun v => wps rm K Q c_M_apart_102 kc ks loc (v :: st) h) := gk_gf
theorem s_M_apart_102 {x : Int32} {l0 l1 l2 l3 l4 l5 l6 l7 : Option Value} {l : eg_Lo} : wps rm K Q c_M_apart_102 kc ks (l0 :: l1 :: l2 :: l3 :: l4 :: l5 :: l6 :: l7 :: some (.int x) :: l) (st) h = wps rm K Q c_M_apart_104 kc ks (l0 :: l1 :: l2 :: l3 :: l4 :: l5 :: l6 :: l7 :: some (.int x) :: l) (.int x :: st) h := gk_iload rfl
theorem s_M_apart_104 {x : Nat} {i : Int32} : wps rm K Q c_M_apart_104 kc ks loc (.int i :: .ref (x + 1) :: st) h = eg_ia h x i (fun v => wps rm K Q c_M_apart_105 kc ks loc (.int v :: st) h) := gk_iaload
theorem s_M_apart_105 {x : Nat} {l : eg_Lo} : wps rm K Q c_M_apart_105 kc ks (some (.ref x) :: l) (st) h = wps rm K Q c_M_apart_106 kc ks (some (.ref x) :: l) (.ref x :: st) h := gk_aload rfl
theorem s_M_apart_106 {x : Nat} : wps rm K Q c_M_apart_106 kc ks loc (.ref (x + 1) :: st) h = eg_gf h x 12 2 (fun v => wps rm K Q c_M_apart_109 kc ks loc (v :: st) h) := gk_gf
theorem s_M_apart_109 {x : Int32} {l0 l1 l2 l3 l4 l5 l6 l7 l8 : Option Value} {l : eg_Lo} : wps rm K Q c_M_apart_109 kc ks (l0 :: l1 :: l2 :: l3 :: l4 :: l5 :: l6 :: l7 :: l8 :: some (.int x) :: l) (st) h = wps rm K Q c_M_apart_111 kc ks (l0 :: l1 :: l2 :: l3 :: l4 :: l5 :: l6 :: l7 :: l8 :: some (.int x) :: l) (.int x :: st) h := gk_iload rfl
theorem s_M_apart_111 {x : Nat} {i : Int32} : wps rm K Q c_M_apart_111 kc ks loc (.int i :: .ref (x + 1) :: st) h = eg_ia h x i (fun v => wps rm K Q c_M_apart_112 kc ks loc (.int v :: st) h) := gk_iaload
theorem s_M_apart_112 {x y : Int32} : wps rm K Q c_M_apart_112 kc ks loc (.int y :: .int x :: st) h = wps rm K Q c_M_apart_113 kc ks loc (.int (x - y) :: st) h := gk_isub
theorem s_M_apart_113 {x : Int32} : wps rm K Q c_M_apart_113 kc ks loc (.int x :: st) h = wps rm K Q c_M_apart_114 kc ks loc (.long (x.toInt64) :: st) h := gk_i2l
theorem s_M_apart_114 {x : Int64} : wps rm K Q c_M_apart_114 kc ks loc (.long x :: st) h = wps rm K Q c_M_apart_116 kc ks (eg_set2 loc 12 (.long x)) (st) h := gk_lstore
theorem s_M_apart_116 {x : Nat} {l : eg_Lo} : wps rm K Q c_M_apart_116 kc ks (some (.ref x) :: l) (st) h = wps rm K Q c_M_apart_117 kc ks (some (.ref x) :: l) (.ref x :: st) h := gk_aload rfl
theorem s_M_apart_117 {x : Nat} : wps rm K Q c_M_apart_117 kc ks loc (.ref (x + 1) :: st) h = eg_gf h x 12 3 (fun v => wps rm K Q c_M_apart_120 kc ks loc (v :: st) h) := gk_gf
theorem s_M_apart_120 {x : Int32} {l0 l1 l2 l3 l4 l5 l6 l7 : Option Value} {l : eg_Lo} : wps rm K Q c_M_apart_120 kc ks (l0 :: l1 :: l2 :: l3 :: l4 :: l5 :: l6 :: l7 :: some (.int x) :: l) (st) h = wps rm K Q c_M_apart_122 kc ks (l0 :: l1 :: l2 :: l3 :: l4 :: l5 :: l6 :: l7 :: some (.int x) :: l) (.int x :: st) h := gk_iload rfl
theorem s_M_apart_122 {x : Nat} {i : Int32} : wps rm K Q c_M_apart_122 kc ks loc (.int i :: .ref (x + 1) :: st) h = eg_ia h x i (fun v => wps rm K Q c_M_apart_123 kc ks loc (.int v :: st) h) := gk_iaload
theorem s_M_apart_123 {x : Nat} {l : eg_Lo} : wps rm K Q c_M_apart_123 kc ks (some (.ref x) :: l) (st) h = wps rm K Q c_M_apart_124 kc ks (some (.ref x) :: l) (.ref x :: st) h := gk_aload rfl
theorem s_M_apart_124 {x : Nat} : wps rm K Q c_M_apart_124 kc ks loc (.ref (x + 1) :: st) h = eg_gf h x 12 3 (fun v => wps rm K Q c_M_apart_127 kc ks loc (v :: st) h) := gk_gf
theorem s_M_apart_127 {x : Int32} {l0 l1 l2 l3 l4 l5 l6 l7 l8 : Option Value} {l : eg_Lo} : wps rm K Q c_M_apart_127 kc ks (l0 :: l1 :: l2 :: l3 :: l4 :: l5 :: l6 :: l7 :: l8 :: some (.int x) :: l) (st) h = wps rm K Q c_M_apart_129 kc ks (l0 :: l1 :: l2 :: l3 :: l4 :: l5 :: l6 :: l7 :: l8 :: some (.int x) :: l) (.int x :: st) h := gk_iload rfl
theorem s_M_apart_129 {x : Nat} {i : Int32} : wps rm K Q c_M_apart_129 kc ks loc (.int i :: .ref (x + 1) :: st) h = eg_ia h x i (fun v => wps rm K Q c_M_apart_130 kc ks loc (.int v :: st) h) := gk_iaload
theorem s_M_apart_130 {x y : Int32} : wps rm K Q c_M_apart_130 kc ks loc (.int y :: .int x :: st) h = wps rm K Q c_M_apart_131 kc ks loc (.int (x - y) :: st) h := gk_isub
theorem s_M_apart_131 {x : Int32} : wps rm K Q c_M_apart_131 kc ks loc (.int x :: st) h = wps rm K Q c_M_apart_132 kc ks loc (.long (x.toInt64) :: st) h := gk_i2l
theorem s_M_apart_132 {x : Int64} : wps rm K Q c_M_apart_132 kc ks loc (.long x :: st) h = wps rm K Q c_M_apart_134 kc ks (eg_set2 loc 14 (.long x)) (st) h := gk_lstore
theorem s_M_apart_134 {x : Nat} {l : eg_Lo} : wps rm K Q c_M_apart_134 kc ks (some (.ref x) :: l) (st) h = wps rm K Q c_M_apart_135 kc ks (some (.ref x) :: l) (.ref x :: st) h := gk_aload rfl
theorem s_M_apart_135 {x : Nat} : wps rm K Q c_M_apart_135 kc ks loc (.ref (x + 1) :: st) h = eg_gf h x 12 4 (fun v => wps rm K Q c_M_apart_138 kc ks loc (v :: st) h) := gk_gf
theorem s_M_apart_138 {x : Int32} {l0 l1 l2 l3 l4 l5 l6 l7 : Option Value} {l : eg_Lo} : wps rm K Q c_M_apart_138 kc ks (l0 :: l1 :: l2 :: l3 :: l4 :: l5 :: l6 :: l7 :: some (.int x) :: l) (st) h = wps rm K Q c_M_apart_140 kc ks (l0 :: l1 :: l2 :: l3 :: l4 :: l5 :: l6 :: l7 :: some (.int x) :: l) (.int x :: st) h := gk_iload rfl
theorem s_M_apart_140 {x : Nat} {i : Int32} : wps rm K Q c_M_apart_140 kc ks loc (.int i :: .ref (x + 1) :: st) h = eg_ba h x i (fun v => wps rm K Q c_M_apart_141 kc ks loc (.int v :: st) h) := gk_baload
theorem s_M_apart_141 {x : Int32} : wps rm K Q c_M_apart_141 kc ks loc (.int x :: st) h = ((¬ x = 0 → K 154 kc ks loc st h) ∧ (x = 0 → wps rm K Q c_M_apart_144 kc ks loc (st) h)) := gk_if1_ne
theorem s_M_apart_144 {x : Nat} {l : eg_Lo} : wps rm K Q c_M_apart_144 kc ks (some (.ref x) :: l) (st) h = wps rm K Q c_M_apart_145 kc ks (some (.ref x) :: l) (.ref x :: st) h := gk_aload rfl
theorem s_M_apart_145 {x : Nat} : wps rm K Q c_M_apart_145 kc ks loc (.ref (x + 1) :: st) h = eg_gf h x 12 4 (fun v => wps rm K Q c_M_apart_148 kc ks loc (v :: st) h) := gk_gf
theorem s_M_apart_148 {x : Int32} {l0 l1 l2 l3 l4 l5 l6 l7 l8 : Option Value} {l : eg_Lo} : wps rm K Q c_M_apart_148 kc ks (l0 :: l1 :: l2 :: l3 :: l4 :: l5 :: l6 :: l7 :: l8 :: some (.int x) :: l) (st) h = wps rm K Q c_M_apart_150 kc ks (l0 :: l1 :: l2 :: l3 :: l4 :: l5 :: l6 :: l7 :: l8 :: some (.int x) :: l) (.int x :: st) h := gk_iload rfl
theorem s_M_apart_150 {x : Nat} {i : Int32} : wps rm K Q c_M_apart_150 kc ks loc (.int i :: .ref (x + 1) :: st) h = eg_ba h x i (fun v => wps rm K Q c_M_apart_151 kc ks loc (.int v :: st) h) := gk_baload
theorem s_M_apart_151 {x : Int32} : wps rm K Q c_M_apart_151 kc ks loc (.int x :: st) h = ((x = 0 → K 160 kc ks loc st h) ∧ (¬ x = 0 → wps rm K Q c_M_apart_154 kc ks loc (st) h)) := gk_if1_eq
theorem s_M_apart_154  : wps rm K Q c_M_apart_154 kc ks loc (st) h = wps rm K Q c_M_apart_157 kc ks loc (.long (-1) :: st) h := gk_lc (by decide)
theorem s_M_apart_157  : wps rm K Q c_M_apart_157 kc ks loc (st) h = K 177 kc ks loc st h := gk_goto
theorem s_M_apart_160 {x : Int64} {l0 l1 l2 l3 l4 l5 l6 l7 l8 l9 : Option Value} {l : eg_Lo} : wps rm K Q c_M_apart_160 kc ks (l0 :: l1 :: l2 :: l3 :: l4 :: l5 :: l6 :: l7 :: l8 :: l9 :: some (.long x) :: l) (st) h = wps rm K Q c_M_apart_162 kc ks (l0 :: l1 :: l2 :: l3 :: l4 :: l5 :: l6 :: l7 :: l8 :: l9 :: some (.long x) :: l) (.long x :: st) h := gk_lload rfl
theorem s_M_apart_162 {x : Int64} {l0 l1 l2 l3 l4 l5 l6 l7 l8 l9 : Option Value} {l : eg_Lo} : wps rm K Q c_M_apart_162 kc ks (l0 :: l1 :: l2 :: l3 :: l4 :: l5 :: l6 :: l7 :: l8 :: l9 :: some (.long x) :: l) (st) h = wps rm K Q c_M_apart_164 kc ks (l0 :: l1 :: l2 :: l3 :: l4 :: l5 :: l6 :: l7 :: l8 :: l9 :: some (.long x) :: l) (.long x :: st) h := gk_lload rfl
theorem s_M_apart_164 {x y : Int64} : wps rm K Q c_M_apart_164 kc ks loc (.long y :: .long x :: st) h = wps rm K Q c_M_apart_165 kc ks loc (.long (x * y) :: st) h := gk_lmul
theorem s_M_apart_165 {x : Int64} {l0 l1 l2 l3 l4 l5 l6 l7 l8 l9 l10 l11 : Option Value} {l : eg_Lo} : wps rm K Q c_M_apart_165 kc ks (l0 :: l1 :: l2 :: l3 :: l4 :: l5 :: l6 :: l7 :: l8 :: l9 :: l10 :: l11 :: some (.long x) :: l) (st) h = wps rm K Q c_M_apart_167 kc ks (l0 :: l1 :: l2 :: l3 :: l4 :: l5 :: l6 :: l7 :: l8 :: l9 :: l10 :: l11 :: some (.long x) :: l) (.long x :: st) h := gk_lload rfl
theorem s_M_apart_167 {x : Int64} {l0 l1 l2 l3 l4 l5 l6 l7 l8 l9 l10 l11 : Option Value} {l : eg_Lo} : wps rm K Q c_M_apart_167 kc ks (l0 :: l1 :: l2 :: l3 :: l4 :: l5 :: l6 :: l7 :: l8 :: l9 :: l10 :: l11 :: some (.long x) :: l) (st) h = wps rm K Q c_M_apart_169 kc ks (l0 :: l1 :: l2 :: l3 :: l4 :: l5 :: l6 :: l7 :: l8 :: l9 :: l10 :: l11 :: some (.long x) :: l) (.long x :: st) h := gk_lload rfl
theorem s_M_apart_169 {x y : Int64} : wps rm K Q c_M_apart_169 kc ks loc (.long y :: .long x :: st) h = wps rm K Q c_M_apart_170 kc ks loc (.long (x * y) :: st) h := gk_lmul
theorem s_M_apart_170 {x y : Int64} : wps rm K Q c_M_apart_170 kc ks loc (.long y :: .long x :: st) h = wps rm K Q c_M_apart_171 kc ks loc (.long (x + y) :: st) h := gk_ladd
theorem s_M_apart_171 {x : Int64} {l0 l1 l2 l3 l4 l5 l6 l7 l8 l9 l10 l11 l12 l13 : Option Value} {l : eg_Lo} : wps rm K Q c_M_apart_171 kc ks (l0 :: l1 :: l2 :: l3 :: l4 :: l5 :: l6 :: l7 :: l8 :: l9 :: l10 :: l11 :: l12 :: l13 :: some (.long x) :: l) (st) h = wps rm K Q c_M_apart_173 kc ks (l0 :: l1 :: l2 :: l3 :: l4 :: l5 :: l6 :: l7 :: l8 :: l9 :: l10 :: l11 :: l12 :: l13 :: some (.long x) :: l) (.long x :: st) h := gk_lload rfl
theorem s_M_apart_173 {x : Int64} {l0 l1 l2 l3 l4 l5 l6 l7 l8 l9 l10 l11 l12 l13 : Option Value} {l : eg_Lo} : wps rm K Q c_M_apart_173 kc ks (l0 :: l1 :: l2 :: l3 :: l4 :: l5 :: l6 :: l7 :: l8 :: l9 :: l10 :: l11 :: l12 :: l13 :: some (.long x) :: l) (st) h = wps rm K Q c_M_apart_175 kc ks (l0 :: l1 :: l2 :: l3 :: l4 :: l5 :: l6 :: l7 :: l8 :: l9 :: l10 :: l11 :: l12 :: l13 :: some (.long x) :: l) (.long x :: st) h := gk_lload rfl
theorem s_M_apart_175 {x y : Int64} : wps rm K Q c_M_apart_175 kc ks loc (.long y :: .long x :: st) h = wps rm K Q c_M_apart_176 kc ks loc (.long (x * y) :: st) h := gk_lmul
theorem s_M_apart_176 {x y : Int64} : wps rm K Q c_M_apart_176 kc ks loc (.long y :: .long x :: st) h = wps rm K Q c_M_apart_177 kc ks loc (.long (x + y) :: st) h := gk_ladd
theorem s_M_apart_177 {x : Int64} : wps rm K Q c_M_apart_177 kc ks loc (.long x :: st) h = wps rm K Q c_M_apart_179 kc ks (eg_set2 loc 16 (.long x)) (st) h := gk_lstore
theorem s_M_apart_179 {x : Int64} {l0 l1 l2 l3 l4 l5 l6 l7 l8 l9 l10 l11 l12 l13 l14 l15 : Option Value} {l : eg_Lo} : wps rm K Q c_M_apart_179 kc ks (l0 :: l1 :: l2 :: l3 :: l4 :: l5 :: l6 :: l7 :: l8 :: l9 :: l10 :: l11 :: l12 :: l13 :: l14 :: l15 :: some (.long x) :: l) (st) h = wps rm K Q c_M_apart_181 kc ks (l0 :: l1 :: l2 :: l3 :: l4 :: l5 :: l6 :: l7 :: l8 :: l9 :: l10 :: l11 :: l12 :: l13 :: l14 :: l15 :: some (.long x) :: l) (.long x :: st) h := gk_lload rfl
theorem s_M_apart_181 {x : Int64} {l0 l1 l2 l3 : Option Value} {l : eg_Lo} : wps rm K Q c_M_apart_181 kc ks (l0 :: l1 :: l2 :: l3 :: some (.long x) :: l) (st) h = wps rm K Q c_M_apart_183 kc ks (l0 :: l1 :: l2 :: l3 :: some (.long x) :: l) (.long x :: st) h := gk_lload rfl
theorem s_M_apart_183 {x y : Int64} : wps rm K Q c_M_apart_183 kc ks loc (.long y :: .long x :: st) h = wps rm K Q c_M_apart_184 kc ks loc (.int (lg_cmp x y) :: st) h := gk_lcmp
theorem s_M_apart_184 {x : Int32} : wps rm K Q c_M_apart_184 kc ks loc (.int x :: st) h = ((x ≤ 0 → K 192 kc ks loc st h) ∧ (¬ x ≤ 0 → wps rm K Q c_M_apart_187 kc ks loc (st) h)) := gk_if1_le
theorem s_M_apart_187 {x : Int32} {l0 l1 l2 l3 l4 l5 l6 : Option Value} {l : eg_Lo} : wps rm K Q c_M_apart_187 kc ks (l0 :: l1 :: l2 :: l3 :: l4 :: l5 :: l6 :: some (.int x) :: l) (st) h = wps rm K Q c_M_apart_189 kc ks (l0 :: l1 :: l2 :: l3 :: l4 :: l5 :: l6 :: some (.int x) :: l) (.int x :: st) h := gk_iload rfl
theorem s_M_apart_189  : wps rm K Q c_M_apart_189 kc ks loc (st) h = K 194 kc ks loc st h := gk_goto
theorem s_M_apart_192 {x : Int32} {l0 l1 l2 l3 l4 l5 : Option Value} {l : eg_Lo} : wps rm K Q c_M_apart_192 kc ks (l0 :: l1 :: l2 :: l3 :: l4 :: l5 :: some (.int x) :: l) (st) h = wps rm K Q c_M_apart_194 kc ks (l0 :: l1 :: l2 :: l3 :: l4 :: l5 :: some (.int x) :: l) (.int x :: st) h := gk_iload rfl
theorem s_M_apart_194 {x : Int32} : wps rm K Q c_M_apart_194 kc ks loc (.int x :: st) h = wps rm K Q c_M_apart_196 kc ks (eg_set1 loc 6 (.int x)) (st) h := gk_istore
theorem s_M_apart_196 {x : Int64} {l0 l1 l2 l3 l4 l5 l6 l7 l8 l9 l10 l11 l12 l13 l14 l15 : Option Value} {l : eg_Lo} : wps rm K Q c_M_apart_196 kc ks (l0 :: l1 :: l2 :: l3 :: l4 :: l5 :: l6 :: l7 :: l8 :: l9 :: l10 :: l11 :: l12 :: l13 :: l14 :: l15 :: some (.long x) :: l) (st) h = wps rm K Q c_M_apart_198 kc ks (l0 :: l1 :: l2 :: l3 :: l4 :: l5 :: l6 :: l7 :: l8 :: l9 :: l10 :: l11 :: l12 :: l13 :: l14 :: l15 :: some (.long x) :: l) (.long x :: st) h := gk_lload rfl
theorem s_M_apart_198 {x : Int64} {l0 l1 l2 l3 : Option Value} {l : eg_Lo} : wps rm K Q c_M_apart_198 kc ks (l0 :: l1 :: l2 :: l3 :: some (.long x) :: l) (st) h = wps rm K Q c_M_apart_200 kc ks (l0 :: l1 :: l2 :: l3 :: some (.long x) :: l) (.long x :: st) h := gk_lload rfl
theorem s_M_apart_200 {x y : Int64} : wps rm K Q c_M_apart_200 kc ks loc (.long y :: .long x :: st) h = wps rm K Q c_M_apart_201 kc ks loc (.int (lg_cmp x y) :: st) h := gk_lcmp
theorem s_M_apart_201 {x : Int32} : wps rm K Q c_M_apart_201 kc ks loc (.int x :: st) h = ((x ≤ 0 → K 209 kc ks loc st h) ∧ (¬ x ≤ 0 → wps rm K Q c_M_apart_204 kc ks loc (st) h)) := gk_if1_le
theorem s_M_apart_204 {x : Int64} {l0 l1 l2 l3 l4 l5 l6 l7 l8 l9 l10 l11 l12 l13 l14 l15 : Option Value} {l : eg_Lo} : wps rm K Q c_M_apart_204 kc ks (l0 :: l1 :: l2 :: l3 :: l4 :: l5 :: l6 :: l7 :: l8 :: l9 :: l10 :: l11 :: l12 :: l13 :: l14 :: l15 :: some (.long x) :: l) (st) h = wps rm K Q c_M_apart_206 kc ks (l0 :: l1 :: l2 :: l3 :: l4 :: l5 :: l6 :: l7 :: l8 :: l9 :: l10 :: l11 :: l12 :: l13 :: l14 :: l15 :: some (.long x) :: l) (.long x :: st) h := gk_lload rfl
theorem s_M_apart_206  : wps rm K Q c_M_apart_206 kc ks loc (st) h = K 211 kc ks loc st h := gk_goto
theorem s_M_apart_209 {x : Int64} {l0 l1 l2 l3 : Option Value} {l : eg_Lo} : wps rm K Q c_M_apart_209 kc ks (l0 :: l1 :: l2 :: l3 :: some (.long x) :: l) (st) h = wps rm K Q c_M_apart_211 kc ks (l0 :: l1 :: l2 :: l3 :: some (.long x) :: l) (.long x :: st) h := gk_lload rfl
theorem s_M_apart_211 {x : Int64} : wps rm K Q c_M_apart_211 kc ks loc (.long x :: st) h = wps rm K Q c_M_apart_213 kc ks (eg_set2 loc 4 (.long x)) (st) h := gk_lstore
theorem s_M_apart_213 {x : Int32} {l0 l1 l2 l3 l4 l5 l6 : Option Value} {lz : eg_Lo} : wps rm K Q c_M_apart_213 kc ks (l0 :: l1 :: l2 :: l3 :: l4 :: l5 :: l6 :: some (.int x) :: lz) (st) h = wps rm K Q c_M_apart_216 kc ks (eg_set1 (l0 :: l1 :: l2 :: l3 :: l4 :: l5 :: l6 :: some (.int x) :: lz) 7 (.int (x + (1)))) (st) h := gk_iinc rfl (by decide)
theorem s_M_apart_216  : wps rm K Q c_M_apart_216 kc ks loc (st) h = K 42 kc ks loc st h := gk_goto
theorem s_M_apart_219 {x : Int64} {l0 l1 l2 l3 : Option Value} {l : eg_Lo} : wps rm K Q c_M_apart_219 kc ks (l0 :: l1 :: l2 :: l3 :: some (.long x) :: l) (st) h = wps rm K Q c_M_apart_221 kc ks (l0 :: l1 :: l2 :: l3 :: some (.long x) :: l) (.long x :: st) h := gk_lload rfl
theorem s_M_apart_221  : wps rm K Q c_M_apart_221 kc ks loc (st) h = wps rm K Q c_M_apart_222 kc ks loc (.long (0) :: st) h := gk_lc (by decide)
theorem s_M_apart_222 {x y : Int64} : wps rm K Q c_M_apart_222 kc ks loc (.long y :: .long x :: st) h = wps rm K Q c_M_apart_223 kc ks loc (.int (lg_cmp x y) :: st) h := gk_lcmp
theorem s_M_apart_223 {x : Int32} : wps rm K Q c_M_apart_223 kc ks loc (.int x :: st) h = ((0 ≤ x → K 236 kc ks loc st h) ∧ (¬ 0 ≤ x → wps rm K Q c_M_apart_226 kc ks loc (st) h)) := gk_if1_ge
theorem s_M_apart_226 {x : Nat} {l : eg_Lo} : wps rm K Q c_M_apart_226 kc ks (some (.ref x) :: l) (st) h = wps rm K Q c_M_apart_227 kc ks (some (.ref x) :: l) (.ref x :: st) h := gk_aload rfl
theorem s_M_apart_227  : wps rm K Q c_M_apart_227 kc ks loc (st) h = wps rm K Q c_M_apart_230 kc ks loc (.long (-1000000000000000006) :: st) h := gk_lc (by decide)
theorem s_M_apart_230  {a1 : Value} {x : Nat} : wps rm K Q c_M_apart_230 kc ks loc (a1 :: .ref (x + 1) :: st) h = (eg_cls h x 12 ∧ st.length ≤ 4 ∧ eg_Cs n_M_finding (.ref (x + 1) :: [a1]) h (fun v h9 => wps rm K Q c_M_apart_233 kc ks loc (v.toList ++ st) h9)) := eg_c1_1
theorem s_M_apart_233  : wps rm K Q c_M_apart_233 kc ks loc (st) h = K 248 kc ks loc st h := gk_goto
theorem s_M_apart_236 {x : Int32} {l0 l1 l2 : Option Value} {l : eg_Lo} : wps rm K Q c_M_apart_236 kc ks (l0 :: l1 :: l2 :: some (.int x) :: l) (st) h = wps rm K Q c_M_apart_237 kc ks (l0 :: l1 :: l2 :: some (.int x) :: l) (.int x :: st) h := gk_iload rfl
theorem s_M_apart_237 {x : Int32} : wps rm K Q c_M_apart_237 kc ks loc (.int x :: st) h = ((¬ x = 0 → K 245 kc ks loc st h) ∧ (x = 0 → wps rm K Q c_M_apart_240 kc ks loc (st) h)) := gk_if1_ne
theorem s_M_apart_240 {x : Int64} {l0 l1 l2 l3 : Option Value} {l : eg_Lo} : wps rm K Q c_M_apart_240 kc ks (l0 :: l1 :: l2 :: l3 :: some (.long x) :: l) (st) h = wps rm K Q c_M_apart_242 kc ks (l0 :: l1 :: l2 :: l3 :: some (.long x) :: l) (.long x :: st) h := gk_lload rfl
theorem s_M_apart_242  : wps rm K Q c_M_apart_242 kc ks loc (st) h = K 248 kc ks loc st h := gk_goto
theorem s_M_apart_245 {x : Int32} {l0 l1 l2 l3 l4 l5 : Option Value} {l : eg_Lo} : wps rm K Q c_M_apart_245 kc ks (l0 :: l1 :: l2 :: l3 :: l4 :: l5 :: some (.int x) :: l) (st) h = wps rm K Q c_M_apart_247 kc ks (l0 :: l1 :: l2 :: l3 :: l4 :: l5 :: some (.int x) :: l) (.int x :: st) h := gk_iload rfl
theorem s_M_apart_247 {x : Int32} : wps rm K Q c_M_apart_247 kc ks loc (.int x :: st) h = wps rm K Q c_M_apart_248 kc ks loc (.long (x.toInt64) :: st) h := gk_i2l
theorem s_M_apart_248 {x : Int64} : wps rm K Q c_M_apart_248 kc ks loc ([.long x]) h = (kc = rm.cells ∧ Q (some (.long x)) h) := gk_lret
theorem sz_M_apart_42 : wps rm K Q z_M_apart_42 kc ks loc st h = K 42 kc ks loc st h := gk_nop
def T_M_apart : List (Nat × List eg_I) := [(23, c_M_apart_23), (31, c_M_apart_31), (154, c_M_apart_154), (160, c_M_apart_160), (177, c_M_apart_177), (192, c_M_apart_192), (194, c_M_apart_194), (209, c_M_apart_209), (211, c_M_apart_211), (219, c_M_apart_219), (236, c_M_apart_236), (245, c_M_apart_245), (248, c_M_apart_248)]
theorem j_M_apart_23 {R : Nat → Nat → Nat → eg_Lo → List Value → List eg_E → Prop} {f pc0 : Nat} : eg_run rm R Q T_M_apart (f + 1) 23 kc ks loc st h = wps rm (eg_run rm R Q T_M_apart f) Q c_M_apart_23 kc ks loc st h := rfl
theorem j_M_apart_31 {R : Nat → Nat → Nat → eg_Lo → List Value → List eg_E → Prop} {f pc0 : Nat} : eg_run rm R Q T_M_apart (f + 1) 31 kc ks loc st h = wps rm (eg_run rm R Q T_M_apart f) Q c_M_apart_31 kc ks loc st h := rfl
theorem j_M_apart_154 {R : Nat → Nat → Nat → eg_Lo → List Value → List eg_E → Prop} {f pc0 : Nat} : eg_run rm R Q T_M_apart (f + 1) 154 kc ks loc st h = wps rm (eg_run rm R Q T_M_apart f) Q c_M_apart_154 kc ks loc st h := rfl
theorem j_M_apart_160 {R : Nat → Nat → Nat → eg_Lo → List Value → List eg_E → Prop} {f pc0 : Nat} : eg_run rm R Q T_M_apart (f + 1) 160 kc ks loc st h = wps rm (eg_run rm R Q T_M_apart f) Q c_M_apart_160 kc ks loc st h := rfl
theorem j_M_apart_177 {R : Nat → Nat → Nat → eg_Lo → List Value → List eg_E → Prop} {f pc0 : Nat} : eg_run rm R Q T_M_apart (f + 1) 177 kc ks loc st h = wps rm (eg_run rm R Q T_M_apart f) Q c_M_apart_177 kc ks loc st h := rfl
theorem j_M_apart_192 {R : Nat → Nat → Nat → eg_Lo → List Value → List eg_E → Prop} {f pc0 : Nat} : eg_run rm R Q T_M_apart (f + 1) 192 kc ks loc st h = wps rm (eg_run rm R Q T_M_apart f) Q c_M_apart_192 kc ks loc st h := rfl
theorem j_M_apart_194 {R : Nat → Nat → Nat → eg_Lo → List Value → List eg_E → Prop} {f pc0 : Nat} : eg_run rm R Q T_M_apart (f + 1) 194 kc ks loc st h = wps rm (eg_run rm R Q T_M_apart f) Q c_M_apart_194 kc ks loc st h := rfl
theorem j_M_apart_209 {R : Nat → Nat → Nat → eg_Lo → List Value → List eg_E → Prop} {f pc0 : Nat} : eg_run rm R Q T_M_apart (f + 1) 209 kc ks loc st h = wps rm (eg_run rm R Q T_M_apart f) Q c_M_apart_209 kc ks loc st h := rfl
theorem j_M_apart_211 {R : Nat → Nat → Nat → eg_Lo → List Value → List eg_E → Prop} {f pc0 : Nat} : eg_run rm R Q T_M_apart (f + 1) 211 kc ks loc st h = wps rm (eg_run rm R Q T_M_apart f) Q c_M_apart_211 kc ks loc st h := rfl
theorem j_M_apart_219 {R : Nat → Nat → Nat → eg_Lo → List Value → List eg_E → Prop} {f pc0 : Nat} : eg_run rm R Q T_M_apart (f + 1) 219 kc ks loc st h = wps rm (eg_run rm R Q T_M_apart f) Q c_M_apart_219 kc ks loc st h := rfl
theorem j_M_apart_236 {R : Nat → Nat → Nat → eg_Lo → List Value → List eg_E → Prop} {f pc0 : Nat} : eg_run rm R Q T_M_apart (f + 1) 236 kc ks loc st h = wps rm (eg_run rm R Q T_M_apart f) Q c_M_apart_236 kc ks loc st h := rfl
theorem j_M_apart_245 {R : Nat → Nat → Nat → eg_Lo → List Value → List eg_E → Prop} {f pc0 : Nat} : eg_run rm R Q T_M_apart (f + 1) 245 kc ks loc st h = wps rm (eg_run rm R Q T_M_apart f) Q c_M_apart_245 kc ks loc st h := rfl
theorem j_M_apart_248 {R : Nat → Nat → Nat → eg_Lo → List Value → List eg_E → Prop} {f pc0 : Nat} : eg_run rm R Q T_M_apart (f + 1) 248 kc ks loc st h = wps rm (eg_run rm R Q T_M_apart f) Q c_M_apart_248 kc ks loc st h := rfl
theorem j_M_apart_42 {R : Nat → Nat → Nat → eg_Lo → List Value → List eg_E → Prop} {f pc0 : Nat} : eg_run rm R Q T_M_apart (f + 1) 42 kc ks loc st h = R 42 kc ks loc st h := rfl
end
theorem y_M_apart_0 : eg_seq m_M_apart 0 c_M_apart_0 = true := by decide +kernel
theorem y_M_apart_31 : eg_seq m_M_apart 31 c_M_apart_31 = true := by decide +kernel
theorem y_M_apart_42 : eg_seq m_M_apart 42 c_M_apart_42 = true := by decide +kernel
theorem y_M_apart_160 : eg_seq m_M_apart 160 c_M_apart_160 = true := by decide +kernel
theorem y_M_apart_192 : eg_seq m_M_apart 192 c_M_apart_192 = true := by decide +kernel
theorem y_M_apart_209 : eg_seq m_M_apart 209 c_M_apart_209 = true := by decide +kernel
theorem y_M_apart_219 : eg_seq m_M_apart 219 c_M_apart_219 = true := by decide +kernel
theorem y_M_apart_236 : eg_seq m_M_apart 236 c_M_apart_236 = true := by decide +kernel
theorem y_M_apart_245 : eg_seq m_M_apart 245 c_M_apart_245 = true := by decide +kernel
theorem q_M_apart : ∀ q ∈ T_M_apart, eg_seq m_M_apart q.1 q.2 = true := by
  intro q hq
  simp only [T_M_apart, List.mem_cons, List.not_mem_nil, or_false] at hq
  rcases hq with rfl | rfl | rfl | rfl | rfl | rfl | rfl | rfl | rfl | rfl | rfl | rfl | rfl
  · exact (eg_seq_drop y_M_apart_0 11 : eg_seq m_M_apart 23 c_M_apart_23 = true)
  · exact y_M_apart_31
  · exact (eg_seq_drop y_M_apart_42 63 : eg_seq m_M_apart 154 c_M_apart_154 = true)
  · exact y_M_apart_160
  · exact (eg_seq_drop y_M_apart_160 11 : eg_seq m_M_apart 177 c_M_apart_177 = true)
  · exact y_M_apart_192
  · exact (eg_seq_drop y_M_apart_192 1 : eg_seq m_M_apart 194 c_M_apart_194 = true)
  · exact y_M_apart_209
  · exact (eg_seq_drop y_M_apart_209 1 : eg_seq m_M_apart 211 c_M_apart_211 = true)
  · exact y_M_apart_219
  · exact y_M_apart_236
  · exact y_M_apart_245
  · exact (eg_seq_drop y_M_apart_245 2 : eg_seq m_M_apart 248 c_M_apart_248 = true)
theorem b_M_apart {as : List Value} {h : List eg_E} {Q : Option Value → List eg_E → Prop} (hf : (eg_fl as).length ≤ 18) (hw : wps (eg_rm m_M_apart) (eg_run (eg_rm m_M_apart) (eg_R m_M_apart Q (h.length + 0)) Q T_M_apart 15) Q c_M_apart_0 0 0 (eg_entry 18 as) [] h) : eg_Runs n_M_apart as h Q := eg_begin2 (d := m_M_apart) rfl (by decide) y_M_apart_0 q_M_apart hf hw
theorem p_M_apart_42 {Q : Option Value → List eg_E → Prop} {n0 kc ks : Nat} {loc : eg_Lo} {st : List Value} {h : List eg_E} (hw : wps (eg_rm m_M_apart) (eg_run (eg_rm m_M_apart) (eg_R m_M_apart Q n0) Q T_M_apart 15) Q c_M_apart_42 kc ks loc st h) : eg_R m_M_apart Q n0 42 kc ks loc st h := eg_go2 y_M_apart_42 q_M_apart hw
/-! ===== M_isSheet ===== -/
def c_M_isSheet_6 : List eg_I := .inl (6, 1, .ireturn, 0, 1) :: []
def c_M_isSheet_3 : List eg_I := .inr (3, 0, 95, n_M_isIn, 3, 12, 0, 0) :: c_M_isSheet_6
def c_M_isSheet_2 : List eg_I := .inl (2, 1, .iconst (3), 0, 0) :: c_M_isSheet_3
def c_M_isSheet_1 : List eg_I := .inl (1, 1, .iconst (0), 0, 0) :: c_M_isSheet_2
def c_M_isSheet_0 : List eg_I := .inl (0, 1, .iload 0, 0, 0) :: c_M_isSheet_1
section
variable {rm : Room} {K : Nat → Nat → Nat → eg_Lo → List Value → List eg_E → Prop} {Q : Option Value → List eg_E → Prop} {kc ks : Nat} {loc : eg_Lo} {st : List Value} {h : List eg_E}
theorem s_M_isSheet_0 {x : Int32} {l : eg_Lo} : wps rm K Q c_M_isSheet_0 kc ks (some (.int x) :: l) (st) h = wps rm K Q c_M_isSheet_1 kc ks (some (.int x) :: l) (.int x :: st) h := gk_iload rfl
theorem s_M_isSheet_1  : wps rm K Q c_M_isSheet_1 kc ks loc (st) h = wps rm K Q c_M_isSheet_2 kc ks loc (.int (0) :: st) h := gk_ic (by decide)
theorem s_M_isSheet_2  : wps rm K Q c_M_isSheet_2 kc ks loc (st) h = wps rm K Q c_M_isSheet_3 kc ks loc (.int (3) :: st) h := gk_ic (by decide)
theorem s_M_isSheet_3  {a1 : Value} {a2 : Value} {a3 : Value} : wps rm K Q c_M_isSheet_3 kc ks loc (a3 :: a2 :: a1 :: st) h = (st.length ≤ 4 ∧ eg_Cs n_M_isIn [a1, a2, a3] h (fun v h9 => wps rm K Q c_M_isSheet_6 kc ks loc (v.toList ++ st) h9)) := eg_c0_3
theorem s_M_isSheet_6 {x : Int32} : wps rm K Q c_M_isSheet_6 kc ks loc ([.int x]) h = (kc = rm.cells ∧ ((1 : Nat) = 1 → x = 0 ∨ x = 1) ∧ Q (some (.int x)) h) := gk_iret
def T_M_isSheet : List (Nat × List eg_I) := []
end
theorem y_M_isSheet_0 : eg_seq m_M_isSheet 0 c_M_isSheet_0 = true := by decide +kernel
theorem q_M_isSheet : ∀ q ∈ T_M_isSheet, eg_seq m_M_isSheet q.1 q.2 = true := by
  intro q hq
  cases hq
theorem b_M_isSheet {as : List Value} {h : List eg_E} {Q : Option Value → List eg_E → Prop} (hf : (eg_fl as).length ≤ 1) (hw : wps (eg_rm m_M_isSheet) (eg_run (eg_rm m_M_isSheet) (eg_R m_M_isSheet Q (h.length + 0)) Q T_M_isSheet 2) Q c_M_isSheet_0 0 0 (eg_entry 1 as) [] h) : eg_Runs n_M_isSheet as h Q := eg_begin2 (d := m_M_isSheet) rfl (by decide) y_M_isSheet_0 q_M_isSheet hf hw
/-! ===== M_sheet ===== -/
def z_M_sheet_75 : List eg_I := [.inl (75, 0, .nop, 0, 0)]
def c_M_sheet_121 : List eg_I := .inl (121, 1, .lreturn, 0, 0) :: []
def c_M_sheet_120 : List eg_I := .inl (120, 1, .i2l, 0, 0) :: c_M_sheet_121
def c_M_sheet_119 : List eg_I := .inl (119, 1, .iaload, 0, 0) :: c_M_sheet_120
def c_M_sheet_118 : List eg_I := .inl (118, 1, .iload 1, 0, 0) :: c_M_sheet_119
def c_M_sheet_115 : List eg_I := .inl (115, 3, .getfield 72, 12, 23) :: c_M_sheet_118
def c_M_sheet_114 : List eg_I := .inl (114, 1, .aload 0, 0, 0) :: c_M_sheet_115
def c_M_sheet_111 : List eg_I := .inl (111, 3, .goto (-36), 75, 0) :: []
def c_M_sheet_108 : List eg_I := .inl (108, 3, .iinc 4 (1), 0, 0) :: c_M_sheet_111
def c_M_sheet_107 : List eg_I := .inl (107, 1, .dastore, 0, 0) :: c_M_sheet_108
def c_M_sheet_106 : List eg_I := .inl (106, 1, .dconst 0, 0, 0) :: c_M_sheet_107
def c_M_sheet_105 : List eg_I := .inl (105, 1, .iadd, 0, 0) :: c_M_sheet_106
def c_M_sheet_103 : List eg_I := .inl (103, 2, .iload 4, 0, 0) :: c_M_sheet_105
def c_M_sheet_102 : List eg_I := .inl (102, 1, .imul, 0, 0) :: c_M_sheet_103
def c_M_sheet_101 : List eg_I := .inl (101, 1, .iload 1, 0, 0) :: c_M_sheet_102
def c_M_sheet_99 : List eg_I := .inl (99, 2, .iconst (48), 0, 0) :: c_M_sheet_101
def c_M_sheet_96 : List eg_I := .inl (96, 3, .getfield 78, 12, 25) :: c_M_sheet_99
def c_M_sheet_95 : List eg_I := .inl (95, 1, .aload 0, 0, 0) :: c_M_sheet_96
def c_M_sheet_94 : List eg_I := .inl (94, 1, .iastore, 0, 0) :: c_M_sheet_95
def c_M_sheet_93 : List eg_I := .inl (93, 1, .iconst (0), 0, 0) :: c_M_sheet_94
def c_M_sheet_92 : List eg_I := .inl (92, 1, .iadd, 0, 0) :: c_M_sheet_93
def c_M_sheet_90 : List eg_I := .inl (90, 2, .iload 4, 0, 0) :: c_M_sheet_92
def c_M_sheet_89 : List eg_I := .inl (89, 1, .imul, 0, 0) :: c_M_sheet_90
def c_M_sheet_88 : List eg_I := .inl (88, 1, .iload 1, 0, 0) :: c_M_sheet_89
def c_M_sheet_86 : List eg_I := .inl (86, 2, .iconst (48), 0, 0) :: c_M_sheet_88
def c_M_sheet_83 : List eg_I := .inl (83, 3, .getfield 75, 12, 24) :: c_M_sheet_86
def c_M_sheet_82 : List eg_I := .inl (82, 1, .aload 0, 0, 0) :: c_M_sheet_83
def c_M_sheet_79 : List eg_I := .inl (79, 3, .if_icmp .ge (35), 114, 0) :: c_M_sheet_82
def c_M_sheet_77 : List eg_I := .inl (77, 2, .iconst (48), 0, 0) :: c_M_sheet_79
def c_M_sheet_75 : List eg_I := .inl (75, 2, .iload 4, 0, 0) :: c_M_sheet_77
def c_M_sheet_73 : List eg_I := .inl (73, 2, .istore 4, 0, 0) :: z_M_sheet_75
def c_M_sheet_72 : List eg_I := .inl (72, 1, .iconst (0), 0, 0) :: c_M_sheet_73
def c_M_sheet_71 : List eg_I := .inl (71, 1, .iastore, 0, 0) :: c_M_sheet_72
def c_M_sheet_70 : List eg_I := .inl (70, 1, .iload 3, 0, 0) :: c_M_sheet_71
def c_M_sheet_67 : List eg_I := .inl (67, 3, .goto (4), 71, 0) :: []
def c_M_sheet_66 : List eg_I := .inl (66, 1, .iconst (0), 0, 0) :: c_M_sheet_67
def c_M_sheet_63 : List eg_I := .inl (63, 3, .ifCond .ne (7), 70, 0) :: c_M_sheet_66
def c_M_sheet_62 : List eg_I := .inl (62, 1, .iload 2, 0, 0) :: c_M_sheet_63
def c_M_sheet_61 : List eg_I := .inl (61, 1, .iload 1, 0, 0) :: c_M_sheet_62
def c_M_sheet_58 : List eg_I := .inl (58, 3, .getfield 72, 12, 23) :: c_M_sheet_61
def c_M_sheet_57 : List eg_I := .inl (57, 1, .aload 0, 0, 0) :: c_M_sheet_58
def c_M_sheet_56 : List eg_I := .inl (56, 1, .iastore, 0, 0) :: c_M_sheet_57
def c_M_sheet_55 : List eg_I := .inl (55, 1, .iload 2, 0, 0) :: c_M_sheet_56
def c_M_sheet_54 : List eg_I := .inl (54, 1, .iload 1, 0, 0) :: c_M_sheet_55
def c_M_sheet_51 : List eg_I := .inl (51, 3, .getfield 69, 12, 22) :: c_M_sheet_54
def c_M_sheet_50 : List eg_I := .inl (50, 1, .aload 0, 0, 0) :: c_M_sheet_51
def c_M_sheet_49 : List eg_I := .inl (49, 1, .lreturn, 0, 0) :: []
def c_M_sheet_46 : List eg_I := .inr (46, 1, 112, n_M_finding, 1, 12, 0, 0) :: c_M_sheet_49
def c_M_sheet_43 : List eg_I := .inl (43, 3, .sipush (-1000000000000000001), 110, 0) :: c_M_sheet_46
def c_M_sheet_42 : List eg_I := .inl (42, 1, .aload 0, 0, 0) :: c_M_sheet_43
def c_M_sheet_39 : List eg_I := .inl (39, 3, .if_icmp .le (11), 50, 0) :: c_M_sheet_42
def c_M_sheet_37 : List eg_I := .inl (37, 2, .iconst (48), 0, 0) :: c_M_sheet_39
def c_M_sheet_36 : List eg_I := .inl (36, 1, .iload 3, 0, 0) :: c_M_sheet_37
def c_M_sheet_35 : List eg_I := .inl (35, 1, .lreturn, 0, 0) :: []
def c_M_sheet_32 : List eg_I := .inr (32, 1, 112, n_M_finding, 1, 12, 0, 0) :: c_M_sheet_35
def c_M_sheet_29 : List eg_I := .inl (29, 3, .sipush (-1000000000000000003), 143, 0) :: c_M_sheet_32
def c_M_sheet_28 : List eg_I := .inl (28, 1, .aload 0, 0, 0) :: c_M_sheet_29
def c_M_sheet_25 : List eg_I := .inl (25, 3, .ifCond .ge (11), 36, 0) :: c_M_sheet_28
def c_M_sheet_24 : List eg_I := .inl (24, 1, .iload 3, 0, 0) :: c_M_sheet_25
def c_M_sheet_23 : List eg_I := .inl (23, 1, .lreturn, 0, 0) :: []
def c_M_sheet_20 : List eg_I := .inr (20, 1, 112, n_M_finding, 1, 12, 0, 0) :: c_M_sheet_23
def c_M_sheet_17 : List eg_I := .inl (17, 3, .sipush (-1000000000000000001), 110, 0) :: c_M_sheet_20
def c_M_sheet_16 : List eg_I := .inl (16, 1, .aload 0, 0, 0) :: c_M_sheet_17
def c_M_sheet_13 : List eg_I := .inl (13, 3, .ifCond .ne (11), 24, 0) :: c_M_sheet_16
def c_M_sheet_10 : List eg_I := .inr (10, 0, 95, n_M_isIn, 3, 12, 0, 0) :: c_M_sheet_13
def c_M_sheet_9 : List eg_I := .inl (9, 1, .iconst (3), 0, 0) :: c_M_sheet_10
def c_M_sheet_8 : List eg_I := .inl (8, 1, .iconst (0), 0, 0) :: c_M_sheet_9
def c_M_sheet_7 : List eg_I := .inl (7, 1, .iload 2, 0, 0) :: c_M_sheet_8
def c_M_sheet_4 : List eg_I := .inl (4, 3, .ifCond .eq (12), 16, 0) :: c_M_sheet_7
def c_M_sheet_1 : List eg_I := .inr (1, 0, 140, n_M_isSheet, 1, 12, 0, 0) :: c_M_sheet_4
def c_M_sheet_0 : List eg_I := .inl (0, 1, .iload 1, 0, 0) :: c_M_sheet_1
section
variable {rm : Room} {K : Nat → Nat → Nat → eg_Lo → List Value → List eg_E → Prop} {Q : Option Value → List eg_E → Prop} {kc ks : Nat} {loc : eg_Lo} {st : List Value} {h : List eg_E}
theorem s_M_sheet_0 {x : Int32} {l0 : Option Value} {l : eg_Lo} : wps rm K Q c_M_sheet_0 kc ks (l0 :: some (.int x) :: l) (st) h = wps rm K Q c_M_sheet_1 kc ks (l0 :: some (.int x) :: l) (.int x :: st) h := gk_iload rfl
theorem s_M_sheet_1  {a1 : Value} : wps rm K Q c_M_sheet_1 kc ks loc (a1 :: st) h = (st.length ≤ 4 ∧ eg_Cs n_M_isSheet [a1] h (fun v h9 => wps rm K Q c_M_sheet_4 kc ks loc (v.toList ++ st) h9)) := eg_c0_1
theorem s_M_sheet_4 {x : Int32} : wps rm K Q c_M_sheet_4 kc ks loc (.int x :: st) h = ((x = 0 → K 16 kc ks loc st h) ∧ (¬ x = 0 → wps rm K Q c_M_sheet_7 kc ks loc (st) h)) := gk_if1_eq
theorem s_M_sheet_7 {x : Int32} {l0 l1 : Option Value} {l : eg_Lo} : wps rm K Q c_M_sheet_7 kc ks (l0 :: l1 :: some (.int x) :: l) (st) h = wps rm K Q c_M_sheet_8 kc ks (l0 :: l1 :: some (.int x) :: l) (.int x :: st) h := gk_iload rfl
theorem s_M_sheet_8  : wps rm K Q c_M_sheet_8 kc ks loc (st) h = wps rm K Q c_M_sheet_9 kc ks loc (.int (0) :: st) h := gk_ic (by decide)
theorem s_M_sheet_9  : wps rm K Q c_M_sheet_9 kc ks loc (st) h = wps rm K Q c_M_sheet_10 kc ks loc (.int (3) :: st) h := gk_ic (by decide)
theorem s_M_sheet_10  {a1 : Value} {a2 : Value} {a3 : Value} : wps rm K Q c_M_sheet_10 kc ks loc (a3 :: a2 :: a1 :: st) h = (st.length ≤ 4 ∧ eg_Cs n_M_isIn [a1, a2, a3] h (fun v h9 => wps rm K Q c_M_sheet_13 kc ks loc (v.toList ++ st) h9)) := eg_c0_3
theorem s_M_sheet_13 {x : Int32} : wps rm K Q c_M_sheet_13 kc ks loc (.int x :: st) h = ((¬ x = 0 → K 24 kc ks loc st h) ∧ (x = 0 → wps rm K Q c_M_sheet_16 kc ks loc (st) h)) := gk_if1_ne
theorem s_M_sheet_16 {x : Nat} {l : eg_Lo} : wps rm K Q c_M_sheet_16 kc ks (some (.ref x) :: l) (st) h = wps rm K Q c_M_sheet_17 kc ks (some (.ref x) :: l) (.ref x :: st) h := gk_aload rfl
theorem s_M_sheet_17  : wps rm K Q c_M_sheet_17 kc ks loc (st) h = wps rm K Q c_M_sheet_20 kc ks loc (.long (-1000000000000000001) :: st) h := gk_lc (by decide)
theorem s_M_sheet_20  {a1 : Value} {x : Nat} : wps rm K Q c_M_sheet_20 kc ks loc (a1 :: .ref (x + 1) :: st) h = (eg_cls h x 12 ∧ st.length ≤ 4 ∧ eg_Cs n_M_finding (.ref (x + 1) :: [a1]) h (fun v h9 => wps rm K Q c_M_sheet_23 kc ks loc (v.toList ++ st) h9)) := eg_c1_1
theorem s_M_sheet_23 {x : Int64} : wps rm K Q c_M_sheet_23 kc ks loc ([.long x]) h = (kc = rm.cells ∧ Q (some (.long x)) h) := gk_lret
theorem s_M_sheet_24 {x : Int32} {l0 l1 l2 : Option Value} {l : eg_Lo} : wps rm K Q c_M_sheet_24 kc ks (l0 :: l1 :: l2 :: some (.int x) :: l) (st) h = wps rm K Q c_M_sheet_25 kc ks (l0 :: l1 :: l2 :: some (.int x) :: l) (.int x :: st) h := gk_iload rfl
theorem s_M_sheet_25 {x : Int32} : wps rm K Q c_M_sheet_25 kc ks loc (.int x :: st) h = ((0 ≤ x → K 36 kc ks loc st h) ∧ (¬ 0 ≤ x → wps rm K Q c_M_sheet_28 kc ks loc (st) h)) := gk_if1_ge
theorem s_M_sheet_28 {x : Nat} {l : eg_Lo} : wps rm K Q c_M_sheet_28 kc ks (some (.ref x) :: l) (st) h = wps rm K Q c_M_sheet_29 kc ks (some (.ref x) :: l) (.ref x :: st) h := gk_aload rfl
theorem s_M_sheet_29  : wps rm K Q c_M_sheet_29 kc ks loc (st) h = wps rm K Q c_M_sheet_32 kc ks loc (.long (-1000000000000000003) :: st) h := gk_lc (by decide)
theorem s_M_sheet_32  {a1 : Value} {x : Nat} : wps rm K Q c_M_sheet_32 kc ks loc (a1 :: .ref (x + 1) :: st) h = (eg_cls h x 12 ∧ st.length ≤ 4 ∧ eg_Cs n_M_finding (.ref (x + 1) :: [a1]) h (fun v h9 => wps rm K Q c_M_sheet_35 kc ks loc (v.toList ++ st) h9)) := eg_c1_1
theorem s_M_sheet_35 {x : Int64} : wps rm K Q c_M_sheet_35 kc ks loc ([.long x]) h = (kc = rm.cells ∧ Q (some (.long x)) h) := gk_lret
theorem s_M_sheet_36 {x : Int32} {l0 l1 l2 : Option Value} {l : eg_Lo} : wps rm K Q c_M_sheet_36 kc ks (l0 :: l1 :: l2 :: some (.int x) :: l) (st) h = wps rm K Q c_M_sheet_37 kc ks (l0 :: l1 :: l2 :: some (.int x) :: l) (.int x :: st) h := gk_iload rfl
theorem s_M_sheet_37  : wps rm K Q c_M_sheet_37 kc ks loc (st) h = wps rm K Q c_M_sheet_39 kc ks loc (.int (48) :: st) h := gk_ic (by decide)
theorem s_M_sheet_39 {x y : Int32} : wps rm K Q c_M_sheet_39 kc ks loc (.int y :: .int x :: st) h = ((x ≤ y → K 50 kc ks loc st h) ∧ (¬ x ≤ y → wps rm K Q c_M_sheet_42 kc ks loc (st) h)) := gk_if2_le
theorem s_M_sheet_42 {x : Nat} {l : eg_Lo} : wps rm K Q c_M_sheet_42 kc ks (some (.ref x) :: l) (st) h = wps rm K Q c_M_sheet_43 kc ks (some (.ref x) :: l) (.ref x :: st) h := gk_aload rfl
theorem s_M_sheet_43  : wps rm K Q c_M_sheet_43 kc ks loc (st) h = wps rm K Q c_M_sheet_46 kc ks loc (.long (-1000000000000000001) :: st) h := gk_lc (by decide)
theorem s_M_sheet_46  {a1 : Value} {x : Nat} : wps rm K Q c_M_sheet_46 kc ks loc (a1 :: .ref (x + 1) :: st) h = (eg_cls h x 12 ∧ st.length ≤ 4 ∧ eg_Cs n_M_finding (.ref (x + 1) :: [a1]) h (fun v h9 => wps rm K Q c_M_sheet_49 kc ks loc (v.toList ++ st) h9)) := eg_c1_1
theorem s_M_sheet_49 {x : Int64} : wps rm K Q c_M_sheet_49 kc ks loc ([.long x]) h = (kc = rm.cells ∧ Q (some (.long x)) h) := gk_lret
theorem s_M_sheet_50 {x : Nat} {l : eg_Lo} : wps rm K Q c_M_sheet_50 kc ks (some (.ref x) :: l) (st) h = wps rm K Q c_M_sheet_51 kc ks (some (.ref x) :: l) (.ref x :: st) h := gk_aload rfl
theorem s_M_sheet_51 {x : Nat} : wps rm K Q c_M_sheet_51 kc ks loc (.ref (x + 1) :: st) h = eg_gf h x 12 22 (fun v => wps rm K Q c_M_sheet_54 kc ks loc (v :: st) h) := gk_gf
theorem s_M_sheet_54 {x : Int32} {l0 : Option Value} {l : eg_Lo} : wps rm K Q c_M_sheet_54 kc ks (l0 :: some (.int x) :: l) (st) h = wps rm K Q c_M_sheet_55 kc ks (l0 :: some (.int x) :: l) (.int x :: st) h := gk_iload rfl
theorem s_M_sheet_55 {x : Int32} {l0 l1 : Option Value} {l : eg_Lo} : wps rm K Q c_M_sheet_55 kc ks (l0 :: l1 :: some (.int x) :: l) (st) h = wps rm K Q c_M_sheet_56 kc ks (l0 :: l1 :: some (.int x) :: l) (.int x :: st) h := gk_iload rfl
theorem s_M_sheet_56 {x : Nat} {i : Int32} {v : Int32} : wps rm K Q c_M_sheet_56 kc ks loc (.int v :: .int i :: .ref (x + 1) :: st) h = eg_is h x i v (fun h9 => wps rm K Q c_M_sheet_57 kc ks loc (st) h9) := gk_iastore
theorem s_M_sheet_57 {x : Nat} {l : eg_Lo} : wps rm K Q c_M_sheet_57 kc ks (some (.ref x) :: l) (st) h = wps rm K Q c_M_sheet_58 kc ks (some (.ref x) :: l) (.ref x :: st) h := gk_aload rfl
theorem s_M_sheet_58 {x : Nat} : wps rm K Q c_M_sheet_58 kc ks loc (.ref (x + 1) :: st) h = eg_gf h x 12 23 (fun v => wps rm K Q c_M_sheet_61 kc ks loc (v :: st) h) := gk_gf
theorem s_M_sheet_61 {x : Int32} {l0 : Option Value} {l : eg_Lo} : wps rm K Q c_M_sheet_61 kc ks (l0 :: some (.int x) :: l) (st) h = wps rm K Q c_M_sheet_62 kc ks (l0 :: some (.int x) :: l) (.int x :: st) h := gk_iload rfl
theorem s_M_sheet_62 {x : Int32} {l0 l1 : Option Value} {l : eg_Lo} : wps rm K Q c_M_sheet_62 kc ks (l0 :: l1 :: some (.int x) :: l) (st) h = wps rm K Q c_M_sheet_63 kc ks (l0 :: l1 :: some (.int x) :: l) (.int x :: st) h := gk_iload rfl
theorem s_M_sheet_63 {x : Int32} : wps rm K Q c_M_sheet_63 kc ks loc (.int x :: st) h = ((¬ x = 0 → K 70 kc ks loc st h) ∧ (x = 0 → wps rm K Q c_M_sheet_66 kc ks loc (st) h)) := gk_if1_ne
theorem s_M_sheet_66  : wps rm K Q c_M_sheet_66 kc ks loc (st) h = wps rm K Q c_M_sheet_67 kc ks loc (.int (0) :: st) h := gk_ic (by decide)
theorem s_M_sheet_67  : wps rm K Q c_M_sheet_67 kc ks loc (st) h = K 71 kc ks loc st h := gk_goto
theorem s_M_sheet_70 {x : Int32} {l0 l1 l2 : Option Value} {l : eg_Lo} : wps rm K Q c_M_sheet_70 kc ks (l0 :: l1 :: l2 :: some (.int x) :: l) (st) h = wps rm K Q c_M_sheet_71 kc ks (l0 :: l1 :: l2 :: some (.int x) :: l) (.int x :: st) h := gk_iload rfl
theorem s_M_sheet_71 {x : Nat} {i : Int32} {v : Int32} : wps rm K Q c_M_sheet_71 kc ks loc (.int v :: .int i :: .ref (x + 1) :: st) h = eg_is h x i v (fun h9 => wps rm K Q c_M_sheet_72 kc ks loc (st) h9) := gk_iastore
theorem s_M_sheet_72  : wps rm K Q c_M_sheet_72 kc ks loc (st) h = wps rm K Q c_M_sheet_73 kc ks loc (.int (0) :: st) h := gk_ic (by decide)
theorem s_M_sheet_73 {x : Int32} : wps rm K Q c_M_sheet_73 kc ks loc (.int x :: st) h = wps rm K Q z_M_sheet_75 kc ks (eg_set1 loc 4 (.int x)) (st) h := gk_istore
theorem s_M_sheet_75 {x : Int32} {l0 l1 l2 l3 : Option Value} {l : eg_Lo} : wps rm K Q c_M_sheet_75 kc ks (l0 :: l1 :: l2 :: l3 :: some (.int x) :: l) (st) h = wps rm K Q c_M_sheet_77 kc ks (l0 :: l1 :: l2 :: l3 :: some (.int x) :: l) (.int x :: st) h := gk_iload rfl
theorem s_M_sheet_77  : wps rm K Q c_M_sheet_77 kc ks loc (st) h = wps rm K Q c_M_sheet_79 kc ks loc (.int (48) :: st) h := gk_ic (by decide)
theorem s_M_sheet_79 {x y : Int32} : wps rm K Q c_M_sheet_79 kc ks loc (.int y :: .int x :: st) h = ((y ≤ x → K 114 kc ks loc st h) ∧ (¬ y ≤ x → wps rm K Q c_M_sheet_82 kc ks loc (st) h)) := gk_if2_ge
theorem s_M_sheet_82 {x : Nat} {l : eg_Lo} : wps rm K Q c_M_sheet_82 kc ks (some (.ref x) :: l) (st) h = wps rm K Q c_M_sheet_83 kc ks (some (.ref x) :: l) (.ref x :: st) h := gk_aload rfl
theorem s_M_sheet_83 {x : Nat} : wps rm K Q c_M_sheet_83 kc ks loc (.ref (x + 1) :: st) h = eg_gf h x 12 24 (fun v => wps rm K Q c_M_sheet_86 kc ks loc (v :: st) h) := gk_gf
theorem s_M_sheet_86  : wps rm K Q c_M_sheet_86 kc ks loc (st) h = wps rm K Q c_M_sheet_88 kc ks loc (.int (48) :: st) h := gk_ic (by decide)
theorem s_M_sheet_88 {x : Int32} {l0 : Option Value} {l : eg_Lo} : wps rm K Q c_M_sheet_88 kc ks (l0 :: some (.int x) :: l) (st) h = wps rm K Q c_M_sheet_89 kc ks (l0 :: some (.int x) :: l) (.int x :: st) h := gk_iload rfl
theorem s_M_sheet_89 {x y : Int32} : wps rm K Q c_M_sheet_89 kc ks loc (.int y :: .int x :: st) h = wps rm K Q c_M_sheet_90 kc ks loc (.int (x * y) :: st) h := gk_imul
theorem s_M_sheet_90 {x : Int32} {l0 l1 l2 l3 : Option Value} {l : eg_Lo} : wps rm K Q c_M_sheet_90 kc ks (l0 :: l1 :: l2 :: l3 :: some (.int x) :: l) (st) h = wps rm K Q c_M_sheet_92 kc ks (l0 :: l1 :: l2 :: l3 :: some (.int x) :: l) (.int x :: st) h := gk_iload rfl
theorem s_M_sheet_92 {x y : Int32} : wps rm K Q c_M_sheet_92 kc ks loc (.int y :: .int x :: st) h = wps rm K Q c_M_sheet_93 kc ks loc (.int (x + y) :: st) h := gk_iadd
theorem s_M_sheet_93  : wps rm K Q c_M_sheet_93 kc ks loc (st) h = wps rm K Q c_M_sheet_94 kc ks loc (.int (0) :: st) h := gk_ic (by decide)
theorem s_M_sheet_94 {x : Nat} {i : Int32} {v : Int32} : wps rm K Q c_M_sheet_94 kc ks loc (.int v :: .int i :: .ref (x + 1) :: st) h = eg_is h x i v (fun h9 => wps rm K Q c_M_sheet_95 kc ks loc (st) h9) := gk_iastore
theorem s_M_sheet_95 {x : Nat} {l : eg_Lo} : wps rm K Q c_M_sheet_95 kc ks (some (.ref x) :: l) (st) h = wps rm K Q c_M_sheet_96 kc ks (some (.ref x) :: l) (.ref x :: st) h := gk_aload rfl
theorem s_M_sheet_96 {x : Nat} : wps rm K Q c_M_sheet_96 kc ks loc (.ref (x + 1) :: st) h = eg_gf h x 12 25 (fun v => wps rm K Q c_M_sheet_99 kc ks loc (v :: st) h) := gk_gf
theorem s_M_sheet_99  : wps rm K Q c_M_sheet_99 kc ks loc (st) h = wps rm K Q c_M_sheet_101 kc ks loc (.int (48) :: st) h := gk_ic (by decide)
theorem s_M_sheet_101 {x : Int32} {l0 : Option Value} {l : eg_Lo} : wps rm K Q c_M_sheet_101 kc ks (l0 :: some (.int x) :: l) (st) h = wps rm K Q c_M_sheet_102 kc ks (l0 :: some (.int x) :: l) (.int x :: st) h := gk_iload rfl
theorem s_M_sheet_102 {x y : Int32} : wps rm K Q c_M_sheet_102 kc ks loc (.int y :: .int x :: st) h = wps rm K Q c_M_sheet_103 kc ks loc (.int (x * y) :: st) h := gk_imul
theorem s_M_sheet_103 {x : Int32} {l0 l1 l2 l3 : Option Value} {l : eg_Lo} : wps rm K Q c_M_sheet_103 kc ks (l0 :: l1 :: l2 :: l3 :: some (.int x) :: l) (st) h = wps rm K Q c_M_sheet_105 kc ks (l0 :: l1 :: l2 :: l3 :: some (.int x) :: l) (.int x :: st) h := gk_iload rfl
theorem s_M_sheet_105 {x y : Int32} : wps rm K Q c_M_sheet_105 kc ks loc (.int y :: .int x :: st) h = wps rm K Q c_M_sheet_106 kc ks loc (.int (x + y) :: st) h := gk_iadd
theorem s_M_sheet_106  : wps rm K Q c_M_sheet_106 kc ks loc (st) h = wps rm K Q c_M_sheet_107 kc ks loc (.double FP.dconst0 :: st) h := gk_dz
theorem s_M_sheet_107 {x : Nat} {i : Int32} {v : UInt64} : wps rm K Q c_M_sheet_107 kc ks loc (.double v :: .int i :: .ref (x + 1) :: st) h = eg_ds h x i v (fun h9 => wps rm K Q c_M_sheet_108 kc ks loc (st) h9) := gk_dastore
theorem s_M_sheet_108 {x : Int32} {l0 l1 l2 l3 : Option Value} {lz : eg_Lo} : wps rm K Q c_M_sheet_108 kc ks (l0 :: l1 :: l2 :: l3 :: some (.int x) :: lz) (st) h = wps rm K Q c_M_sheet_111 kc ks (eg_set1 (l0 :: l1 :: l2 :: l3 :: some (.int x) :: lz) 4 (.int (x + (1)))) (st) h := gk_iinc rfl (by decide)
theorem s_M_sheet_111  : wps rm K Q c_M_sheet_111 kc ks loc (st) h = K 75 kc ks loc st h := gk_goto
theorem s_M_sheet_114 {x : Nat} {l : eg_Lo} : wps rm K Q c_M_sheet_114 kc ks (some (.ref x) :: l) (st) h = wps rm K Q c_M_sheet_115 kc ks (some (.ref x) :: l) (.ref x :: st) h := gk_aload rfl
theorem s_M_sheet_115 {x : Nat} : wps rm K Q c_M_sheet_115 kc ks loc (.ref (x + 1) :: st) h = eg_gf h x 12 23 (fun v => wps rm K Q c_M_sheet_118 kc ks loc (v :: st) h) := gk_gf
theorem s_M_sheet_118 {x : Int32} {l0 : Option Value} {l : eg_Lo} : wps rm K Q c_M_sheet_118 kc ks (l0 :: some (.int x) :: l) (st) h = wps rm K Q c_M_sheet_119 kc ks (l0 :: some (.int x) :: l) (.int x :: st) h := gk_iload rfl
theorem s_M_sheet_119 {x : Nat} {i : Int32} : wps rm K Q c_M_sheet_119 kc ks loc (.int i :: .ref (x + 1) :: st) h = eg_ia h x i (fun v => wps rm K Q c_M_sheet_120 kc ks loc (.int v :: st) h) := gk_iaload
theorem s_M_sheet_120 {x : Int32} : wps rm K Q c_M_sheet_120 kc ks loc (.int x :: st) h = wps rm K Q c_M_sheet_121 kc ks loc (.long (x.toInt64) :: st) h := gk_i2l
theorem s_M_sheet_121 {x : Int64} : wps rm K Q c_M_sheet_121 kc ks loc ([.long x]) h = (kc = rm.cells ∧ Q (some (.long x)) h) := gk_lret
theorem sz_M_sheet_75 : wps rm K Q z_M_sheet_75 kc ks loc st h = K 75 kc ks loc st h := gk_nop
def T_M_sheet : List (Nat × List eg_I) := [(16, c_M_sheet_16), (24, c_M_sheet_24), (36, c_M_sheet_36), (50, c_M_sheet_50), (70, c_M_sheet_70), (71, c_M_sheet_71), (114, c_M_sheet_114)]
theorem j_M_sheet_16 {R : Nat → Nat → Nat → eg_Lo → List Value → List eg_E → Prop} {f pc0 : Nat} : eg_run rm R Q T_M_sheet (f + 1) 16 kc ks loc st h = wps rm (eg_run rm R Q T_M_sheet f) Q c_M_sheet_16 kc ks loc st h := rfl
theorem j_M_sheet_24 {R : Nat → Nat → Nat → eg_Lo → List Value → List eg_E → Prop} {f pc0 : Nat} : eg_run rm R Q T_M_sheet (f + 1) 24 kc ks loc st h = wps rm (eg_run rm R Q T_M_sheet f) Q c_M_sheet_24 kc ks loc st h := rfl
theorem j_M_sheet_36 {R : Nat → Nat → Nat → eg_Lo → List Value → List eg_E → Prop} {f pc0 : Nat} : eg_run rm R Q T_M_sheet (f + 1) 36 kc ks loc st h = wps rm (eg_run rm R Q T_M_sheet f) Q c_M_sheet_36 kc ks loc st h := rfl
theorem j_M_sheet_50 {R : Nat → Nat → Nat → eg_Lo → List Value → List eg_E → Prop} {f pc0 : Nat} : eg_run rm R Q T_M_sheet (f + 1) 50 kc ks loc st h = wps rm (eg_run rm R Q T_M_sheet f) Q c_M_sheet_50 kc ks loc st h := rfl
theorem j_M_sheet_70 {R : Nat → Nat → Nat → eg_Lo → List Value → List eg_E → Prop} {f pc0 : Nat} : eg_run rm R Q T_M_sheet (f + 1) 70 kc ks loc st h = wps rm (eg_run rm R Q T_M_sheet f) Q c_M_sheet_70 kc ks loc st h := rfl
theorem j_M_sheet_71 {R : Nat → Nat → Nat → eg_Lo → List Value → List eg_E → Prop} {f pc0 : Nat} : eg_run rm R Q T_M_sheet (f + 1) 71 kc ks loc st h = wps rm (eg_run rm R Q T_M_sheet f) Q c_M_sheet_71 kc ks loc st h := rfl
theorem j_M_sheet_114 {R : Nat → Nat → Nat → eg_Lo → List Value → List eg_E → Prop} {f pc0 : Nat} : eg_run rm R Q T_M_sheet (f + 1) 114 kc ks loc st h = wps rm (eg_run rm R Q T_M_sheet f) Q c_M_sheet_114 kc ks loc st h := rfl
theorem j_M_sheet_75 {R : Nat → Nat → Nat → eg_Lo → List Value → List eg_E → Prop} {f pc0 : Nat} : eg_run rm R Q T_M_sheet (f + 1) 75 kc ks loc st h = R 75 kc ks loc st h := rfl
end
theorem y_M_sheet_0 : eg_seq m_M_sheet 0 c_M_sheet_0 = true := by decide +kernel
theorem y_M_sheet_24 : eg_seq m_M_sheet 24 c_M_sheet_24 = true := by decide +kernel
theorem y_M_sheet_36 : eg_seq m_M_sheet 36 c_M_sheet_36 = true := by decide +kernel
theorem y_M_sheet_50 : eg_seq m_M_sheet 50 c_M_sheet_50 = true := by decide +kernel
theorem y_M_sheet_70 : eg_seq m_M_sheet 70 c_M_sheet_70 = true := by decide +kernel
theorem y_M_sheet_75 : eg_seq m_M_sheet 75 c_M_sheet_75 = true := by decide +kernel
theorem y_M_sheet_114 : eg_seq m_M_sheet 114 c_M_sheet_114 = true := by decide +kernel
theorem q_M_sheet : ∀ q ∈ T_M_sheet, eg_seq m_M_sheet q.1 q.2 = true := by
  intro q hq
  simp only [T_M_sheet, List.mem_cons, List.not_mem_nil, or_false] at hq
  rcases hq with rfl | rfl | rfl | rfl | rfl | rfl | rfl
  · exact (eg_seq_drop y_M_sheet_0 8 : eg_seq m_M_sheet 16 c_M_sheet_16 = true)
  · exact y_M_sheet_24
  · exact y_M_sheet_36
  · exact y_M_sheet_50
  · exact y_M_sheet_70
  · exact (eg_seq_drop y_M_sheet_70 1 : eg_seq m_M_sheet 71 c_M_sheet_71 = true)
  · exact y_M_sheet_114
theorem b_M_sheet {as : List Value} {h : List eg_E} {Q : Option Value → List eg_E → Prop} (hf : (eg_fl as).length ≤ 5) (hw : wps (eg_rm m_M_sheet) (eg_run (eg_rm m_M_sheet) (eg_R m_M_sheet Q (h.length + 0)) Q T_M_sheet 9) Q c_M_sheet_0 0 0 (eg_entry 5 as) [] h) : eg_Runs n_M_sheet as h Q := eg_begin2 (d := m_M_sheet) rfl (by decide) y_M_sheet_0 q_M_sheet hf hw
theorem p_M_sheet_75 {Q : Option Value → List eg_E → Prop} {n0 kc ks : Nat} {loc : eg_Lo} {st : List Value} {h : List eg_E} (hw : wps (eg_rm m_M_sheet) (eg_run (eg_rm m_M_sheet) (eg_R m_M_sheet Q n0) Q T_M_sheet 9) Q c_M_sheet_75 kc ks loc st h) : eg_R m_M_sheet Q n0 75 kc ks loc st h := eg_go2 y_M_sheet_75 q_M_sheet hw
/-! ===== M_put ===== -/
def c_M_put_95 : List eg_I := .inl (95, 1, .lreturn, 0, 0) :: []
def c_M_put_94 : List eg_I := .inl (94, 1, .sipush (0), 0, 0) :: c_M_put_95
def c_M_put_93 : List eg_I := .inl (93, 1, .dastore, 0, 0) :: c_M_put_94
def c_M_put_92 : List eg_I := .inl (92, 1, .i2d, 0, 0) :: c_M_put_93
def c_M_put_91 : List eg_I := .inl (91, 1, .iload 3, 0, 0) :: c_M_put_92
def c_M_put_90 : List eg_I := .inl (90, 1, .iadd, 0, 0) :: c_M_put_91
def c_M_put_89 : List eg_I := .inl (89, 1, .iload 2, 0, 0) :: c_M_put_90
def c_M_put_88 : List eg_I := .inl (88, 1, .imul, 0, 0) :: c_M_put_89
def c_M_put_87 : List eg_I := .inl (87, 1, .iload 1, 0, 0) :: c_M_put_88
def c_M_put_85 : List eg_I := .inl (85, 2, .iconst (48), 0, 0) :: c_M_put_87
def c_M_put_82 : List eg_I := .inl (82, 3, .getfield 78, 12, 25) :: c_M_put_85
def c_M_put_81 : List eg_I := .inl (81, 1, .aload 0, 0, 0) :: c_M_put_82
def c_M_put_80 : List eg_I := .inl (80, 1, .iastore, 0, 0) :: c_M_put_81
def c_M_put_79 : List eg_I := .inl (79, 1, .iload 3, 0, 0) :: c_M_put_80
def c_M_put_76 : List eg_I := .inl (76, 3, .goto (4), 80, 0) :: []
def c_M_put_75 : List eg_I := .inl (75, 1, .i2s, 0, 0) :: c_M_put_76
def c_M_put_74 : List eg_I := .inl (74, 1, .iload 3, 0, 0) :: c_M_put_75
def c_M_put_71 : List eg_I := .inl (71, 3, .if_icmp .ne (8), 79, 0) :: c_M_put_74
def c_M_put_70 : List eg_I := .inl (70, 1, .iconst (1), 0, 0) :: c_M_put_71
def c_M_put_69 : List eg_I := .inl (69, 1, .iaload, 0, 0) :: c_M_put_70
def c_M_put_68 : List eg_I := .inl (68, 1, .iload 1, 0, 0) :: c_M_put_69
def c_M_put_65 : List eg_I := .inl (65, 3, .getfield 69, 12, 22) :: c_M_put_68
def c_M_put_64 : List eg_I := .inl (64, 1, .aload 0, 0, 0) :: c_M_put_65
def c_M_put_63 : List eg_I := .inl (63, 1, .iadd, 0, 0) :: c_M_put_64
def c_M_put_62 : List eg_I := .inl (62, 1, .iload 2, 0, 0) :: c_M_put_63
def c_M_put_61 : List eg_I := .inl (61, 1, .imul, 0, 0) :: c_M_put_62
def c_M_put_60 : List eg_I := .inl (60, 1, .iload 1, 0, 0) :: c_M_put_61
def c_M_put_58 : List eg_I := .inl (58, 2, .iconst (48), 0, 0) :: c_M_put_60
def c_M_put_55 : List eg_I := .inl (55, 3, .getfield 75, 12, 24) :: c_M_put_58
def c_M_put_54 : List eg_I := .inl (54, 1, .aload 0, 0, 0) :: c_M_put_55
def c_M_put_53 : List eg_I := .inl (53, 1, .lreturn, 0, 0) :: []
def c_M_put_50 : List eg_I := .inr (50, 1, 112, n_M_finding, 1, 12, 0, 0) :: c_M_put_53
def c_M_put_47 : List eg_I := .inl (47, 3, .sipush (-1000000000000000001), 110, 0) :: c_M_put_50
def c_M_put_46 : List eg_I := .inl (46, 1, .aload 0, 0, 0) :: c_M_put_47
def c_M_put_43 : List eg_I := .inl (43, 3, .if_icmp .lt (11), 54, 0) :: c_M_put_46
def c_M_put_42 : List eg_I := .inl (42, 1, .iaload, 0, 0) :: c_M_put_43
def c_M_put_41 : List eg_I := .inl (41, 1, .iload 1, 0, 0) :: c_M_put_42
def c_M_put_38 : List eg_I := .inl (38, 3, .getfield 72, 12, 23) :: c_M_put_41
def c_M_put_37 : List eg_I := .inl (37, 1, .aload 0, 0, 0) :: c_M_put_38
def c_M_put_36 : List eg_I := .inl (36, 1, .iload 2, 0, 0) :: c_M_put_37
def c_M_put_33 : List eg_I := .inl (33, 3, .ifCond .lt (13), 46, 0) :: c_M_put_36
def c_M_put_32 : List eg_I := .inl (32, 1, .iload 2, 0, 0) :: c_M_put_33
def c_M_put_31 : List eg_I := .inl (31, 1, .lreturn, 0, 0) :: []
def c_M_put_28 : List eg_I := .inr (28, 1, 112, n_M_finding, 1, 12, 0, 0) :: c_M_put_31
def c_M_put_25 : List eg_I := .inl (25, 3, .sipush (-1000000000000000002), 145, 0) :: c_M_put_28
def c_M_put_24 : List eg_I := .inl (24, 1, .aload 0, 0, 0) :: c_M_put_25
def c_M_put_21 : List eg_I := .inl (21, 3, .ifCond .ne (11), 32, 0) :: c_M_put_24
def c_M_put_20 : List eg_I := .inl (20, 1, .iaload, 0, 0) :: c_M_put_21
def c_M_put_19 : List eg_I := .inl (19, 1, .iload 1, 0, 0) :: c_M_put_20
def c_M_put_16 : List eg_I := .inl (16, 3, .getfield 69, 12, 22) :: c_M_put_19
def c_M_put_15 : List eg_I := .inl (15, 1, .aload 0, 0, 0) :: c_M_put_16
def c_M_put_14 : List eg_I := .inl (14, 1, .lreturn, 0, 0) :: []
def c_M_put_11 : List eg_I := .inr (11, 1, 112, n_M_finding, 1, 12, 0, 0) :: c_M_put_14
def c_M_put_8 : List eg_I := .inl (8, 3, .sipush (-1000000000000000001), 110, 0) :: c_M_put_11
def c_M_put_7 : List eg_I := .inl (7, 1, .aload 0, 0, 0) :: c_M_put_8
def c_M_put_4 : List eg_I := .inl (4, 3, .ifCond .ne (11), 15, 0) :: c_M_put_7
def c_M_put_1 : List eg_I := .inr (1, 0, 140, n_M_isSheet, 1, 12, 0, 0) :: c_M_put_4
def c_M_put_0 : List eg_I := .inl (0, 1, .iload 1, 0, 0) :: c_M_put_1
section
variable {rm : Room} {K : Nat → Nat → Nat → eg_Lo → List Value → List eg_E → Prop} {Q : Option Value → List eg_E → Prop} {kc ks : Nat} {loc : eg_Lo} {st : List Value} {h : List eg_E}
theorem s_M_put_0 {x : Int32} {l0 : Option Value} {l : eg_Lo} : wps rm K Q c_M_put_0 kc ks (l0 :: some (.int x) :: l) (st) h = wps rm K Q c_M_put_1 kc ks (l0 :: some (.int x) :: l) (.int x :: st) h := gk_iload rfl
theorem s_M_put_1  {a1 : Value} : wps rm K Q c_M_put_1 kc ks loc (a1 :: st) h = (st.length ≤ 4 ∧ eg_Cs n_M_isSheet [a1] h (fun v h9 => wps rm K Q c_M_put_4 kc ks loc (v.toList ++ st) h9)) := eg_c0_1
theorem s_M_put_4 {x : Int32} : wps rm K Q c_M_put_4 kc ks loc (.int x :: st) h = ((¬ x = 0 → K 15 kc ks loc st h) ∧ (x = 0 → wps rm K Q c_M_put_7 kc ks loc (st) h)) := gk_if1_ne
theorem s_M_put_7 {x : Nat} {l : eg_Lo} : wps rm K Q c_M_put_7 kc ks (some (.ref x) :: l) (st) h = wps rm K Q c_M_put_8 kc ks (some (.ref x) :: l) (.ref x :: st) h := gk_aload rfl
theorem s_M_put_8  : wps rm K Q c_M_put_8 kc ks loc (st) h = wps rm K Q c_M_put_11 kc ks loc (.long (-1000000000000000001) :: st) h := gk_lc (by decide)
theorem s_M_put_11  {a1 : Value} {x : Nat} : wps rm K Q c_M_put_11 kc ks loc (a1 :: .ref (x + 1) :: st) h = (eg_cls h x 12 ∧ st.length ≤ 4 ∧ eg_Cs n_M_finding (.ref (x + 1) :: [a1]) h (fun v h9 => wps rm K Q c_M_put_14 kc ks loc (v.toList ++ st) h9)) := eg_c1_1
theorem s_M_put_14 {x : Int64} : wps rm K Q c_M_put_14 kc ks loc ([.long x]) h = (kc = rm.cells ∧ Q (some (.long x)) h) := gk_lret
theorem s_M_put_15 {x : Nat} {l : eg_Lo} : wps rm K Q c_M_put_15 kc ks (some (.ref x) :: l) (st) h = wps rm K Q c_M_put_16 kc ks (some (.ref x) :: l) (.ref x :: st) h := gk_aload rfl
theorem s_M_put_16 {x : Nat} : wps rm K Q c_M_put_16 kc ks loc (.ref (x + 1) :: st) h = eg_gf h x 12 22 (fun v => wps rm K Q c_M_put_19 kc ks loc (v :: st) h) := gk_gf
theorem s_M_put_19 {x : Int32} {l0 : Option Value} {l : eg_Lo} : wps rm K Q c_M_put_19 kc ks (l0 :: some (.int x) :: l) (st) h = wps rm K Q c_M_put_20 kc ks (l0 :: some (.int x) :: l) (.int x :: st) h := gk_iload rfl
theorem s_M_put_20 {x : Nat} {i : Int32} : wps rm K Q c_M_put_20 kc ks loc (.int i :: .ref (x + 1) :: st) h = eg_ia h x i (fun v => wps rm K Q c_M_put_21 kc ks loc (.int v :: st) h) := gk_iaload
theorem s_M_put_21 {x : Int32} : wps rm K Q c_M_put_21 kc ks loc (.int x :: st) h = ((¬ x = 0 → K 32 kc ks loc st h) ∧ (x = 0 → wps rm K Q c_M_put_24 kc ks loc (st) h)) := gk_if1_ne
theorem s_M_put_24 {x : Nat} {l : eg_Lo} : wps rm K Q c_M_put_24 kc ks (some (.ref x) :: l) (st) h = wps rm K Q c_M_put_25 kc ks (some (.ref x) :: l) (.ref x :: st) h := gk_aload rfl
theorem s_M_put_25  : wps rm K Q c_M_put_25 kc ks loc (st) h = wps rm K Q c_M_put_28 kc ks loc (.long (-1000000000000000002) :: st) h := gk_lc (by decide)
theorem s_M_put_28  {a1 : Value} {x : Nat} : wps rm K Q c_M_put_28 kc ks loc (a1 :: .ref (x + 1) :: st) h = (eg_cls h x 12 ∧ st.length ≤ 4 ∧ eg_Cs n_M_finding (.ref (x + 1) :: [a1]) h (fun v h9 => wps rm K Q c_M_put_31 kc ks loc (v.toList ++ st) h9)) := eg_c1_1
theorem s_M_put_31 {x : Int64} : wps rm K Q c_M_put_31 kc ks loc ([.long x]) h = (kc = rm.cells ∧ Q (some (.long x)) h) := gk_lret
theorem s_M_put_32 {x : Int32} {l0 l1 : Option Value} {l : eg_Lo} : wps rm K Q c_M_put_32 kc ks (l0 :: l1 :: some (.int x) :: l) (st) h = wps rm K Q c_M_put_33 kc ks (l0 :: l1 :: some (.int x) :: l) (.int x :: st) h := gk_iload rfl
theorem s_M_put_33 {x : Int32} : wps rm K Q c_M_put_33 kc ks loc (.int x :: st) h = ((x < 0 → K 46 kc ks loc st h) ∧ (¬ x < 0 → wps rm K Q c_M_put_36 kc ks loc (st) h)) := gk_if1_lt
theorem s_M_put_36 {x : Int32} {l0 l1 : Option Value} {l : eg_Lo} : wps rm K Q c_M_put_36 kc ks (l0 :: l1 :: some (.int x) :: l) (st) h = wps rm K Q c_M_put_37 kc ks (l0 :: l1 :: some (.int x) :: l) (.int x :: st) h := gk_iload rfl
theorem s_M_put_37 {x : Nat} {l : eg_Lo} : wps rm K Q c_M_put_37 kc ks (some (.ref x) :: l) (st) h = wps rm K Q c_M_put_38 kc ks (some (.ref x) :: l) (.ref x :: st) h := gk_aload rfl
theorem s_M_put_38 {x : Nat} : wps rm K Q c_M_put_38 kc ks loc (.ref (x + 1) :: st) h = eg_gf h x 12 23 (fun v => wps rm K Q c_M_put_41 kc ks loc (v :: st) h) := gk_gf
theorem s_M_put_41 {x : Int32} {l0 : Option Value} {l : eg_Lo} : wps rm K Q c_M_put_41 kc ks (l0 :: some (.int x) :: l) (st) h = wps rm K Q c_M_put_42 kc ks (l0 :: some (.int x) :: l) (.int x :: st) h := gk_iload rfl
theorem s_M_put_42 {x : Nat} {i : Int32} : wps rm K Q c_M_put_42 kc ks loc (.int i :: .ref (x + 1) :: st) h = eg_ia h x i (fun v => wps rm K Q c_M_put_43 kc ks loc (.int v :: st) h) := gk_iaload
theorem s_M_put_43 {x y : Int32} : wps rm K Q c_M_put_43 kc ks loc (.int y :: .int x :: st) h = ((x < y → K 54 kc ks loc st h) ∧ (¬ x < y → wps rm K Q c_M_put_46 kc ks loc (st) h)) := gk_if2_lt
theorem s_M_put_46 {x : Nat} {l : eg_Lo} : wps rm K Q c_M_put_46 kc ks (some (.ref x) :: l) (st) h = wps rm K Q c_M_put_47 kc ks (some (.ref x) :: l) (.ref x :: st) h := gk_aload rfl
theorem s_M_put_47  : wps rm K Q c_M_put_47 kc ks loc (st) h = wps rm K Q c_M_put_50 kc ks loc (.long (-1000000000000000001) :: st) h := gk_lc (by decide)
theorem s_M_put_50  {a1 : Value} {x : Nat} : wps rm K Q c_M_put_50 kc ks loc (a1 :: .ref (x + 1) :: st) h = (eg_cls h x 12 ∧ st.length ≤ 4 ∧ eg_Cs n_M_finding (.ref (x + 1) :: [a1]) h (fun v h9 => wps rm K Q c_M_put_53 kc ks loc (v.toList ++ st) h9)) := eg_c1_1
theorem s_M_put_53 {x : Int64} : wps rm K Q c_M_put_53 kc ks loc ([.long x]) h = (kc = rm.cells ∧ Q (some (.long x)) h) := gk_lret
theorem s_M_put_54 {x : Nat} {l : eg_Lo} : wps rm K Q c_M_put_54 kc ks (some (.ref x) :: l) (st) h = wps rm K Q c_M_put_55 kc ks (some (.ref x) :: l) (.ref x :: st) h := gk_aload rfl
theorem s_M_put_55 {x : Nat} : wps rm K Q c_M_put_55 kc ks loc (.ref (x + 1) :: st) h = eg_gf h x 12 24 (fun v => wps rm K Q c_M_put_58 kc ks loc (v :: st) h) := gk_gf
theorem s_M_put_58  : wps rm K Q c_M_put_58 kc ks loc (st) h = wps rm K Q c_M_put_60 kc ks loc (.int (48) :: st) h := gk_ic (by decide)
theorem s_M_put_60 {x : Int32} {l0 : Option Value} {l : eg_Lo} : wps rm K Q c_M_put_60 kc ks (l0 :: some (.int x) :: l) (st) h = wps rm K Q c_M_put_61 kc ks (l0 :: some (.int x) :: l) (.int x :: st) h := gk_iload rfl
theorem s_M_put_61 {x y : Int32} : wps rm K Q c_M_put_61 kc ks loc (.int y :: .int x :: st) h = wps rm K Q c_M_put_62 kc ks loc (.int (x * y) :: st) h := gk_imul
theorem s_M_put_62 {x : Int32} {l0 l1 : Option Value} {l : eg_Lo} : wps rm K Q c_M_put_62 kc ks (l0 :: l1 :: some (.int x) :: l) (st) h = wps rm K Q c_M_put_63 kc ks (l0 :: l1 :: some (.int x) :: l) (.int x :: st) h := gk_iload rfl
theorem s_M_put_63 {x y : Int32} : wps rm K Q c_M_put_63 kc ks loc (.int y :: .int x :: st) h = wps rm K Q c_M_put_64 kc ks loc (.int (x + y) :: st) h := gk_iadd
theorem s_M_put_64 {x : Nat} {l : eg_Lo} : wps rm K Q c_M_put_64 kc ks (some (.ref x) :: l) (st) h = wps rm K Q c_M_put_65 kc ks (some (.ref x) :: l) (.ref x :: st) h := gk_aload rfl
theorem s_M_put_65 {x : Nat} : wps rm K Q c_M_put_65 kc ks loc (.ref (x + 1) :: st) h = eg_gf h x 12 22 (fun v => wps rm K Q c_M_put_68 kc ks loc (v :: st) h) := gk_gf
theorem s_M_put_68 {x : Int32} {l0 : Option Value} {l : eg_Lo} : wps rm K Q c_M_put_68 kc ks (l0 :: some (.int x) :: l) (st) h = wps rm K Q c_M_put_69 kc ks (l0 :: some (.int x) :: l) (.int x :: st) h := gk_iload rfl
theorem s_M_put_69 {x : Nat} {i : Int32} : wps rm K Q c_M_put_69 kc ks loc (.int i :: .ref (x + 1) :: st) h = eg_ia h x i (fun v => wps rm K Q c_M_put_70 kc ks loc (.int v :: st) h) := gk_iaload
theorem s_M_put_70  : wps rm K Q c_M_put_70 kc ks loc (st) h = wps rm K Q c_M_put_71 kc ks loc (.int (1) :: st) h := gk_ic (by decide)
theorem s_M_put_71 {x y : Int32} : wps rm K Q c_M_put_71 kc ks loc (.int y :: .int x :: st) h = ((¬ x = y → K 79 kc ks loc st h) ∧ (x = y → wps rm K Q c_M_put_74 kc ks loc (st) h)) := gk_if2_ne
theorem s_M_put_74 {x : Int32} {l0 l1 l2 : Option Value} {l : eg_Lo} : wps rm K Q c_M_put_74 kc ks (l0 :: l1 :: l2 :: some (.int x) :: l) (st) h = wps rm K Q c_M_put_75 kc ks (l0 :: l1 :: l2 :: some (.int x) :: l) (.int x :: st) h := gk_iload rfl
theorem s_M_put_75 {x : Int32} : wps rm K Q c_M_put_75 kc ks loc (.int x :: st) h = wps rm K Q c_M_put_76 kc ks loc (.int (x.toInt16.toInt32) :: st) h := gk_i2s
theorem s_M_put_76  : wps rm K Q c_M_put_76 kc ks loc (st) h = K 80 kc ks loc st h := gk_goto
theorem s_M_put_79 {x : Int32} {l0 l1 l2 : Option Value} {l : eg_Lo} : wps rm K Q c_M_put_79 kc ks (l0 :: l1 :: l2 :: some (.int x) :: l) (st) h = wps rm K Q c_M_put_80 kc ks (l0 :: l1 :: l2 :: some (.int x) :: l) (.int x :: st) h := gk_iload rfl
theorem s_M_put_80 {x : Nat} {i : Int32} {v : Int32} : wps rm K Q c_M_put_80 kc ks loc (.int v :: .int i :: .ref (x + 1) :: st) h = eg_is h x i v (fun h9 => wps rm K Q c_M_put_81 kc ks loc (st) h9) := gk_iastore
theorem s_M_put_81 {x : Nat} {l : eg_Lo} : wps rm K Q c_M_put_81 kc ks (some (.ref x) :: l) (st) h = wps rm K Q c_M_put_82 kc ks (some (.ref x) :: l) (.ref x :: st) h := gk_aload rfl
theorem s_M_put_82 {x : Nat} : wps rm K Q c_M_put_82 kc ks loc (.ref (x + 1) :: st) h = eg_gf h x 12 25 (fun v => wps rm K Q c_M_put_85 kc ks loc (v :: st) h) := gk_gf
theorem s_M_put_85  : wps rm K Q c_M_put_85 kc ks loc (st) h = wps rm K Q c_M_put_87 kc ks loc (.int (48) :: st) h := gk_ic (by decide)
theorem s_M_put_87 {x : Int32} {l0 : Option Value} {l : eg_Lo} : wps rm K Q c_M_put_87 kc ks (l0 :: some (.int x) :: l) (st) h = wps rm K Q c_M_put_88 kc ks (l0 :: some (.int x) :: l) (.int x :: st) h := gk_iload rfl
theorem s_M_put_88 {x y : Int32} : wps rm K Q c_M_put_88 kc ks loc (.int y :: .int x :: st) h = wps rm K Q c_M_put_89 kc ks loc (.int (x * y) :: st) h := gk_imul
theorem s_M_put_89 {x : Int32} {l0 l1 : Option Value} {l : eg_Lo} : wps rm K Q c_M_put_89 kc ks (l0 :: l1 :: some (.int x) :: l) (st) h = wps rm K Q c_M_put_90 kc ks (l0 :: l1 :: some (.int x) :: l) (.int x :: st) h := gk_iload rfl
theorem s_M_put_90 {x y : Int32} : wps rm K Q c_M_put_90 kc ks loc (.int y :: .int x :: st) h = wps rm K Q c_M_put_91 kc ks loc (.int (x + y) :: st) h := gk_iadd
theorem s_M_put_91 {x : Int32} {l0 l1 l2 : Option Value} {l : eg_Lo} : wps rm K Q c_M_put_91 kc ks (l0 :: l1 :: l2 :: some (.int x) :: l) (st) h = wps rm K Q c_M_put_92 kc ks (l0 :: l1 :: l2 :: some (.int x) :: l) (.int x :: st) h := gk_iload rfl
theorem s_M_put_92 {x : Int32} : wps rm K Q c_M_put_92 kc ks loc (.int x :: st) h = wps rm K Q c_M_put_93 kc ks loc (.double (FP.i2d x) :: st) h := gk_i2d
theorem s_M_put_93 {x : Nat} {i : Int32} {v : UInt64} : wps rm K Q c_M_put_93 kc ks loc (.double v :: .int i :: .ref (x + 1) :: st) h = eg_ds h x i v (fun h9 => wps rm K Q c_M_put_94 kc ks loc (st) h9) := gk_dastore
theorem s_M_put_94  : wps rm K Q c_M_put_94 kc ks loc (st) h = wps rm K Q c_M_put_95 kc ks loc (.long (0) :: st) h := gk_lc (by decide)
theorem s_M_put_95 {x : Int64} : wps rm K Q c_M_put_95 kc ks loc ([.long x]) h = (kc = rm.cells ∧ Q (some (.long x)) h) := gk_lret
def T_M_put : List (Nat × List eg_I) := [(15, c_M_put_15), (32, c_M_put_32), (46, c_M_put_46), (54, c_M_put_54), (79, c_M_put_79), (80, c_M_put_80)]
theorem j_M_put_15 {R : Nat → Nat → Nat → eg_Lo → List Value → List eg_E → Prop} {f pc0 : Nat} : eg_run rm R Q T_M_put (f + 1) 15 kc ks loc st h = wps rm (eg_run rm R Q T_M_put f) Q c_M_put_15 kc ks loc st h := rfl
theorem j_M_put_32 {R : Nat → Nat → Nat → eg_Lo → List Value → List eg_E → Prop} {f pc0 : Nat} : eg_run rm R Q T_M_put (f + 1) 32 kc ks loc st h = wps rm (eg_run rm R Q T_M_put f) Q c_M_put_32 kc ks loc st h := rfl
theorem j_M_put_46 {R : Nat → Nat → Nat → eg_Lo → List Value → List eg_E → Prop} {f pc0 : Nat} : eg_run rm R Q T_M_put (f + 1) 46 kc ks loc st h = wps rm (eg_run rm R Q T_M_put f) Q c_M_put_46 kc ks loc st h := rfl
theorem j_M_put_54 {R : Nat → Nat → Nat → eg_Lo → List Value → List eg_E → Prop} {f pc0 : Nat} : eg_run rm R Q T_M_put (f + 1) 54 kc ks loc st h = wps rm (eg_run rm R Q T_M_put f) Q c_M_put_54 kc ks loc st h := rfl
theorem j_M_put_79 {R : Nat → Nat → Nat → eg_Lo → List Value → List eg_E → Prop} {f pc0 : Nat} : eg_run rm R Q T_M_put (f + 1) 79 kc ks loc st h = wps rm (eg_run rm R Q T_M_put f) Q c_M_put_79 kc ks loc st h := rfl
theorem j_M_put_80 {R : Nat → Nat → Nat → eg_Lo → List Value → List eg_E → Prop} {f pc0 : Nat} : eg_run rm R Q T_M_put (f + 1) 80 kc ks loc st h = wps rm (eg_run rm R Q T_M_put f) Q c_M_put_80 kc ks loc st h := rfl
end
theorem y_M_put_0 : eg_seq m_M_put 0 c_M_put_0 = true := by decide +kernel
theorem y_M_put_15 : eg_seq m_M_put 15 c_M_put_15 = true := by decide +kernel
theorem y_M_put_32 : eg_seq m_M_put 32 c_M_put_32 = true := by decide +kernel
theorem y_M_put_54 : eg_seq m_M_put 54 c_M_put_54 = true := by decide +kernel
theorem y_M_put_79 : eg_seq m_M_put 79 c_M_put_79 = true := by decide +kernel
theorem q_M_put : ∀ q ∈ T_M_put, eg_seq m_M_put q.1 q.2 = true := by
  intro q hq
  simp only [T_M_put, List.mem_cons, List.not_mem_nil, or_false] at hq
  rcases hq with rfl | rfl | rfl | rfl | rfl | rfl
  · exact y_M_put_15
  · exact y_M_put_32
  · exact (eg_seq_drop y_M_put_32 8 : eg_seq m_M_put 46 c_M_put_46 = true)
  · exact y_M_put_54
  · exact y_M_put_79
  · exact (eg_seq_drop y_M_put_79 1 : eg_seq m_M_put 80 c_M_put_80 = true)
theorem b_M_put {as : List Value} {h : List eg_E} {Q : Option Value → List eg_E → Prop} (hf : (eg_fl as).length ≤ 4) (hw : wps (eg_rm m_M_put) (eg_run (eg_rm m_M_put) (eg_R m_M_put Q (h.length + 0)) Q T_M_put 8) Q c_M_put_0 0 0 (eg_entry 4 as) [] h) : eg_Runs n_M_put as h Q := eg_begin2 (d := m_M_put) rfl (by decide) y_M_put_0 q_M_put hf hw
/-! ===== M_hasPart ===== -/
def c_M_hasPart_35 : List eg_I := .inl (35, 1, .ireturn, 0, 1) :: []
def c_M_hasPart_34 : List eg_I := .inl (34, 1, .iconst (0), 0, 0) :: c_M_hasPart_35
def c_M_hasPart_31 : List eg_I := .inl (31, 3, .goto (4), 35, 0) :: []
def c_M_hasPart_30 : List eg_I := .inl (30, 1, .iconst (1), 0, 0) :: c_M_hasPart_31
def c_M_hasPart_27 : List eg_I := .inl (27, 3, .if_icmp .gt (7), 34, 0) :: c_M_hasPart_30
def c_M_hasPart_26 : List eg_I := .inl (26, 1, .isub, 0, 0) :: c_M_hasPart_27
def c_M_hasPart_25 : List eg_I := .inl (25, 1, .iload 3, 0, 0) :: c_M_hasPart_26
def c_M_hasPart_24 : List eg_I := .inl (24, 1, .iaload, 0, 0) :: c_M_hasPart_25
def c_M_hasPart_23 : List eg_I := .inl (23, 1, .iload 1, 0, 0) :: c_M_hasPart_24
def c_M_hasPart_20 : List eg_I := .inl (20, 3, .getfield 72, 12, 23) :: c_M_hasPart_23
def c_M_hasPart_19 : List eg_I := .inl (19, 1, .aload 0, 0, 0) :: c_M_hasPart_20
def c_M_hasPart_18 : List eg_I := .inl (18, 1, .iload 2, 0, 0) :: c_M_hasPart_19
def c_M_hasPart_15 : List eg_I := .inl (15, 3, .if_icmp .gt (19), 34, 0) :: c_M_hasPart_18
def c_M_hasPart_14 : List eg_I := .inl (14, 1, .iaload, 0, 0) :: c_M_hasPart_15
def c_M_hasPart_13 : List eg_I := .inl (13, 1, .iload 1, 0, 0) :: c_M_hasPart_14
def c_M_hasPart_10 : List eg_I := .inl (10, 3, .getfield 72, 12, 23) :: c_M_hasPart_13
def c_M_hasPart_9 : List eg_I := .inl (9, 1, .aload 0, 0, 0) :: c_M_hasPart_10
def c_M_hasPart_8 : List eg_I := .inl (8, 1, .iload 3, 0, 0) :: c_M_hasPart_9
def c_M_hasPart_5 : List eg_I := .inl (5, 3, .ifCond .lt (29), 34, 0) :: c_M_hasPart_8
def c_M_hasPart_4 : List eg_I := .inl (4, 1, .iload 3, 0, 0) :: c_M_hasPart_5
def c_M_hasPart_1 : List eg_I := .inl (1, 3, .ifCond .lt (33), 34, 0) :: c_M_hasPart_4
def c_M_hasPart_0 : List eg_I := .inl (0, 1, .iload 2, 0, 0) :: c_M_hasPart_1
section
variable {rm : Room} {K : Nat → Nat → Nat → eg_Lo → List Value → List eg_E → Prop} {Q : Option Value → List eg_E → Prop} {kc ks : Nat} {loc : eg_Lo} {st : List Value} {h : List eg_E}
theorem s_M_hasPart_0 {x : Int32} {l0 l1 : Option Value} {l : eg_Lo} : wps rm K Q c_M_hasPart_0 kc ks (l0 :: l1 :: some (.int x) :: l) (st) h = wps rm K Q c_M_hasPart_1 kc ks (l0 :: l1 :: some (.int x) :: l) (.int x :: st) h := gk_iload rfl
theorem s_M_hasPart_1 {x : Int32} : wps rm K Q c_M_hasPart_1 kc ks loc (.int x :: st) h = ((x < 0 → K 34 kc ks loc st h) ∧ (¬ x < 0 → wps rm K Q c_M_hasPart_4 kc ks loc (st) h)) := gk_if1_lt
theorem s_M_hasPart_4 {x : Int32} {l0 l1 l2 : Option Value} {l : eg_Lo} : wps rm K Q c_M_hasPart_4 kc ks (l0 :: l1 :: l2 :: some (.int x) :: l) (st) h = wps rm K Q c_M_hasPart_5 kc ks (l0 :: l1 :: l2 :: some (.int x) :: l) (.int x :: st) h := gk_iload rfl
theorem s_M_hasPart_5 {x : Int32} : wps rm K Q c_M_hasPart_5 kc ks loc (.int x :: st) h = ((x < 0 → K 34 kc ks loc st h) ∧ (¬ x < 0 → wps rm K Q c_M_hasPart_8 kc ks loc (st) h)) := gk_if1_lt
theorem s_M_hasPart_8 {x : Int32} {l0 l1 l2 : Option Value} {l : eg_Lo} : wps rm K Q c_M_hasPart_8 kc ks (l0 :: l1 :: l2 :: some (.int x) :: l) (st) h = wps rm K Q c_M_hasPart_9 kc ks (l0 :: l1 :: l2 :: some (.int x) :: l) (.int x :: st) h := gk_iload rfl
theorem s_M_hasPart_9 {x : Nat} {l : eg_Lo} : wps rm K Q c_M_hasPart_9 kc ks (some (.ref x) :: l) (st) h = wps rm K Q c_M_hasPart_10 kc ks (some (.ref x) :: l) (.ref x :: st) h := gk_aload rfl
theorem s_M_hasPart_10 {x : Nat} : wps rm K Q c_M_hasPart_10 kc ks loc (.ref (x + 1) :: st) h = eg_gf h x 12 23 (fun v => wps rm K Q c_M_hasPart_13 kc ks loc (v :: st) h) := gk_gf
theorem s_M_hasPart_13 {x : Int32} {l0 : Option Value} {l : eg_Lo} : wps rm K Q c_M_hasPart_13 kc ks (l0 :: some (.int x) :: l) (st) h = wps rm K Q c_M_hasPart_14 kc ks (l0 :: some (.int x) :: l) (.int x :: st) h := gk_iload rfl
theorem s_M_hasPart_14 {x : Nat} {i : Int32} : wps rm K Q c_M_hasPart_14 kc ks loc (.int i :: .ref (x + 1) :: st) h = eg_ia h x i (fun v => wps rm K Q c_M_hasPart_15 kc ks loc (.int v :: st) h) := gk_iaload
theorem s_M_hasPart_15 {x y : Int32} : wps rm K Q c_M_hasPart_15 kc ks loc (.int y :: .int x :: st) h = ((y < x → K 34 kc ks loc st h) ∧ (¬ y < x → wps rm K Q c_M_hasPart_18 kc ks loc (st) h)) := gk_if2_gt
theorem s_M_hasPart_18 {x : Int32} {l0 l1 : Option Value} {l : eg_Lo} : wps rm K Q c_M_hasPart_18 kc ks (l0 :: l1 :: some (.int x) :: l) (st) h = wps rm K Q c_M_hasPart_19 kc ks (l0 :: l1 :: some (.int x) :: l) (.int x :: st) h := gk_iload rfl
theorem s_M_hasPart_19 {x : Nat} {l : eg_Lo} : wps rm K Q c_M_hasPart_19 kc ks (some (.ref x) :: l) (st) h = wps rm K Q c_M_hasPart_20 kc ks (some (.ref x) :: l) (.ref x :: st) h := gk_aload rfl
theorem s_M_hasPart_20 {x : Nat} : wps rm K Q c_M_hasPart_20 kc ks loc (.ref (x + 1) :: st) h = eg_gf h x 12 23 (fun v => wps rm K Q c_M_hasPart_23 kc ks loc (v :: st) h) := gk_gf
theorem s_M_hasPart_23 {x : Int32} {l0 : Option Value} {l : eg_Lo} : wps rm K Q c_M_hasPart_23 kc ks (l0 :: some (.int x) :: l) (st) h = wps rm K Q c_M_hasPart_24 kc ks (l0 :: some (.int x) :: l) (.int x :: st) h := gk_iload rfl
theorem s_M_hasPart_24 {x : Nat} {i : Int32} : wps rm K Q c_M_hasPart_24 kc ks loc (.int i :: .ref (x + 1) :: st) h = eg_ia h x i (fun v => wps rm K Q c_M_hasPart_25 kc ks loc (.int v :: st) h) := gk_iaload
theorem s_M_hasPart_25 {x : Int32} {l0 l1 l2 : Option Value} {l : eg_Lo} : wps rm K Q c_M_hasPart_25 kc ks (l0 :: l1 :: l2 :: some (.int x) :: l) (st) h = wps rm K Q c_M_hasPart_26 kc ks (l0 :: l1 :: l2 :: some (.int x) :: l) (.int x :: st) h := gk_iload rfl
theorem s_M_hasPart_26 {x y : Int32} : wps rm K Q c_M_hasPart_26 kc ks loc (.int y :: .int x :: st) h = wps rm K Q c_M_hasPart_27 kc ks loc (.int (x - y) :: st) h := gk_isub
theorem s_M_hasPart_27 {x y : Int32} : wps rm K Q c_M_hasPart_27 kc ks loc (.int y :: .int x :: st) h = ((y < x → K 34 kc ks loc st h) ∧ (¬ y < x → wps rm K Q c_M_hasPart_30 kc ks loc (st) h)) := gk_if2_gt
theorem s_M_hasPart_30  : wps rm K Q c_M_hasPart_30 kc ks loc (st) h = wps rm K Q c_M_hasPart_31 kc ks loc (.int (1) :: st) h := gk_ic (by decide)
theorem s_M_hasPart_31  : wps rm K Q c_M_hasPart_31 kc ks loc (st) h = K 35 kc ks loc st h := gk_goto
theorem s_M_hasPart_34  : wps rm K Q c_M_hasPart_34 kc ks loc (st) h = wps rm K Q c_M_hasPart_35 kc ks loc (.int (0) :: st) h := gk_ic (by decide)
theorem s_M_hasPart_35 {x : Int32} : wps rm K Q c_M_hasPart_35 kc ks loc ([.int x]) h = (kc = rm.cells ∧ ((1 : Nat) = 1 → x = 0 ∨ x = 1) ∧ Q (some (.int x)) h) := gk_iret
def T_M_hasPart : List (Nat × List eg_I) := [(34, c_M_hasPart_34), (35, c_M_hasPart_35)]
theorem j_M_hasPart_34 {R : Nat → Nat → Nat → eg_Lo → List Value → List eg_E → Prop} {f pc0 : Nat} : eg_run rm R Q T_M_hasPart (f + 1) 34 kc ks loc st h = wps rm (eg_run rm R Q T_M_hasPart f) Q c_M_hasPart_34 kc ks loc st h := rfl
theorem j_M_hasPart_35 {R : Nat → Nat → Nat → eg_Lo → List Value → List eg_E → Prop} {f pc0 : Nat} : eg_run rm R Q T_M_hasPart (f + 1) 35 kc ks loc st h = wps rm (eg_run rm R Q T_M_hasPart f) Q c_M_hasPart_35 kc ks loc st h := rfl
end
theorem y_M_hasPart_0 : eg_seq m_M_hasPart 0 c_M_hasPart_0 = true := by decide +kernel
theorem y_M_hasPart_34 : eg_seq m_M_hasPart 34 c_M_hasPart_34 = true := by decide +kernel
theorem q_M_hasPart : ∀ q ∈ T_M_hasPart, eg_seq m_M_hasPart q.1 q.2 = true := by
  intro q hq
  simp only [T_M_hasPart, List.mem_cons, List.not_mem_nil, or_false] at hq
  rcases hq with rfl | rfl
  · exact y_M_hasPart_34
  · exact (eg_seq_drop y_M_hasPart_34 1 : eg_seq m_M_hasPart 35 c_M_hasPart_35 = true)
theorem b_M_hasPart {as : List Value} {h : List eg_E} {Q : Option Value → List eg_E → Prop} (hf : (eg_fl as).length ≤ 4) (hw : wps (eg_rm m_M_hasPart) (eg_run (eg_rm m_M_hasPart) (eg_R m_M_hasPart Q (h.length + 0)) Q T_M_hasPart 4) Q c_M_hasPart_0 0 0 (eg_entry 4 as) [] h) : eg_Runs n_M_hasPart as h Q := eg_begin2 (d := m_M_hasPart) rfl (by decide) y_M_hasPart_0 q_M_hasPart hf hw
/-! ===== M_copy ===== -/
def z_M_copy_105 : List eg_I := [.inl (105, 0, .nop, 0, 0)]
def z_M_copy_163 : List eg_I := [.inl (163, 0, .nop, 0, 0)]
def c_M_copy_223 : List eg_I := .inl (223, 1, .lreturn, 0, 0) :: []
def c_M_copy_222 : List eg_I := .inl (222, 1, .i2l, 0, 0) :: c_M_copy_223
def c_M_copy_220 : List eg_I := .inl (220, 2, .iload 5, 0, 0) :: c_M_copy_222
def c_M_copy_217 : List eg_I := .inl (217, 3, .goto (-54), 163, 0) :: []
def c_M_copy_214 : List eg_I := .inl (214, 3, .iinc 6 (1), 0, 0) :: c_M_copy_217
def c_M_copy_213 : List eg_I := .inl (213, 1, .dastore, 0, 0) :: c_M_copy_214
def c_M_copy_212 : List eg_I := .inl (212, 1, .daload, 0, 0) :: c_M_copy_213
def c_M_copy_210 : List eg_I := .inl (210, 2, .iload 6, 0, 0) :: c_M_copy_212
def c_M_copy_207 : List eg_I := .inl (207, 3, .getfield 85, 12, 28) :: c_M_copy_210
def c_M_copy_206 : List eg_I := .inl (206, 1, .aload 0, 0, 0) :: c_M_copy_207
def c_M_copy_205 : List eg_I := .inl (205, 1, .iadd, 0, 0) :: c_M_copy_206
def c_M_copy_203 : List eg_I := .inl (203, 2, .iload 6, 0, 0) :: c_M_copy_205
def c_M_copy_202 : List eg_I := .inl (202, 1, .iadd, 0, 0) :: c_M_copy_203
def c_M_copy_200 : List eg_I := .inl (200, 2, .iload 4, 0, 0) :: c_M_copy_202
def c_M_copy_199 : List eg_I := .inl (199, 1, .imul, 0, 0) :: c_M_copy_200
def c_M_copy_198 : List eg_I := .inl (198, 1, .iload 3, 0, 0) :: c_M_copy_199
def c_M_copy_196 : List eg_I := .inl (196, 2, .iconst (48), 0, 0) :: c_M_copy_198
def c_M_copy_193 : List eg_I := .inl (193, 3, .getfield 78, 12, 25) :: c_M_copy_196
def c_M_copy_192 : List eg_I := .inl (192, 1, .aload 0, 0, 0) :: c_M_copy_193
def c_M_copy_191 : List eg_I := .inl (191, 1, .iastore, 0, 0) :: c_M_copy_192
def c_M_copy_190 : List eg_I := .inl (190, 1, .iaload, 0, 0) :: c_M_copy_191
def c_M_copy_188 : List eg_I := .inl (188, 2, .iload 6, 0, 0) :: c_M_copy_190
def c_M_copy_185 : List eg_I := .inl (185, 3, .getfield 82, 12, 27) :: c_M_copy_188
def c_M_copy_184 : List eg_I := .inl (184, 1, .aload 0, 0, 0) :: c_M_copy_185
def c_M_copy_183 : List eg_I := .inl (183, 1, .iadd, 0, 0) :: c_M_copy_184
def c_M_copy_181 : List eg_I := .inl (181, 2, .iload 6, 0, 0) :: c_M_copy_183
def c_M_copy_180 : List eg_I := .inl (180, 1, .iadd, 0, 0) :: c_M_copy_181
def c_M_copy_178 : List eg_I := .inl (178, 2, .iload 4, 0, 0) :: c_M_copy_180
def c_M_copy_177 : List eg_I := .inl (177, 1, .imul, 0, 0) :: c_M_copy_178
def c_M_copy_176 : List eg_I := .inl (176, 1, .iload 3, 0, 0) :: c_M_copy_177
def c_M_copy_174 : List eg_I := .inl (174, 2, .iconst (48), 0, 0) :: c_M_copy_176
def c_M_copy_171 : List eg_I := .inl (171, 3, .getfield 75, 12, 24) :: c_M_copy_174
def c_M_copy_170 : List eg_I := .inl (170, 1, .aload 0, 0, 0) :: c_M_copy_171
def c_M_copy_167 : List eg_I := .inl (167, 3, .if_icmp .ge (53), 220, 0) :: c_M_copy_170
def c_M_copy_165 : List eg_I := .inl (165, 2, .iload 5, 0, 0) :: c_M_copy_167
def c_M_copy_163 : List eg_I := .inl (163, 2, .iload 6, 0, 0) :: c_M_copy_165
def c_M_copy_161 : List eg_I := .inl (161, 2, .istore 6, 0, 0) :: z_M_copy_163
def c_M_copy_160 : List eg_I := .inl (160, 1, .iconst (0), 0, 0) :: c_M_copy_161
def c_M_copy_157 : List eg_I := .inl (157, 3, .goto (-52), 105, 0) :: []
def c_M_copy_154 : List eg_I := .inl (154, 3, .iinc 6 (1), 0, 0) :: c_M_copy_157
def c_M_copy_153 : List eg_I := .inl (153, 1, .dastore, 0, 0) :: c_M_copy_154
def c_M_copy_152 : List eg_I := .inl (152, 1, .daload, 0, 0) :: c_M_copy_153
def c_M_copy_151 : List eg_I := .inl (151, 1, .iadd, 0, 0) :: c_M_copy_152
def c_M_copy_149 : List eg_I := .inl (149, 2, .iload 6, 0, 0) :: c_M_copy_151
def c_M_copy_148 : List eg_I := .inl (148, 1, .iadd, 0, 0) :: c_M_copy_149
def c_M_copy_147 : List eg_I := .inl (147, 1, .iload 2, 0, 0) :: c_M_copy_148
def c_M_copy_146 : List eg_I := .inl (146, 1, .imul, 0, 0) :: c_M_copy_147
def c_M_copy_145 : List eg_I := .inl (145, 1, .iload 1, 0, 0) :: c_M_copy_146
def c_M_copy_143 : List eg_I := .inl (143, 2, .iconst (48), 0, 0) :: c_M_copy_145
def c_M_copy_140 : List eg_I := .inl (140, 3, .getfield 78, 12, 25) :: c_M_copy_143
def c_M_copy_139 : List eg_I := .inl (139, 1, .aload 0, 0, 0) :: c_M_copy_140
def c_M_copy_137 : List eg_I := .inl (137, 2, .iload 6, 0, 0) :: c_M_copy_139
def c_M_copy_134 : List eg_I := .inl (134, 3, .getfield 85, 12, 28) :: c_M_copy_137
def c_M_copy_133 : List eg_I := .inl (133, 1, .aload 0, 0, 0) :: c_M_copy_134
def c_M_copy_132 : List eg_I := .inl (132, 1, .iastore, 0, 0) :: c_M_copy_133
def c_M_copy_131 : List eg_I := .inl (131, 1, .iaload, 0, 0) :: c_M_copy_132
def c_M_copy_130 : List eg_I := .inl (130, 1, .iadd, 0, 0) :: c_M_copy_131
def c_M_copy_128 : List eg_I := .inl (128, 2, .iload 6, 0, 0) :: c_M_copy_130
def c_M_copy_127 : List eg_I := .inl (127, 1, .iadd, 0, 0) :: c_M_copy_128
def c_M_copy_126 : List eg_I := .inl (126, 1, .iload 2, 0, 0) :: c_M_copy_127
def c_M_copy_125 : List eg_I := .inl (125, 1, .imul, 0, 0) :: c_M_copy_126
def c_M_copy_124 : List eg_I := .inl (124, 1, .iload 1, 0, 0) :: c_M_copy_125
def c_M_copy_122 : List eg_I := .inl (122, 2, .iconst (48), 0, 0) :: c_M_copy_124
def c_M_copy_119 : List eg_I := .inl (119, 3, .getfield 75, 12, 24) :: c_M_copy_122
def c_M_copy_118 : List eg_I := .inl (118, 1, .aload 0, 0, 0) :: c_M_copy_119
def c_M_copy_116 : List eg_I := .inl (116, 2, .iload 6, 0, 0) :: c_M_copy_118
def c_M_copy_113 : List eg_I := .inl (113, 3, .getfield 82, 12, 27) :: c_M_copy_116
def c_M_copy_112 : List eg_I := .inl (112, 1, .aload 0, 0, 0) :: c_M_copy_113
def c_M_copy_109 : List eg_I := .inl (109, 3, .if_icmp .ge (51), 160, 0) :: c_M_copy_112
def c_M_copy_107 : List eg_I := .inl (107, 2, .iload 5, 0, 0) :: c_M_copy_109
def c_M_copy_105 : List eg_I := .inl (105, 2, .iload 6, 0, 0) :: c_M_copy_107
def c_M_copy_103 : List eg_I := .inl (103, 2, .istore 6, 0, 0) :: z_M_copy_105
def c_M_copy_102 : List eg_I := .inl (102, 1, .iconst (0), 0, 0) :: c_M_copy_103
def c_M_copy_101 : List eg_I := .inl (101, 1, .lreturn, 0, 0) :: []
def c_M_copy_98 : List eg_I := .inr (98, 1, 112, n_M_finding, 1, 12, 0, 0) :: c_M_copy_101
def c_M_copy_95 : List eg_I := .inl (95, 3, .sipush (-1000000000000000001), 110, 0) :: c_M_copy_98
def c_M_copy_94 : List eg_I := .inl (94, 1, .aload 0, 0, 0) :: c_M_copy_95
def c_M_copy_91 : List eg_I := .inl (91, 3, .ifCond .ne (11), 102, 0) :: c_M_copy_94
def c_M_copy_88 : List eg_I := .inr (88, 1, 155, n_M_hasPart, 3, 12, 0, 0) :: c_M_copy_91
def c_M_copy_86 : List eg_I := .inl (86, 2, .iload 5, 0, 0) :: c_M_copy_88
def c_M_copy_84 : List eg_I := .inl (84, 2, .iload 4, 0, 0) :: c_M_copy_86
def c_M_copy_83 : List eg_I := .inl (83, 1, .iload 3, 0, 0) :: c_M_copy_84
def c_M_copy_82 : List eg_I := .inl (82, 1, .aload 0, 0, 0) :: c_M_copy_83
def c_M_copy_79 : List eg_I := .inl (79, 3, .ifCond .eq (15), 94, 0) :: c_M_copy_82
def c_M_copy_76 : List eg_I := .inr (76, 1, 155, n_M_hasPart, 3, 12, 0, 0) :: c_M_copy_79
def c_M_copy_74 : List eg_I := .inl (74, 2, .iload 5, 0, 0) :: c_M_copy_76
def c_M_copy_73 : List eg_I := .inl (73, 1, .iload 2, 0, 0) :: c_M_copy_74
def c_M_copy_72 : List eg_I := .inl (72, 1, .iload 1, 0, 0) :: c_M_copy_73
def c_M_copy_71 : List eg_I := .inl (71, 1, .aload 0, 0, 0) :: c_M_copy_72
def c_M_copy_70 : List eg_I := .inl (70, 1, .lreturn, 0, 0) :: []
def c_M_copy_67 : List eg_I := .inr (67, 1, 112, n_M_finding, 1, 12, 0, 0) :: c_M_copy_70
def c_M_copy_64 : List eg_I := .inl (64, 3, .sipush (-1000000000000000004), 147, 0) :: c_M_copy_67
def c_M_copy_63 : List eg_I := .inl (63, 1, .aload 0, 0, 0) :: c_M_copy_64
def c_M_copy_60 : List eg_I := .inl (60, 3, .if_icmp .eq (11), 71, 0) :: c_M_copy_63
def c_M_copy_59 : List eg_I := .inl (59, 1, .iaload, 0, 0) :: c_M_copy_60
def c_M_copy_58 : List eg_I := .inl (58, 1, .iload 3, 0, 0) :: c_M_copy_59
def c_M_copy_55 : List eg_I := .inl (55, 3, .getfield 69, 12, 22) :: c_M_copy_58
def c_M_copy_54 : List eg_I := .inl (54, 1, .aload 0, 0, 0) :: c_M_copy_55
def c_M_copy_53 : List eg_I := .inl (53, 1, .iaload, 0, 0) :: c_M_copy_54
def c_M_copy_52 : List eg_I := .inl (52, 1, .iload 1, 0, 0) :: c_M_copy_53
def c_M_copy_49 : List eg_I := .inl (49, 3, .getfield 69, 12, 22) :: c_M_copy_52
def c_M_copy_48 : List eg_I := .inl (48, 1, .aload 0, 0, 0) :: c_M_copy_49
def c_M_copy_47 : List eg_I := .inl (47, 1, .lreturn, 0, 0) :: []
def c_M_copy_44 : List eg_I := .inr (44, 1, 112, n_M_finding, 1, 12, 0, 0) :: c_M_copy_47
def c_M_copy_41 : List eg_I := .inl (41, 3, .sipush (-1000000000000000002), 145, 0) :: c_M_copy_44
def c_M_copy_40 : List eg_I := .inl (40, 1, .aload 0, 0, 0) :: c_M_copy_41
def c_M_copy_37 : List eg_I := .inl (37, 3, .ifCond .ne (11), 48, 0) :: c_M_copy_40
def c_M_copy_36 : List eg_I := .inl (36, 1, .iaload, 0, 0) :: c_M_copy_37
def c_M_copy_35 : List eg_I := .inl (35, 1, .iload 3, 0, 0) :: c_M_copy_36
def c_M_copy_32 : List eg_I := .inl (32, 3, .getfield 69, 12, 22) :: c_M_copy_35
def c_M_copy_31 : List eg_I := .inl (31, 1, .aload 0, 0, 0) :: c_M_copy_32
def c_M_copy_28 : List eg_I := .inl (28, 3, .ifCond .eq (12), 40, 0) :: c_M_copy_31
def c_M_copy_27 : List eg_I := .inl (27, 1, .iaload, 0, 0) :: c_M_copy_28
def c_M_copy_26 : List eg_I := .inl (26, 1, .iload 1, 0, 0) :: c_M_copy_27
def c_M_copy_23 : List eg_I := .inl (23, 3, .getfield 69, 12, 22) :: c_M_copy_26
def c_M_copy_22 : List eg_I := .inl (22, 1, .aload 0, 0, 0) :: c_M_copy_23
def c_M_copy_21 : List eg_I := .inl (21, 1, .lreturn, 0, 0) :: []
def c_M_copy_18 : List eg_I := .inr (18, 1, 112, n_M_finding, 1, 12, 0, 0) :: c_M_copy_21
def c_M_copy_15 : List eg_I := .inl (15, 3, .sipush (-1000000000000000001), 110, 0) :: c_M_copy_18
def c_M_copy_14 : List eg_I := .inl (14, 1, .aload 0, 0, 0) :: c_M_copy_15
def c_M_copy_11 : List eg_I := .inl (11, 3, .ifCond .ne (11), 22, 0) :: c_M_copy_14
def c_M_copy_8 : List eg_I := .inr (8, 0, 140, n_M_isSheet, 1, 12, 0, 0) :: c_M_copy_11
def c_M_copy_7 : List eg_I := .inl (7, 1, .iload 3, 0, 0) :: c_M_copy_8
def c_M_copy_4 : List eg_I := .inl (4, 3, .ifCond .eq (10), 14, 0) :: c_M_copy_7
def c_M_copy_1 : List eg_I := .inr (1, 0, 140, n_M_isSheet, 1, 12, 0, 0) :: c_M_copy_4
def c_M_copy_0 : List eg_I := .inl (0, 1, .iload 1, 0, 0) :: c_M_copy_1
section
variable {rm : Room} {K : Nat → Nat → Nat → eg_Lo → List Value → List eg_E → Prop} {Q : Option Value → List eg_E → Prop} {kc ks : Nat} {loc : eg_Lo} {st : List Value} {h : List eg_E}
theorem s_M_copy_0 {x : Int32} {l0 : Option Value} {l : eg_Lo} : wps rm K Q c_M_copy_0 kc ks (l0 :: some (.int x) :: l) (st) h = wps rm K Q c_M_copy_1 kc ks (l0 :: some (.int x) :: l) (.int x :: st) h := gk_iload rfl
theorem s_M_copy_1  {a1 : Value} : wps rm K Q c_M_copy_1 kc ks loc (a1 :: st) h = (st.length ≤ 4 ∧ eg_Cs n_M_isSheet [a1] h (fun v h9 => wps rm K Q c_M_copy_4 kc ks loc (v.toList ++ st) h9)) := eg_c0_1
theorem s_M_copy_4 {x : Int32} : wps rm K Q c_M_copy_4 kc ks loc (.int x :: st) h = ((x = 0 → K 14 kc ks loc st h) ∧ (¬ x = 0 → wps rm K Q c_M_copy_7 kc ks loc (st) h)) := gk_if1_eq
theorem s_M_copy_7 {x : Int32} {l0 l1 l2 : Option Value} {l : eg_Lo} : wps rm K Q c_M_copy_7 kc ks (l0 :: l1 :: l2 :: some (.int x) :: l) (st) h = wps rm K Q c_M_copy_8 kc ks (l0 :: l1 :: l2 :: some (.int x) :: l) (.int x :: st) h := gk_iload rfl
theorem s_M_copy_8  {a1 : Value} : wps rm K Q c_M_copy_8 kc ks loc (a1 :: st) h = (st.length ≤ 4 ∧ eg_Cs n_M_isSheet [a1] h (fun v h9 => wps rm K Q c_M_copy_11 kc ks loc (v.toList ++ st) h9)) := eg_c0_1
theorem s_M_copy_11 {x : Int32} : wps rm K Q c_M_copy_11 kc ks loc (.int x :: st) h = ((¬ x = 0 → K 22 kc ks loc st h) ∧ (x = 0 → wps rm K Q c_M_copy_14 kc ks loc (st) h)) := gk_if1_ne
theorem s_M_copy_14 {x : Nat} {l : eg_Lo} : wps rm K Q c_M_copy_14 kc ks (some (.ref x) :: l) (st) h = wps rm K Q c_M_copy_15 kc ks (some (.ref x) :: l) (.ref x :: st) h := gk_aload rfl
theorem s_M_copy_15  : wps rm K Q c_M_copy_15 kc ks loc (st) h = wps rm K Q c_M_copy_18 kc ks loc (.long (-1000000000000000001) :: st) h := gk_lc (by decide)
theorem s_M_copy_18  {a1 : Value} {x : Nat} : wps rm K Q c_M_copy_18 kc ks loc (a1 :: .ref (x + 1) :: st) h = (eg_cls h x 12 ∧ st.length ≤ 4 ∧ eg_Cs n_M_finding (.ref (x + 1) :: [a1]) h (fun v h9 => wps rm K Q c_M_copy_21 kc ks loc (v.toList ++ st) h9)) := eg_c1_1
theorem s_M_copy_21 {x : Int64} : wps rm K Q c_M_copy_21 kc ks loc ([.long x]) h = (kc = rm.cells ∧ Q (some (.long x)) h) := gk_lret
theorem s_M_copy_22 {x : Nat} {l : eg_Lo} : wps rm K Q c_M_copy_22 kc ks (some (.ref x) :: l) (st) h = wps rm K Q c_M_copy_23 kc ks (some (.ref x) :: l) (.ref x :: st) h := gk_aload rfl
theorem s_M_copy_23 {x : Nat} : wps rm K Q c_M_copy_23 kc ks loc (.ref (x + 1) :: st) h = eg_gf h x 12 22 (fun v => wps rm K Q c_M_copy_26 kc ks loc (v :: st) h) := gk_gf
theorem s_M_copy_26 {x : Int32} {l0 : Option Value} {l : eg_Lo} : wps rm K Q c_M_copy_26 kc ks (l0 :: some (.int x) :: l) (st) h = wps rm K Q c_M_copy_27 kc ks (l0 :: some (.int x) :: l) (.int x :: st) h := gk_iload rfl
theorem s_M_copy_27 {x : Nat} {i : Int32} : wps rm K Q c_M_copy_27 kc ks loc (.int i :: .ref (x + 1) :: st) h = eg_ia h x i (fun v => wps rm K Q c_M_copy_28 kc ks loc (.int v :: st) h) := gk_iaload
theorem s_M_copy_28 {x : Int32} : wps rm K Q c_M_copy_28 kc ks loc (.int x :: st) h = ((x = 0 → K 40 kc ks loc st h) ∧ (¬ x = 0 → wps rm K Q c_M_copy_31 kc ks loc (st) h)) := gk_if1_eq
theorem s_M_copy_31 {x : Nat} {l : eg_Lo} : wps rm K Q c_M_copy_31 kc ks (some (.ref x) :: l) (st) h = wps rm K Q c_M_copy_32 kc ks (some (.ref x) :: l) (.ref x :: st) h := gk_aload rfl
theorem s_M_copy_32 {x : Nat} : wps rm K Q c_M_copy_32 kc ks loc (.ref (x + 1) :: st) h = eg_gf h x 12 22 (fun v => wps rm K Q c_M_copy_35 kc ks loc (v :: st) h) := gk_gf
theorem s_M_copy_35 {x : Int32} {l0 l1 l2 : Option Value} {l : eg_Lo} : wps rm K Q c_M_copy_35 kc ks (l0 :: l1 :: l2 :: some (.int x) :: l) (st) h = wps rm K Q c_M_copy_36 kc ks (l0 :: l1 :: l2 :: some (.int x) :: l) (.int x :: st) h := gk_iload rfl
theorem s_M_copy_36 {x : Nat} {i : Int32} : wps rm K Q c_M_copy_36 kc ks loc (.int i :: .ref (x + 1) :: st) h = eg_ia h x i (fun v => wps rm K Q c_M_copy_37 kc ks loc (.int v :: st) h) := gk_iaload
theorem s_M_copy_37 {x : Int32} : wps rm K Q c_M_copy_37 kc ks loc (.int x :: st) h = ((¬ x = 0 → K 48 kc ks loc st h) ∧ (x = 0 → wps rm K Q c_M_copy_40 kc ks loc (st) h)) := gk_if1_ne
theorem s_M_copy_40 {x : Nat} {l : eg_Lo} : wps rm K Q c_M_copy_40 kc ks (some (.ref x) :: l) (st) h = wps rm K Q c_M_copy_41 kc ks (some (.ref x) :: l) (.ref x :: st) h := gk_aload rfl
theorem s_M_copy_41  : wps rm K Q c_M_copy_41 kc ks loc (st) h = wps rm K Q c_M_copy_44 kc ks loc (.long (-1000000000000000002) :: st) h := gk_lc (by decide)
theorem s_M_copy_44  {a1 : Value} {x : Nat} : wps rm K Q c_M_copy_44 kc ks loc (a1 :: .ref (x + 1) :: st) h = (eg_cls h x 12 ∧ st.length ≤ 4 ∧ eg_Cs n_M_finding (.ref (x + 1) :: [a1]) h (fun v h9 => wps rm K Q c_M_copy_47 kc ks loc (v.toList ++ st) h9)) := eg_c1_1
theorem s_M_copy_47 {x : Int64} : wps rm K Q c_M_copy_47 kc ks loc ([.long x]) h = (kc = rm.cells ∧ Q (some (.long x)) h) := gk_lret
theorem s_M_copy_48 {x : Nat} {l : eg_Lo} : wps rm K Q c_M_copy_48 kc ks (some (.ref x) :: l) (st) h = wps rm K Q c_M_copy_49 kc ks (some (.ref x) :: l) (.ref x :: st) h := gk_aload rfl
theorem s_M_copy_49 {x : Nat} : wps rm K Q c_M_copy_49 kc ks loc (.ref (x + 1) :: st) h = eg_gf h x 12 22 (fun v => wps rm K Q c_M_copy_52 kc ks loc (v :: st) h) := gk_gf
theorem s_M_copy_52 {x : Int32} {l0 : Option Value} {l : eg_Lo} : wps rm K Q c_M_copy_52 kc ks (l0 :: some (.int x) :: l) (st) h = wps rm K Q c_M_copy_53 kc ks (l0 :: some (.int x) :: l) (.int x :: st) h := gk_iload rfl
theorem s_M_copy_53 {x : Nat} {i : Int32} : wps rm K Q c_M_copy_53 kc ks loc (.int i :: .ref (x + 1) :: st) h = eg_ia h x i (fun v => wps rm K Q c_M_copy_54 kc ks loc (.int v :: st) h) := gk_iaload
theorem s_M_copy_54 {x : Nat} {l : eg_Lo} : wps rm K Q c_M_copy_54 kc ks (some (.ref x) :: l) (st) h = wps rm K Q c_M_copy_55 kc ks (some (.ref x) :: l) (.ref x :: st) h := gk_aload rfl
theorem s_M_copy_55 {x : Nat} : wps rm K Q c_M_copy_55 kc ks loc (.ref (x + 1) :: st) h = eg_gf h x 12 22 (fun v => wps rm K Q c_M_copy_58 kc ks loc (v :: st) h) := gk_gf
theorem s_M_copy_58 {x : Int32} {l0 l1 l2 : Option Value} {l : eg_Lo} : wps rm K Q c_M_copy_58 kc ks (l0 :: l1 :: l2 :: some (.int x) :: l) (st) h = wps rm K Q c_M_copy_59 kc ks (l0 :: l1 :: l2 :: some (.int x) :: l) (.int x :: st) h := gk_iload rfl
theorem s_M_copy_59 {x : Nat} {i : Int32} : wps rm K Q c_M_copy_59 kc ks loc (.int i :: .ref (x + 1) :: st) h = eg_ia h x i (fun v => wps rm K Q c_M_copy_60 kc ks loc (.int v :: st) h) := gk_iaload
theorem s_M_copy_60 {x y : Int32} : wps rm K Q c_M_copy_60 kc ks loc (.int y :: .int x :: st) h = ((x = y → K 71 kc ks loc st h) ∧ (¬ x = y → wps rm K Q c_M_copy_63 kc ks loc (st) h)) := gk_if2_eq
theorem s_M_copy_63 {x : Nat} {l : eg_Lo} : wps rm K Q c_M_copy_63 kc ks (some (.ref x) :: l) (st) h = wps rm K Q c_M_copy_64 kc ks (some (.ref x) :: l) (.ref x :: st) h := gk_aload rfl
theorem s_M_copy_64  : wps rm K Q c_M_copy_64 kc ks loc (st) h = wps rm K Q c_M_copy_67 kc ks loc (.long (-1000000000000000004) :: st) h := gk_lc (by decide)
theorem s_M_copy_67  {a1 : Value} {x : Nat} : wps rm K Q c_M_copy_67 kc ks loc (a1 :: .ref (x + 1) :: st) h = (eg_cls h x 12 ∧ st.length ≤ 4 ∧ eg_Cs n_M_finding (.ref (x + 1) :: [a1]) h (fun v h9 => wps rm K Q c_M_copy_70 kc ks loc (v.toList ++ st) h9)) := eg_c1_1
theorem s_M_copy_70 {x : Int64} : wps rm K Q c_M_copy_70 kc ks loc ([.long x]) h = (kc = rm.cells ∧ Q (some (.long x)) h) := gk_lret
theorem s_M_copy_71 {x : Nat} {l : eg_Lo} : wps rm K Q c_M_copy_71 kc ks (some (.ref x) :: l) (st) h = wps rm K Q c_M_copy_72 kc ks (some (.ref x) :: l) (.ref x :: st) h := gk_aload rfl
theorem s_M_copy_72 {x : Int32} {l0 : Option Value} {l : eg_Lo} : wps rm K Q c_M_copy_72 kc ks (l0 :: some (.int x) :: l) (st) h = wps rm K Q c_M_copy_73 kc ks (l0 :: some (.int x) :: l) (.int x :: st) h := gk_iload rfl
theorem s_M_copy_73 {x : Int32} {l0 l1 : Option Value} {l : eg_Lo} : wps rm K Q c_M_copy_73 kc ks (l0 :: l1 :: some (.int x) :: l) (st) h = wps rm K Q c_M_copy_74 kc ks (l0 :: l1 :: some (.int x) :: l) (.int x :: st) h := gk_iload rfl
theorem s_M_copy_74 {x : Int32} {l0 l1 l2 l3 l4 : Option Value} {l : eg_Lo} : wps rm K Q c_M_copy_74 kc ks (l0 :: l1 :: l2 :: l3 :: l4 :: some (.int x) :: l) (st) h = wps rm K Q c_M_copy_76 kc ks (l0 :: l1 :: l2 :: l3 :: l4 :: some (.int x) :: l) (.int x :: st) h := gk_iload rfl
theorem s_M_copy_76  {a1 : Value} {a2 : Value} {a3 : Value} {x : Nat} : wps rm K Q c_M_copy_76 kc ks loc (a3 :: a2 :: a1 :: .ref (x + 1) :: st) h = (eg_cls h x 12 ∧ st.length ≤ 4 ∧ eg_Cs n_M_hasPart (.ref (x + 1) :: [a1, a2, a3]) h (fun v h9 => wps rm K Q c_M_copy_79 kc ks loc (v.toList ++ st) h9)) := eg_c1_3
theorem s_M_copy_79 {x : Int32} : wps rm K Q c_M_copy_79 kc ks loc (.int x :: st) h = ((x = 0 → K 94 kc ks loc st h) ∧ (¬ x = 0 → wps rm K Q c_M_copy_82 kc ks loc (st) h)) := gk_if1_eq
theorem s_M_copy_82 {x : Nat} {l : eg_Lo} : wps rm K Q c_M_copy_82 kc ks (some (.ref x) :: l) (st) h = wps rm K Q c_M_copy_83 kc ks (some (.ref x) :: l) (.ref x :: st) h := gk_aload rfl
theorem s_M_copy_83 {x : Int32} {l0 l1 l2 : Option Value} {l : eg_Lo} : wps rm K Q c_M_copy_83 kc ks (l0 :: l1 :: l2 :: some (.int x) :: l) (st) h = wps rm K Q c_M_copy_84 kc ks (l0 :: l1 :: l2 :: some (.int x) :: l) (.int x :: st) h := gk_iload rfl
theorem s_M_copy_84 {x : Int32} {l0 l1 l2 l3 : Option Value} {l : eg_Lo} : wps rm K Q c_M_copy_84 kc ks (l0 :: l1 :: l2 :: l3 :: some (.int x) :: l) (st) h = wps rm K Q c_M_copy_86 kc ks (l0 :: l1 :: l2 :: l3 :: some (.int x) :: l) (.int x :: st) h := gk_iload rfl
theorem s_M_copy_86 {x : Int32} {l0 l1 l2 l3 l4 : Option Value} {l : eg_Lo} : wps rm K Q c_M_copy_86 kc ks (l0 :: l1 :: l2 :: l3 :: l4 :: some (.int x) :: l) (st) h = wps rm K Q c_M_copy_88 kc ks (l0 :: l1 :: l2 :: l3 :: l4 :: some (.int x) :: l) (.int x :: st) h := gk_iload rfl
theorem s_M_copy_88  {a1 : Value} {a2 : Value} {a3 : Value} {x : Nat} : wps rm K Q c_M_copy_88 kc ks loc (a3 :: a2 :: a1 :: .ref (x + 1) :: st) h = (eg_cls h x 12 ∧ st.length ≤ 4 ∧ eg_Cs n_M_hasPart (.ref (x + 1) :: [a1, a2, a3]) h (fun v h9 => wps rm K Q c_M_copy_91 kc ks loc (v.toList ++ st) h9)) := eg_c1_3
theorem s_M_copy_91 {x : Int32} : wps rm K Q c_M_copy_91 kc ks loc (.int x :: st) h = ((¬ x = 0 → K 102 kc ks loc st h) ∧ (x = 0 → wps rm K Q c_M_copy_94 kc ks loc (st) h)) := gk_if1_ne
theorem s_M_copy_94 {x : Nat} {l : eg_Lo} : wps rm K Q c_M_copy_94 kc ks (some (.ref x) :: l) (st) h = wps rm K Q c_M_copy_95 kc ks (some (.ref x) :: l) (.ref x :: st) h := gk_aload rfl
theorem s_M_copy_95  : wps rm K Q c_M_copy_95 kc ks loc (st) h = wps rm K Q c_M_copy_98 kc ks loc (.long (-1000000000000000001) :: st) h := gk_lc (by decide)
theorem s_M_copy_98  {a1 : Value} {x : Nat} : wps rm K Q c_M_copy_98 kc ks loc (a1 :: .ref (x + 1) :: st) h = (eg_cls h x 12 ∧ st.length ≤ 4 ∧ eg_Cs n_M_finding (.ref (x + 1) :: [a1]) h (fun v h9 => wps rm K Q c_M_copy_101 kc ks loc (v.toList ++ st) h9)) := eg_c1_1
theorem s_M_copy_101 {x : Int64} : wps rm K Q c_M_copy_101 kc ks loc ([.long x]) h = (kc = rm.cells ∧ Q (some (.long x)) h) := gk_lret
theorem s_M_copy_102  : wps rm K Q c_M_copy_102 kc ks loc (st) h = wps rm K Q c_M_copy_103 kc ks loc (.int (0) :: st) h := gk_ic (by decide)
theorem s_M_copy_103 {x : Int32} : wps rm K Q c_M_copy_103 kc ks loc (.int x :: st) h = wps rm K Q z_M_copy_105 kc ks (eg_set1 loc 6 (.int x)) (st) h := gk_istore
theorem s_M_copy_105 {x : Int32} {l0 l1 l2 l3 l4 l5 : Option Value} {l : eg_Lo} : wps rm K Q c_M_copy_105 kc ks (l0 :: l1 :: l2 :: l3 :: l4 :: l5 :: some (.int x) :: l) (st) h = wps rm K Q c_M_copy_107 kc ks (l0 :: l1 :: l2 :: l3 :: l4 :: l5 :: some (.int x) :: l) (.int x :: st) h := gk_iload rfl
theorem s_M_copy_107 {x : Int32} {l0 l1 l2 l3 l4 : Option Value} {l : eg_Lo} : wps rm K Q c_M_copy_107 kc ks (l0 :: l1 :: l2 :: l3 :: l4 :: some (.int x) :: l) (st) h = wps rm K Q c_M_copy_109 kc ks (l0 :: l1 :: l2 :: l3 :: l4 :: some (.int x) :: l) (.int x :: st) h := gk_iload rfl
theorem s_M_copy_109 {x y : Int32} : wps rm K Q c_M_copy_109 kc ks loc (.int y :: .int x :: st) h = ((y ≤ x → K 160 kc ks loc st h) ∧ (¬ y ≤ x → wps rm K Q c_M_copy_112 kc ks loc (st) h)) := gk_if2_ge
theorem s_M_copy_112 {x : Nat} {l : eg_Lo} : wps rm K Q c_M_copy_112 kc ks (some (.ref x) :: l) (st) h = wps rm K Q c_M_copy_113 kc ks (some (.ref x) :: l) (.ref x :: st) h := gk_aload rfl
theorem s_M_copy_113 {x : Nat} : wps rm K Q c_M_copy_113 kc ks loc (.ref (x + 1) :: st) h = eg_gf h x 12 27 (fun v => wps rm K Q c_M_copy_116 kc ks loc (v :: st) h) := gk_gf
theorem s_M_copy_116 {x : Int32} {l0 l1 l2 l3 l4 l5 : Option Value} {l : eg_Lo} : wps rm K Q c_M_copy_116 kc ks (l0 :: l1 :: l2 :: l3 :: l4 :: l5 :: some (.int x) :: l) (st) h = wps rm K Q c_M_copy_118 kc ks (l0 :: l1 :: l2 :: l3 :: l4 :: l5 :: some (.int x) :: l) (.int x :: st) h := gk_iload rfl
theorem s_M_copy_118 {x : Nat} {l : eg_Lo} : wps rm K Q c_M_copy_118 kc ks (some (.ref x) :: l) (st) h = wps rm K Q c_M_copy_119 kc ks (some (.ref x) :: l) (.ref x :: st) h := gk_aload rfl
theorem s_M_copy_119 {x : Nat} : wps rm K Q c_M_copy_119 kc ks loc (.ref (x + 1) :: st) h = eg_gf h x 12 24 (fun v => wps rm K Q c_M_copy_122 kc ks loc (v :: st) h) := gk_gf
theorem s_M_copy_122  : wps rm K Q c_M_copy_122 kc ks loc (st) h = wps rm K Q c_M_copy_124 kc ks loc (.int (48) :: st) h := gk_ic (by decide)
theorem s_M_copy_124 {x : Int32} {l0 : Option Value} {l : eg_Lo} : wps rm K Q c_M_copy_124 kc ks (l0 :: some (.int x) :: l) (st) h = wps rm K Q c_M_copy_125 kc ks (l0 :: some (.int x) :: l) (.int x :: st) h := gk_iload rfl
theorem s_M_copy_125 {x y : Int32} : wps rm K Q c_M_copy_125 kc ks loc (.int y :: .int x :: st) h = wps rm K Q c_M_copy_126 kc ks loc (.int (x * y) :: st) h := gk_imul
theorem s_M_copy_126 {x : Int32} {l0 l1 : Option Value} {l : eg_Lo} : wps rm K Q c_M_copy_126 kc ks (l0 :: l1 :: some (.int x) :: l) (st) h = wps rm K Q c_M_copy_127 kc ks (l0 :: l1 :: some (.int x) :: l) (.int x :: st) h := gk_iload rfl
theorem s_M_copy_127 {x y : Int32} : wps rm K Q c_M_copy_127 kc ks loc (.int y :: .int x :: st) h = wps rm K Q c_M_copy_128 kc ks loc (.int (x + y) :: st) h := gk_iadd
theorem s_M_copy_128 {x : Int32} {l0 l1 l2 l3 l4 l5 : Option Value} {l : eg_Lo} : wps rm K Q c_M_copy_128 kc ks (l0 :: l1 :: l2 :: l3 :: l4 :: l5 :: some (.int x) :: l) (st) h = wps rm K Q c_M_copy_130 kc ks (l0 :: l1 :: l2 :: l3 :: l4 :: l5 :: some (.int x) :: l) (.int x :: st) h := gk_iload rfl
theorem s_M_copy_130 {x y : Int32} : wps rm K Q c_M_copy_130 kc ks loc (.int y :: .int x :: st) h = wps rm K Q c_M_copy_131 kc ks loc (.int (x + y) :: st) h := gk_iadd
theorem s_M_copy_131 {x : Nat} {i : Int32} : wps rm K Q c_M_copy_131 kc ks loc (.int i :: .ref (x + 1) :: st) h = eg_ia h x i (fun v => wps rm K Q c_M_copy_132 kc ks loc (.int v :: st) h) := gk_iaload
theorem s_M_copy_132 {x : Nat} {i : Int32} {v : Int32} : wps rm K Q c_M_copy_132 kc ks loc (.int v :: .int i :: .ref (x + 1) :: st) h = eg_is h x i v (fun h9 => wps rm K Q c_M_copy_133 kc ks loc (st) h9) := gk_iastore
theorem s_M_copy_133 {x : Nat} {l : eg_Lo} : wps rm K Q c_M_copy_133 kc ks (some (.ref x) :: l) (st) h = wps rm K Q c_M_copy_134 kc ks (some (.ref x) :: l) (.ref x :: st) h := gk_aload rfl
theorem s_M_copy_134 {x : Nat} : wps rm K Q c_M_copy_134 kc ks loc (.ref (x + 1) :: st) h = eg_gf h x 12 28 (fun v => wps rm K Q c_M_copy_137 kc ks loc (v :: st) h) := gk_gf
theorem s_M_copy_137 {x : Int32} {l0 l1 l2 l3 l4 l5 : Option Value} {l : eg_Lo} : wps rm K Q c_M_copy_137 kc ks (l0 :: l1 :: l2 :: l3 :: l4 :: l5 :: some (.int x) :: l) (st) h = wps rm K Q c_M_copy_139 kc ks (l0 :: l1 :: l2 :: l3 :: l4 :: l5 :: some (.int x) :: l) (.int x :: st) h := gk_iload rfl
theorem s_M_copy_139 {x : Nat} {l : eg_Lo} : wps rm K Q c_M_copy_139 kc ks (some (.ref x) :: l) (st) h = wps rm K Q c_M_copy_140 kc ks (some (.ref x) :: l) (.ref x :: st) h := gk_aload rfl
theorem s_M_copy_140 {x : Nat} : wps rm K Q c_M_copy_140 kc ks loc (.ref (x + 1) :: st) h = eg_gf h x 12 25 (fun v => wps rm K Q c_M_copy_143 kc ks loc (v :: st) h) := gk_gf
theorem s_M_copy_143  : wps rm K Q c_M_copy_143 kc ks loc (st) h = wps rm K Q c_M_copy_145 kc ks loc (.int (48) :: st) h := gk_ic (by decide)
theorem s_M_copy_145 {x : Int32} {l0 : Option Value} {l : eg_Lo} : wps rm K Q c_M_copy_145 kc ks (l0 :: some (.int x) :: l) (st) h = wps rm K Q c_M_copy_146 kc ks (l0 :: some (.int x) :: l) (.int x :: st) h := gk_iload rfl
theorem s_M_copy_146 {x y : Int32} : wps rm K Q c_M_copy_146 kc ks loc (.int y :: .int x :: st) h = wps rm K Q c_M_copy_147 kc ks loc (.int (x * y) :: st) h := gk_imul
theorem s_M_copy_147 {x : Int32} {l0 l1 : Option Value} {l : eg_Lo} : wps rm K Q c_M_copy_147 kc ks (l0 :: l1 :: some (.int x) :: l) (st) h = wps rm K Q c_M_copy_148 kc ks (l0 :: l1 :: some (.int x) :: l) (.int x :: st) h := gk_iload rfl
theorem s_M_copy_148 {x y : Int32} : wps rm K Q c_M_copy_148 kc ks loc (.int y :: .int x :: st) h = wps rm K Q c_M_copy_149 kc ks loc (.int (x + y) :: st) h := gk_iadd
theorem s_M_copy_149 {x : Int32} {l0 l1 l2 l3 l4 l5 : Option Value} {l : eg_Lo} : wps rm K Q c_M_copy_149 kc ks (l0 :: l1 :: l2 :: l3 :: l4 :: l5 :: some (.int x) :: l) (st) h = wps rm K Q c_M_copy_151 kc ks (l0 :: l1 :: l2 :: l3 :: l4 :: l5 :: some (.int x) :: l) (.int x :: st) h := gk_iload rfl
theorem s_M_copy_151 {x y : Int32} : wps rm K Q c_M_copy_151 kc ks loc (.int y :: .int x :: st) h = wps rm K Q c_M_copy_152 kc ks loc (.int (x + y) :: st) h := gk_iadd
theorem s_M_copy_152 {x : Nat} {i : Int32} : wps rm K Q c_M_copy_152 kc ks loc (.int i :: .ref (x + 1) :: st) h = eg_da h x i (fun v => wps rm K Q c_M_copy_153 kc ks loc (.double v :: st) h) := gk_daload
theorem s_M_copy_153 {x : Nat} {i : Int32} {v : UInt64} : wps rm K Q c_M_copy_153 kc ks loc (.double v :: .int i :: .ref (x + 1) :: st) h = eg_ds h x i v (fun h9 => wps rm K Q c_M_copy_154 kc ks loc (st) h9) := gk_dastore
theorem s_M_copy_154 {x : Int32} {l0 l1 l2 l3 l4 l5 : Option Value} {lz : eg_Lo} : wps rm K Q c_M_copy_154 kc ks (l0 :: l1 :: l2 :: l3 :: l4 :: l5 :: some (.int x) :: lz) (st) h = wps rm K Q c_M_copy_157 kc ks (eg_set1 (l0 :: l1 :: l2 :: l3 :: l4 :: l5 :: some (.int x) :: lz) 6 (.int (x + (1)))) (st) h := gk_iinc rfl (by decide)
theorem s_M_copy_157  : wps rm K Q c_M_copy_157 kc ks loc (st) h = K 105 kc ks loc st h := gk_goto
theorem s_M_copy_160  : wps rm K Q c_M_copy_160 kc ks loc (st) h = wps rm K Q c_M_copy_161 kc ks loc (.int (0) :: st) h := gk_ic (by decide)
theorem s_M_copy_161 {x : Int32} : wps rm K Q c_M_copy_161 kc ks loc (.int x :: st) h = wps rm K Q z_M_copy_163 kc ks (eg_set1 loc 6 (.int x)) (st) h := gk_istore
theorem s_M_copy_163 {x : Int32} {l0 l1 l2 l3 l4 l5 : Option Value} {l : eg_Lo} : wps rm K Q c_M_copy_163 kc ks (l0 :: l1 :: l2 :: l3 :: l4 :: l5 :: some (.int x) :: l) (st) h = wps rm K Q c_M_copy_165 kc ks (l0 :: l1 :: l2 :: l3 :: l4 :: l5 :: some (.int x) :: l) (.int x :: st) h := gk_iload rfl
theorem s_M_copy_165 {x : Int32} {l0 l1 l2 l3 l4 : Option Value} {l : eg_Lo} : wps rm K Q c_M_copy_165 kc ks (l0 :: l1 :: l2 :: l3 :: l4 :: some (.int x) :: l) (st) h = wps rm K Q c_M_copy_167 kc ks (l0 :: l1 :: l2 :: l3 :: l4 :: some (.int x) :: l) (.int x :: st) h := gk_iload rfl
theorem s_M_copy_167 {x y : Int32} : wps rm K Q c_M_copy_167 kc ks loc (.int y :: .int x :: st) h = ((y ≤ x → K 220 kc ks loc st h) ∧ (¬ y ≤ x → wps rm K Q c_M_copy_170 kc ks loc (st) h)) := gk_if2_ge
theorem s_M_copy_170 {x : Nat} {l : eg_Lo} : wps rm K Q c_M_copy_170 kc ks (some (.ref x) :: l) (st) h = wps rm K Q c_M_copy_171 kc ks (some (.ref x) :: l) (.ref x :: st) h := gk_aload rfl
theorem s_M_copy_171 {x : Nat} : wps rm K Q c_M_copy_171 kc ks loc (.ref (x + 1) :: st) h = eg_gf h x 12 24 (fun v => wps rm K Q c_M_copy_174 kc ks loc (v :: st) h) := gk_gf
theorem s_M_copy_174  : wps rm K Q c_M_copy_174 kc ks loc (st) h = wps rm K Q c_M_copy_176 kc ks loc (.int (48) :: st) h := gk_ic (by decide)
theorem s_M_copy_176 {x : Int32} {l0 l1 l2 : Option Value} {l : eg_Lo} : wps rm K Q c_M_copy_176 kc ks (l0 :: l1 :: l2 :: some (.int x) :: l) (st) h = wps rm K Q c_M_copy_177 kc ks (l0 :: l1 :: l2 :: some (.int x) :: l) (.int x :: st) h := gk_iload rfl
theorem s_M_copy_177 {x y : Int32} : wps rm K Q c_M_copy_177 kc ks loc (.int y :: .int x :: st) h = wps rm K Q c_M_copy_178 kc ks loc (.int (x * y) :: st) h := gk_imul
theorem s_M_copy_178 {x : Int32} {l0 l1 l2 l3 : Option Value} {l : eg_Lo} : wps rm K Q c_M_copy_178 kc ks (l0 :: l1 :: l2 :: l3 :: some (.int x) :: l) (st) h = wps rm K Q c_M_copy_180 kc ks (l0 :: l1 :: l2 :: l3 :: some (.int x) :: l) (.int x :: st) h := gk_iload rfl
theorem s_M_copy_180 {x y : Int32} : wps rm K Q c_M_copy_180 kc ks loc (.int y :: .int x :: st) h = wps rm K Q c_M_copy_181 kc ks loc (.int (x + y) :: st) h := gk_iadd
theorem s_M_copy_181 {x : Int32} {l0 l1 l2 l3 l4 l5 : Option Value} {l : eg_Lo} : wps rm K Q c_M_copy_181 kc ks (l0 :: l1 :: l2 :: l3 :: l4 :: l5 :: some (.int x) :: l) (st) h = wps rm K Q c_M_copy_183 kc ks (l0 :: l1 :: l2 :: l3 :: l4 :: l5 :: some (.int x) :: l) (.int x :: st) h := gk_iload rfl
theorem s_M_copy_183 {x y : Int32} : wps rm K Q c_M_copy_183 kc ks loc (.int y :: .int x :: st) h = wps rm K Q c_M_copy_184 kc ks loc (.int (x + y) :: st) h := gk_iadd
theorem s_M_copy_184 {x : Nat} {l : eg_Lo} : wps rm K Q c_M_copy_184 kc ks (some (.ref x) :: l) (st) h = wps rm K Q c_M_copy_185 kc ks (some (.ref x) :: l) (.ref x :: st) h := gk_aload rfl
theorem s_M_copy_185 {x : Nat} : wps rm K Q c_M_copy_185 kc ks loc (.ref (x + 1) :: st) h = eg_gf h x 12 27 (fun v => wps rm K Q c_M_copy_188 kc ks loc (v :: st) h) := gk_gf
theorem s_M_copy_188 {x : Int32} {l0 l1 l2 l3 l4 l5 : Option Value} {l : eg_Lo} : wps rm K Q c_M_copy_188 kc ks (l0 :: l1 :: l2 :: l3 :: l4 :: l5 :: some (.int x) :: l) (st) h = wps rm K Q c_M_copy_190 kc ks (l0 :: l1 :: l2 :: l3 :: l4 :: l5 :: some (.int x) :: l) (.int x :: st) h := gk_iload rfl
theorem s_M_copy_190 {x : Nat} {i : Int32} : wps rm K Q c_M_copy_190 kc ks loc (.int i :: .ref (x + 1) :: st) h = eg_ia h x i (fun v => wps rm K Q c_M_copy_191 kc ks loc (.int v :: st) h) := gk_iaload
theorem s_M_copy_191 {x : Nat} {i : Int32} {v : Int32} : wps rm K Q c_M_copy_191 kc ks loc (.int v :: .int i :: .ref (x + 1) :: st) h = eg_is h x i v (fun h9 => wps rm K Q c_M_copy_192 kc ks loc (st) h9) := gk_iastore
theorem s_M_copy_192 {x : Nat} {l : eg_Lo} : wps rm K Q c_M_copy_192 kc ks (some (.ref x) :: l) (st) h = wps rm K Q c_M_copy_193 kc ks (some (.ref x) :: l) (.ref x :: st) h := gk_aload rfl
theorem s_M_copy_193 {x : Nat} : wps rm K Q c_M_copy_193 kc ks loc (.ref (x + 1) :: st) h = eg_gf h x 12 25 (fun v => wps rm K Q c_M_copy_196 kc ks loc (v :: st) h) := gk_gf
theorem s_M_copy_196  : wps rm K Q c_M_copy_196 kc ks loc (st) h = wps rm K Q c_M_copy_198 kc ks loc (.int (48) :: st) h := gk_ic (by decide)
theorem s_M_copy_198 {x : Int32} {l0 l1 l2 : Option Value} {l : eg_Lo} : wps rm K Q c_M_copy_198 kc ks (l0 :: l1 :: l2 :: some (.int x) :: l) (st) h = wps rm K Q c_M_copy_199 kc ks (l0 :: l1 :: l2 :: some (.int x) :: l) (.int x :: st) h := gk_iload rfl
theorem s_M_copy_199 {x y : Int32} : wps rm K Q c_M_copy_199 kc ks loc (.int y :: .int x :: st) h = wps rm K Q c_M_copy_200 kc ks loc (.int (x * y) :: st) h := gk_imul
theorem s_M_copy_200 {x : Int32} {l0 l1 l2 l3 : Option Value} {l : eg_Lo} : wps rm K Q c_M_copy_200 kc ks (l0 :: l1 :: l2 :: l3 :: some (.int x) :: l) (st) h = wps rm K Q c_M_copy_202 kc ks (l0 :: l1 :: l2 :: l3 :: some (.int x) :: l) (.int x :: st) h := gk_iload rfl
theorem s_M_copy_202 {x y : Int32} : wps rm K Q c_M_copy_202 kc ks loc (.int y :: .int x :: st) h = wps rm K Q c_M_copy_203 kc ks loc (.int (x + y) :: st) h := gk_iadd
theorem s_M_copy_203 {x : Int32} {l0 l1 l2 l3 l4 l5 : Option Value} {l : eg_Lo} : wps rm K Q c_M_copy_203 kc ks (l0 :: l1 :: l2 :: l3 :: l4 :: l5 :: some (.int x) :: l) (st) h = wps rm K Q c_M_copy_205 kc ks (l0 :: l1 :: l2 :: l3 :: l4 :: l5 :: some (.int x) :: l) (.int x :: st) h := gk_iload rfl
theorem s_M_copy_205 {x y : Int32} : wps rm K Q c_M_copy_205 kc ks loc (.int y :: .int x :: st) h = wps rm K Q c_M_copy_206 kc ks loc (.int (x + y) :: st) h := gk_iadd
theorem s_M_copy_206 {x : Nat} {l : eg_Lo} : wps rm K Q c_M_copy_206 kc ks (some (.ref x) :: l) (st) h = wps rm K Q c_M_copy_207 kc ks (some (.ref x) :: l) (.ref x :: st) h := gk_aload rfl
theorem s_M_copy_207 {x : Nat} : wps rm K Q c_M_copy_207 kc ks loc (.ref (x + 1) :: st) h = eg_gf h x 12 28 (fun v => wps rm K Q c_M_copy_210 kc ks loc (v :: st) h) := gk_gf
theorem s_M_copy_210 {x : Int32} {l0 l1 l2 l3 l4 l5 : Option Value} {l : eg_Lo} : wps rm K Q c_M_copy_210 kc ks (l0 :: l1 :: l2 :: l3 :: l4 :: l5 :: some (.int x) :: l) (st) h = wps rm K Q c_M_copy_212 kc ks (l0 :: l1 :: l2 :: l3 :: l4 :: l5 :: some (.int x) :: l) (.int x :: st) h := gk_iload rfl
theorem s_M_copy_212 {x : Nat} {i : Int32} : wps rm K Q c_M_copy_212 kc ks loc (.int i :: .ref (x + 1) :: st) h = eg_da h x i (fun v => wps rm K Q c_M_copy_213 kc ks loc (.double v :: st) h) := gk_daload
theorem s_M_copy_213 {x : Nat} {i : Int32} {v : UInt64} : wps rm K Q c_M_copy_213 kc ks loc (.double v :: .int i :: .ref (x + 1) :: st) h = eg_ds h x i v (fun h9 => wps rm K Q c_M_copy_214 kc ks loc (st) h9) := gk_dastore
theorem s_M_copy_214 {x : Int32} {l0 l1 l2 l3 l4 l5 : Option Value} {lz : eg_Lo} : wps rm K Q c_M_copy_214 kc ks (l0 :: l1 :: l2 :: l3 :: l4 :: l5 :: some (.int x) :: lz) (st) h = wps rm K Q c_M_copy_217 kc ks (eg_set1 (l0 :: l1 :: l2 :: l3 :: l4 :: l5 :: some (.int x) :: lz) 6 (.int (x + (1)))) (st) h := gk_iinc rfl (by decide)
theorem s_M_copy_217  : wps rm K Q c_M_copy_217 kc ks loc (st) h = K 163 kc ks loc st h := gk_goto
theorem s_M_copy_220 {x : Int32} {l0 l1 l2 l3 l4 : Option Value} {l : eg_Lo} : wps rm K Q c_M_copy_220 kc ks (l0 :: l1 :: l2 :: l3 :: l4 :: some (.int x) :: l) (st) h = wps rm K Q c_M_copy_222 kc ks (l0 :: l1 :: l2 :: l3 :: l4 :: some (.int x) :: l) (.int x :: st) h := gk_iload rfl
theorem s_M_copy_222 {x : Int32} : wps rm K Q c_M_copy_222 kc ks loc (.int x :: st) h = wps rm K Q c_M_copy_223 kc ks loc (.long (x.toInt64) :: st) h := gk_i2l
theorem s_M_copy_223 {x : Int64} : wps rm K Q c_M_copy_223 kc ks loc ([.long x]) h = (kc = rm.cells ∧ Q (some (.long x)) h) := gk_lret
theorem sz_M_copy_105 : wps rm K Q z_M_copy_105 kc ks loc st h = K 105 kc ks loc st h := gk_nop
theorem sz_M_copy_163 : wps rm K Q z_M_copy_163 kc ks loc st h = K 163 kc ks loc st h := gk_nop
def T_M_copy : List (Nat × List eg_I) := [(14, c_M_copy_14), (22, c_M_copy_22), (40, c_M_copy_40), (48, c_M_copy_48), (71, c_M_copy_71), (94, c_M_copy_94), (102, c_M_copy_102), (160, c_M_copy_160), (220, c_M_copy_220)]
theorem j_M_copy_14 {R : Nat → Nat → Nat → eg_Lo → List Value → List eg_E → Prop} {f pc0 : Nat} : eg_run rm R Q T_M_copy (f + 1) 14 kc ks loc st h = wps rm (eg_run rm R Q T_M_copy f) Q c_M_copy_14 kc ks loc st h := rfl
theorem j_M_copy_22 {R : Nat → Nat → Nat → eg_Lo → List Value → List eg_E → Prop} {f pc0 : Nat} : eg_run rm R Q T_M_copy (f + 1) 22 kc ks loc st h = wps rm (eg_run rm R Q T_M_copy f) Q c_M_copy_22 kc ks loc st h := rfl
theorem j_M_copy_40 {R : Nat → Nat → Nat → eg_Lo → List Value → List eg_E → Prop} {f pc0 : Nat} : eg_run rm R Q T_M_copy (f + 1) 40 kc ks loc st h = wps rm (eg_run rm R Q T_M_copy f) Q c_M_copy_40 kc ks loc st h := rfl
theorem j_M_copy_48 {R : Nat → Nat → Nat → eg_Lo → List Value → List eg_E → Prop} {f pc0 : Nat} : eg_run rm R Q T_M_copy (f + 1) 48 kc ks loc st h = wps rm (eg_run rm R Q T_M_copy f) Q c_M_copy_48 kc ks loc st h := rfl
theorem j_M_copy_71 {R : Nat → Nat → Nat → eg_Lo → List Value → List eg_E → Prop} {f pc0 : Nat} : eg_run rm R Q T_M_copy (f + 1) 71 kc ks loc st h = wps rm (eg_run rm R Q T_M_copy f) Q c_M_copy_71 kc ks loc st h := rfl
theorem j_M_copy_94 {R : Nat → Nat → Nat → eg_Lo → List Value → List eg_E → Prop} {f pc0 : Nat} : eg_run rm R Q T_M_copy (f + 1) 94 kc ks loc st h = wps rm (eg_run rm R Q T_M_copy f) Q c_M_copy_94 kc ks loc st h := rfl
theorem j_M_copy_102 {R : Nat → Nat → Nat → eg_Lo → List Value → List eg_E → Prop} {f pc0 : Nat} : eg_run rm R Q T_M_copy (f + 1) 102 kc ks loc st h = wps rm (eg_run rm R Q T_M_copy f) Q c_M_copy_102 kc ks loc st h := rfl
theorem j_M_copy_160 {R : Nat → Nat → Nat → eg_Lo → List Value → List eg_E → Prop} {f pc0 : Nat} : eg_run rm R Q T_M_copy (f + 1) 160 kc ks loc st h = wps rm (eg_run rm R Q T_M_copy f) Q c_M_copy_160 kc ks loc st h := rfl
theorem j_M_copy_220 {R : Nat → Nat → Nat → eg_Lo → List Value → List eg_E → Prop} {f pc0 : Nat} : eg_run rm R Q T_M_copy (f + 1) 220 kc ks loc st h = wps rm (eg_run rm R Q T_M_copy f) Q c_M_copy_220 kc ks loc st h := rfl
theorem j_M_copy_105 {R : Nat → Nat → Nat → eg_Lo → List Value → List eg_E → Prop} {f pc0 : Nat} : eg_run rm R Q T_M_copy (f + 1) 105 kc ks loc st h = R 105 kc ks loc st h := rfl
theorem j_M_copy_163 {R : Nat → Nat → Nat → eg_Lo → List Value → List eg_E → Prop} {f pc0 : Nat} : eg_run rm R Q T_M_copy (f + 1) 163 kc ks loc st h = R 163 kc ks loc st h := rfl
end
theorem y_M_copy_0 : eg_seq m_M_copy 0 c_M_copy_0 = true := by decide +kernel
theorem y_M_copy_22 : eg_seq m_M_copy 22 c_M_copy_22 = true := by decide +kernel
theorem y_M_copy_48 : eg_seq m_M_copy 48 c_M_copy_48 = true := by decide +kernel
theorem y_M_copy_71 : eg_seq m_M_copy 71 c_M_copy_71 = true := by decide +kernel
theorem y_M_copy_102 : eg_seq m_M_copy 102 c_M_copy_102 = true := by decide +kernel
theorem y_M_copy_105 : eg_seq m_M_copy 105 c_M_copy_105 = true := by decide +kernel
theorem y_M_copy_160 : eg_seq m_M_copy 160 c_M_copy_160 = true := by decide +kernel
theorem y_M_copy_163 : eg_seq m_M_copy 163 c_M_copy_163 = true := by decide +kernel
theorem y_M_copy_220 : eg_seq m_M_copy 220 c_M_copy_220 = true := by decide +kernel
theorem q_M_copy : ∀ q ∈ T_M_copy, eg_seq m_M_copy q.1 q.2 = true := by
  intro q hq
  simp only [T_M_copy, List.mem_cons, List.not_mem_nil, or_false] at hq
  rcases hq with rfl | rfl | rfl | rfl | rfl | rfl | rfl | rfl | rfl
  · exact (eg_seq_drop y_M_copy_0 6 : eg_seq m_M_copy 14 c_M_copy_14 = true)
  · exact y_M_copy_22
  · exact (eg_seq_drop y_M_copy_22 10 : eg_seq m_M_copy 40 c_M_copy_40 = true)
  · exact y_M_copy_48
  · exact y_M_copy_71
  · exact (eg_seq_drop y_M_copy_71 12 : eg_seq m_M_copy 94 c_M_copy_94 = true)
  · exact y_M_copy_102
  · exact y_M_copy_160
  · exact y_M_copy_220
theorem b_M_copy {as : List Value} {h : List eg_E} {Q : Option Value → List eg_E → Prop} (hf : (eg_fl as).length ≤ 7) (hw : wps (eg_rm m_M_copy) (eg_run (eg_rm m_M_copy) (eg_R m_M_copy Q (h.length + 0)) Q T_M_copy 11) Q c_M_copy_0 0 0 (eg_entry 7 as) [] h) : eg_Runs n_M_copy as h Q := eg_begin2 (d := m_M_copy) rfl (by decide) y_M_copy_0 q_M_copy hf hw
theorem p_M_copy_105 {Q : Option Value → List eg_E → Prop} {n0 kc ks : Nat} {loc : eg_Lo} {st : List Value} {h : List eg_E} (hw : wps (eg_rm m_M_copy) (eg_run (eg_rm m_M_copy) (eg_R m_M_copy Q n0) Q T_M_copy 11) Q c_M_copy_105 kc ks loc st h) : eg_R m_M_copy Q n0 105 kc ks loc st h := eg_go2 y_M_copy_105 q_M_copy hw
theorem p_M_copy_163 {Q : Option Value → List eg_E → Prop} {n0 kc ks : Nat} {loc : eg_Lo} {st : List Value} {h : List eg_E} (hw : wps (eg_rm m_M_copy) (eg_run (eg_rm m_M_copy) (eg_R m_M_copy Q n0) Q T_M_copy 11) Q c_M_copy_163 kc ks loc st h) : eg_R m_M_copy Q n0 163 kc ks loc st h := eg_go2 y_M_copy_163 q_M_copy hw
/-! ===== M_isGood ===== -/
def c_M_isGood_66 : List eg_I := .inl (66, 1, .ireturn, 0, 1) :: []
def c_M_isGood_65 : List eg_I := .inl (65, 1, .iconst (0), 0, 0) :: c_M_isGood_66
def c_M_isGood_62 : List eg_I := .inl (62, 3, .goto (4), 66, 0) :: []
def c_M_isGood_61 : List eg_I := .inl (61, 1, .iconst (1), 0, 0) :: c_M_isGood_62
def c_M_isGood_58 : List eg_I := .inl (58, 3, .ifCond .ne (7), 65, 0) :: c_M_isGood_61
def c_M_isGood_57 : List eg_I := .inl (57, 1, .dcmp .l, 0, 0) :: c_M_isGood_58
def c_M_isGood_56 : List eg_I := .inl (56, 1, .i2d, 0, 0) :: c_M_isGood_57
def c_M_isGood_55 : List eg_I := .inl (55, 1, .d2i, 0, 0) :: c_M_isGood_56
def c_M_isGood_54 : List eg_I := .inl (54, 1, .dload 3, 0, 0) :: c_M_isGood_55
def c_M_isGood_53 : List eg_I := .inl (53, 1, .dload 3, 0, 0) :: c_M_isGood_54
def c_M_isGood_50 : List eg_I := .inl (50, 3, .ifCond .gt (15), 65, 0) :: c_M_isGood_53
def c_M_isGood_49 : List eg_I := .inl (49, 1, .dcmp .g, 0, 0) :: c_M_isGood_50
def c_M_isGood_46 : List eg_I := .inl (46, 3, .ldc2_w 160, 4643985272004935680, 0) :: c_M_isGood_49
def c_M_isGood_45 : List eg_I := .inl (45, 1, .dload 3, 0, 0) :: c_M_isGood_46
def c_M_isGood_42 : List eg_I := .inl (42, 3, .ifCond .lt (23), 65, 0) :: c_M_isGood_45
def c_M_isGood_41 : List eg_I := .inl (41, 1, .dcmp .l, 0, 0) :: c_M_isGood_42
def c_M_isGood_38 : List eg_I := .inl (38, 3, .ldc2_w 158, 13867357308859711488, 0) :: c_M_isGood_41
def c_M_isGood_37 : List eg_I := .inl (37, 1, .dload 3, 0, 0) :: c_M_isGood_38
def c_M_isGood_36 : List eg_I := .inl (36, 1, .dstore 3, 0, 0) :: c_M_isGood_37
def c_M_isGood_35 : List eg_I := .inl (35, 1, .daload, 0, 0) :: c_M_isGood_36
def c_M_isGood_34 : List eg_I := .inl (34, 1, .iadd, 0, 0) :: c_M_isGood_35
def c_M_isGood_33 : List eg_I := .inl (33, 1, .iload 2, 0, 0) :: c_M_isGood_34
def c_M_isGood_32 : List eg_I := .inl (32, 1, .imul, 0, 0) :: c_M_isGood_33
def c_M_isGood_31 : List eg_I := .inl (31, 1, .iload 1, 0, 0) :: c_M_isGood_32
def c_M_isGood_29 : List eg_I := .inl (29, 2, .iconst (48), 0, 0) :: c_M_isGood_31
def c_M_isGood_26 : List eg_I := .inl (26, 3, .getfield 78, 12, 25) :: c_M_isGood_29
def c_M_isGood_25 : List eg_I := .inl (25, 1, .aload 0, 0, 0) :: c_M_isGood_26
def c_M_isGood_24 : List eg_I := .inl (24, 1, .ireturn, 0, 1) :: []
def c_M_isGood_21 : List eg_I := .inr (21, 0, 107, n_M_isNear, 1, 12, 0, 0) :: c_M_isGood_24
def c_M_isGood_20 : List eg_I := .inl (20, 1, .iaload, 0, 0) :: c_M_isGood_21
def c_M_isGood_19 : List eg_I := .inl (19, 1, .iadd, 0, 0) :: c_M_isGood_20
def c_M_isGood_18 : List eg_I := .inl (18, 1, .iload 2, 0, 0) :: c_M_isGood_19
def c_M_isGood_17 : List eg_I := .inl (17, 1, .imul, 0, 0) :: c_M_isGood_18
def c_M_isGood_16 : List eg_I := .inl (16, 1, .iload 1, 0, 0) :: c_M_isGood_17
def c_M_isGood_14 : List eg_I := .inl (14, 2, .iconst (48), 0, 0) :: c_M_isGood_16
def c_M_isGood_11 : List eg_I := .inl (11, 3, .getfield 75, 12, 24) :: c_M_isGood_14
def c_M_isGood_10 : List eg_I := .inl (10, 1, .aload 0, 0, 0) :: c_M_isGood_11
def c_M_isGood_7 : List eg_I := .inl (7, 3, .if_icmp .ge (18), 25, 0) :: c_M_isGood_10
def c_M_isGood_6 : List eg_I := .inl (6, 1, .iconst (3), 0, 0) :: c_M_isGood_7
def c_M_isGood_5 : List eg_I := .inl (5, 1, .iaload, 0, 0) :: c_M_isGood_6
def c_M_isGood_4 : List eg_I := .inl (4, 1, .iload 1, 0, 0) :: c_M_isGood_5
def c_M_isGood_1 : List eg_I := .inl (1, 3, .getfield 69, 12, 22) :: c_M_isGood_4
def c_M_isGood_0 : List eg_I := .inl (0, 1, .aload 0, 0, 0) :: c_M_isGood_1
section
variable {rm : Room} {K : Nat → Nat → Nat → eg_Lo → List Value → List eg_E → Prop} {Q : Option Value → List eg_E → Prop} {kc ks : Nat} {loc : eg_Lo} {st : List Value} {h : List eg_E}
theorem s_M_isGood_0 {x : Nat} {l : eg_Lo} : wps rm K Q c_M_isGood_0 kc ks (some (.ref x) :: l) (st) h = wps rm K Q c_M_isGood_1 kc ks (some (.ref x) :: l) (.ref x :: st) h := gk_aload rfl
theorem s_M_isGood_1 {x : Nat} : wps rm K Q c_M_isGood_1 kc ks loc (.ref (x + 1) :: st) h = eg_gf h x 12 22 (fun v => wps rm K Q c_M_isGood_4 kc ks loc (v :: st) h) := gk_gf
theorem s_M_isGood_4 {x : Int32} {l0 : Option Value} {l : eg_Lo} : wps rm K Q c_M_isGood_4 kc ks (l0 :: some (.int x) :: l) (st) h = wps rm K Q c_M_isGood_5 kc ks (l0 :: some (.int x) :: l) (.int x :: st) h := gk_iload rfl
theorem s_M_isGood_5 {x : Nat} {i : Int32} : wps rm K Q c_M_isGood_5 kc ks loc (.int i :: .ref (x + 1) :: st) h = eg_ia h x i (fun v => wps rm K Q c_M_isGood_6 kc ks loc (.int v :: st) h) := gk_iaload
theorem s_M_isGood_6  : wps rm K Q c_M_isGood_6 kc ks loc (st) h = wps rm K Q c_M_isGood_7 kc ks loc (.int (3) :: st) h := gk_ic (by decide)
theorem s_M_isGood_7 {x y : Int32} : wps rm K Q c_M_isGood_7 kc ks loc (.int y :: .int x :: st) h = ((y ≤ x → K 25 kc ks loc st h) ∧ (¬ y ≤ x → wps rm K Q c_M_isGood_10 kc ks loc (st) h)) := gk_if2_ge
theorem s_M_isGood_10 {x : Nat} {l : eg_Lo} : wps rm K Q c_M_isGood_10 kc ks (some (.ref x) :: l) (st) h = wps rm K Q c_M_isGood_11 kc ks (some (.ref x) :: l) (.ref x :: st) h := gk_aload rfl
theorem s_M_isGood_11 {x : Nat} : wps rm K Q c_M_isGood_11 kc ks loc (.ref (x + 1) :: st) h = eg_gf h x 12 24 (fun v => wps rm K Q c_M_isGood_14 kc ks loc (v :: st) h) := gk_gf
theorem s_M_isGood_14  : wps rm K Q c_M_isGood_14 kc ks loc (st) h = wps rm K Q c_M_isGood_16 kc ks loc (.int (48) :: st) h := gk_ic (by decide)
theorem s_M_isGood_16 {x : Int32} {l0 : Option Value} {l : eg_Lo} : wps rm K Q c_M_isGood_16 kc ks (l0 :: some (.int x) :: l) (st) h = wps rm K Q c_M_isGood_17 kc ks (l0 :: some (.int x) :: l) (.int x :: st) h := gk_iload rfl
theorem s_M_isGood_17 {x y : Int32} : wps rm K Q c_M_isGood_17 kc ks loc (.int y :: .int x :: st) h = wps rm K Q c_M_isGood_18 kc ks loc (.int (x * y) :: st) h := gk_imul
theorem s_M_isGood_18 {x : Int32} {l0 l1 : Option Value} {l : eg_Lo} : wps rm K Q c_M_isGood_18 kc ks (l0 :: l1 :: some (.int x) :: l) (st) h = wps rm K Q c_M_isGood_19 kc ks (l0 :: l1 :: some (.int x) :: l) (.int x :: st) h := gk_iload rfl
theorem s_M_isGood_19 {x y : Int32} : wps rm K Q c_M_isGood_19 kc ks loc (.int y :: .int x :: st) h = wps rm K Q c_M_isGood_20 kc ks loc (.int (x + y) :: st) h := gk_iadd
theorem s_M_isGood_20 {x : Nat} {i : Int32} : wps rm K Q c_M_isGood_20 kc ks loc (.int i :: .ref (x + 1) :: st) h = eg_ia h x i (fun v => wps rm K Q c_M_isGood_21 kc ks loc (.int v :: st) h) := gk_iaload
theorem s_M_isGood_21  {a1 : Value} : wps rm K Q c_M_isGood_21 kc ks loc (a1 :: st) h = (st.length ≤ 4 ∧ eg_Cs n_M_isNear [a1] h (fun v h9 => wps rm K Q c_M_isGood_24 kc ks loc (v.toList ++ st) h9)) := eg_c0_1
theorem s_M_isGood_24 {x : Int32} : wps rm K Q c_M_isGood_24 kc ks loc ([.int x]) h = (kc = rm.cells ∧ ((1 : Nat) = 1 → x = 0 ∨ x = 1) ∧ Q (some (.int x)) h) := gk_iret
theorem s_M_isGood_25 {x : Nat} {l : eg_Lo} : wps rm K Q c_M_isGood_25 kc ks (some (.ref x) :: l) (st) h = wps rm K Q c_M_isGood_26 kc ks (some (.ref x) :: l) (.ref x :: st) h := gk_aload rfl
theorem s_M_isGood_26 {x : Nat} : wps rm K Q c_M_isGood_26 kc ks loc (.ref (x + 1) :: st) h = eg_gf h x 12 25 (fun v => wps rm K Q c_M_isGood_29 kc ks loc (v :: st) h) := gk_gf
theorem s_M_isGood_29  : wps rm K Q c_M_isGood_29 kc ks loc (st) h = wps rm K Q c_M_isGood_31 kc ks loc (.int (48) :: st) h := gk_ic (by decide)
theorem s_M_isGood_31 {x : Int32} {l0 : Option Value} {l : eg_Lo} : wps rm K Q c_M_isGood_31 kc ks (l0 :: some (.int x) :: l) (st) h = wps rm K Q c_M_isGood_32 kc ks (l0 :: some (.int x) :: l) (.int x :: st) h := gk_iload rfl
theorem s_M_isGood_32 {x y : Int32} : wps rm K Q c_M_isGood_32 kc ks loc (.int y :: .int x :: st) h = wps rm K Q c_M_isGood_33 kc ks loc (.int (x * y) :: st) h := gk_imul
theorem s_M_isGood_33 {x : Int32} {l0 l1 : Option Value} {l : eg_Lo} : wps rm K Q c_M_isGood_33 kc ks (l0 :: l1 :: some (.int x) :: l) (st) h = wps rm K Q c_M_isGood_34 kc ks (l0 :: l1 :: some (.int x) :: l) (.int x :: st) h := gk_iload rfl
theorem s_M_isGood_34 {x y : Int32} : wps rm K Q c_M_isGood_34 kc ks loc (.int y :: .int x :: st) h = wps rm K Q c_M_isGood_35 kc ks loc (.int (x + y) :: st) h := gk_iadd
theorem s_M_isGood_35 {x : Nat} {i : Int32} : wps rm K Q c_M_isGood_35 kc ks loc (.int i :: .ref (x + 1) :: st) h = eg_da h x i (fun v => wps rm K Q c_M_isGood_36 kc ks loc (.double v :: st) h) := gk_daload
theorem s_M_isGood_36 {x : UInt64} : wps rm K Q c_M_isGood_36 kc ks loc (.double x :: st) h = wps rm K Q c_M_isGood_37 kc ks (eg_set2 loc 3 (.double x)) (st) h := gk_dstore
theorem s_M_isGood_37 {x : UInt64} {l0 l1 l2 : Option Value} {l : eg_Lo} : wps rm K Q c_M_isGood_37 kc ks (l0 :: l1 :: l2 :: some (.double x) :: l) (st) h = wps rm K Q c_M_isGood_38 kc ks (l0 :: l1 :: l2 :: some (.double x) :: l) (.double x :: st) h := gk_dload rfl
theorem s_M_isGood_38  : wps rm K Q c_M_isGood_38 kc ks loc (st) h = wps rm K Q c_M_isGood_41 kc ks loc (.double (UInt64.ofNat 13867357308859711488) :: st) h := gk_dc
theorem s_M_isGood_41 {x y : UInt64} : wps rm K Q c_M_isGood_41 kc ks loc (.double y :: .double x :: st) h = wps rm K Q c_M_isGood_42 kc ks loc (.int (Op.cmpValue (FP.dcmp x y) .l) :: st) h := gk_dcmp
theorem s_M_isGood_42 {x : Int32} : wps rm K Q c_M_isGood_42 kc ks loc (.int x :: st) h = ((x < 0 → K 65 kc ks loc st h) ∧ (¬ x < 0 → wps rm K Q c_M_isGood_45 kc ks loc (st) h)) := gk_if1_lt
theorem s_M_isGood_45 {x : UInt64} {l0 l1 l2 : Option Value} {l : eg_Lo} : wps rm K Q c_M_isGood_45 kc ks (l0 :: l1 :: l2 :: some (.double x) :: l) (st) h = wps rm K Q c_M_isGood_46 kc ks (l0 :: l1 :: l2 :: some (.double x) :: l) (.double x :: st) h := gk_dload rfl
theorem s_M_isGood_46  : wps rm K Q c_M_isGood_46 kc ks loc (st) h = wps rm K Q c_M_isGood_49 kc ks loc (.double (UInt64.ofNat 4643985272004935680) :: st) h := gk_dc
theorem s_M_isGood_49 {x y : UInt64} : wps rm K Q c_M_isGood_49 kc ks loc (.double y :: .double x :: st) h = wps rm K Q c_M_isGood_50 kc ks loc (.int (Op.cmpValue (FP.dcmp x y) .g) :: st) h := gk_dcmp
theorem s_M_isGood_50 {x : Int32} : wps rm K Q c_M_isGood_50 kc ks loc (.int x :: st) h = ((0 < x → K 65 kc ks loc st h) ∧ (¬ 0 < x → wps rm K Q c_M_isGood_53 kc ks loc (st) h)) := gk_if1_gt
theorem s_M_isGood_53 {x : UInt64} {l0 l1 l2 : Option Value} {l : eg_Lo} : wps rm K Q c_M_isGood_53 kc ks (l0 :: l1 :: l2 :: some (.double x) :: l) (st) h = wps rm K Q c_M_isGood_54 kc ks (l0 :: l1 :: l2 :: some (.double x) :: l) (.double x :: st) h := gk_dload rfl
theorem s_M_isGood_54 {x : UInt64} {l0 l1 l2 : Option Value} {l : eg_Lo} : wps rm K Q c_M_isGood_54 kc ks (l0 :: l1 :: l2 :: some (.double x) :: l) (st) h = wps rm K Q c_M_isGood_55 kc ks (l0 :: l1 :: l2 :: some (.double x) :: l) (.double x :: st) h := gk_dload rfl
theorem s_M_isGood_55 {x : UInt64} : wps rm K Q c_M_isGood_55 kc ks loc (.double x :: st) h = wps rm K Q c_M_isGood_56 kc ks loc (.int (FP.d2i x) :: st) h := gk_d2i
theorem s_M_isGood_56 {x : Int32} : wps rm K Q c_M_isGood_56 kc ks loc (.int x :: st) h = wps rm K Q c_M_isGood_57 kc ks loc (.double (FP.i2d x) :: st) h := gk_i2d
theorem s_M_isGood_57 {x y : UInt64} : wps rm K Q c_M_isGood_57 kc ks loc (.double y :: .double x :: st) h = wps rm K Q c_M_isGood_58 kc ks loc (.int (Op.cmpValue (FP.dcmp x y) .l) :: st) h := gk_dcmp
theorem s_M_isGood_58 {x : Int32} : wps rm K Q c_M_isGood_58 kc ks loc (.int x :: st) h = ((¬ x = 0 → K 65 kc ks loc st h) ∧ (x = 0 → wps rm K Q c_M_isGood_61 kc ks loc (st) h)) := gk_if1_ne
theorem s_M_isGood_61  : wps rm K Q c_M_isGood_61 kc ks loc (st) h = wps rm K Q c_M_isGood_62 kc ks loc (.int (1) :: st) h := gk_ic (by decide)
theorem s_M_isGood_62  : wps rm K Q c_M_isGood_62 kc ks loc (st) h = K 66 kc ks loc st h := gk_goto
theorem s_M_isGood_65  : wps rm K Q c_M_isGood_65 kc ks loc (st) h = wps rm K Q c_M_isGood_66 kc ks loc (.int (0) :: st) h := gk_ic (by decide)
theorem s_M_isGood_66 {x : Int32} : wps rm K Q c_M_isGood_66 kc ks loc ([.int x]) h = (kc = rm.cells ∧ ((1 : Nat) = 1 → x = 0 ∨ x = 1) ∧ Q (some (.int x)) h) := gk_iret
def T_M_isGood : List (Nat × List eg_I) := [(25, c_M_isGood_25), (65, c_M_isGood_65), (66, c_M_isGood_66)]
theorem j_M_isGood_25 {R : Nat → Nat → Nat → eg_Lo → List Value → List eg_E → Prop} {f pc0 : Nat} : eg_run rm R Q T_M_isGood (f + 1) 25 kc ks loc st h = wps rm (eg_run rm R Q T_M_isGood f) Q c_M_isGood_25 kc ks loc st h := rfl
theorem j_M_isGood_65 {R : Nat → Nat → Nat → eg_Lo → List Value → List eg_E → Prop} {f pc0 : Nat} : eg_run rm R Q T_M_isGood (f + 1) 65 kc ks loc st h = wps rm (eg_run rm R Q T_M_isGood f) Q c_M_isGood_65 kc ks loc st h := rfl
theorem j_M_isGood_66 {R : Nat → Nat → Nat → eg_Lo → List Value → List eg_E → Prop} {f pc0 : Nat} : eg_run rm R Q T_M_isGood (f + 1) 66 kc ks loc st h = wps rm (eg_run rm R Q T_M_isGood f) Q c_M_isGood_66 kc ks loc st h := rfl
end
theorem y_M_isGood_0 : eg_seq m_M_isGood 0 c_M_isGood_0 = true := by decide +kernel
theorem y_M_isGood_25 : eg_seq m_M_isGood 25 c_M_isGood_25 = true := by decide +kernel
theorem y_M_isGood_65 : eg_seq m_M_isGood 65 c_M_isGood_65 = true := by decide +kernel
theorem q_M_isGood : ∀ q ∈ T_M_isGood, eg_seq m_M_isGood q.1 q.2 = true := by
  intro q hq
  simp only [T_M_isGood, List.mem_cons, List.not_mem_nil, or_false] at hq
  rcases hq with rfl | rfl | rfl
  · exact y_M_isGood_25
  · exact y_M_isGood_65
  · exact (eg_seq_drop y_M_isGood_65 1 : eg_seq m_M_isGood 66 c_M_isGood_66 = true)
theorem b_M_isGood {as : List Value} {h : List eg_E} {Q : Option Value → List eg_E → Prop} (hf : (eg_fl as).length ≤ 5) (hw : wps (eg_rm m_M_isGood) (eg_run (eg_rm m_M_isGood) (eg_R m_M_isGood Q (h.length + 0)) Q T_M_isGood 5) Q c_M_isGood_0 0 0 (eg_entry 5 as) [] h) : eg_Runs n_M_isGood as h Q := eg_begin2 (d := m_M_isGood) rfl (by decide) y_M_isGood_0 q_M_isGood hf hw
/-! ===== M_numberOf ===== -/
def c_M_numberOf_36 : List eg_I := .inl (36, 1, .ireturn, 0, 0) :: []
def c_M_numberOf_35 : List eg_I := .inl (35, 1, .d2i, 0, 0) :: c_M_numberOf_36
def c_M_numberOf_34 : List eg_I := .inl (34, 1, .daload, 0, 0) :: c_M_numberOf_35
def c_M_numberOf_33 : List eg_I := .inl (33, 1, .iadd, 0, 0) :: c_M_numberOf_34
def c_M_numberOf_32 : List eg_I := .inl (32, 1, .iload 2, 0, 0) :: c_M_numberOf_33
def c_M_numberOf_31 : List eg_I := .inl (31, 1, .imul, 0, 0) :: c_M_numberOf_32
def c_M_numberOf_30 : List eg_I := .inl (30, 1, .iload 1, 0, 0) :: c_M_numberOf_31
def c_M_numberOf_28 : List eg_I := .inl (28, 2, .iconst (48), 0, 0) :: c_M_numberOf_30
def c_M_numberOf_25 : List eg_I := .inl (25, 3, .getfield 78, 12, 25) :: c_M_numberOf_28
def c_M_numberOf_24 : List eg_I := .inl (24, 1, .aload 0, 0, 0) :: c_M_numberOf_25
def c_M_numberOf_21 : List eg_I := .inl (21, 3, .goto (15), 36, 0) :: []
def c_M_numberOf_20 : List eg_I := .inl (20, 1, .iaload, 0, 0) :: c_M_numberOf_21
def c_M_numberOf_19 : List eg_I := .inl (19, 1, .iadd, 0, 0) :: c_M_numberOf_20
def c_M_numberOf_18 : List eg_I := .inl (18, 1, .iload 2, 0, 0) :: c_M_numberOf_19
def c_M_numberOf_17 : List eg_I := .inl (17, 1, .imul, 0, 0) :: c_M_numberOf_18
def c_M_numberOf_16 : List eg_I := .inl (16, 1, .iload 1, 0, 0) :: c_M_numberOf_17
def c_M_numberOf_14 : List eg_I := .inl (14, 2, .iconst (48), 0, 0) :: c_M_numberOf_16
def c_M_numberOf_11 : List eg_I := .inl (11, 3, .getfield 75, 12, 24) :: c_M_numberOf_14
def c_M_numberOf_10 : List eg_I := .inl (10, 1, .aload 0, 0, 0) :: c_M_numberOf_11
def c_M_numberOf_7 : List eg_I := .inl (7, 3, .if_icmp .ge (17), 24, 0) :: c_M_numberOf_10
def c_M_numberOf_6 : List eg_I := .inl (6, 1, .iconst (3), 0, 0) :: c_M_numberOf_7
def c_M_numberOf_5 : List eg_I := .inl (5, 1, .iaload, 0, 0) :: c_M_numberOf_6
def c_M_numberOf_4 : List eg_I := .inl (4, 1, .iload 1, 0, 0) :: c_M_numberOf_5
def c_M_numberOf_1 : List eg_I := .inl (1, 3, .getfield 69, 12, 22) :: c_M_numberOf_4
def c_M_numberOf_0 : List eg_I := .inl (0, 1, .aload 0, 0, 0) :: c_M_numberOf_1
section
variable {rm : Room} {K : Nat → Nat → Nat → eg_Lo → List Value → List eg_E → Prop} {Q : Option Value → List eg_E → Prop} {kc ks : Nat} {loc : eg_Lo} {st : List Value} {h : List eg_E}
theorem s_M_numberOf_0 {x : Nat} {l : eg_Lo} : wps rm K Q c_M_numberOf_0 kc ks (some (.ref x) :: l) (st) h = wps rm K Q c_M_numberOf_1 kc ks (some (.ref x) :: l) (.ref x :: st) h := gk_aload rfl
theorem s_M_numberOf_1 {x : Nat} : wps rm K Q c_M_numberOf_1 kc ks loc (.ref (x + 1) :: st) h = eg_gf h x 12 22 (fun v => wps rm K Q c_M_numberOf_4 kc ks loc (v :: st) h) := gk_gf
theorem s_M_numberOf_4 {x : Int32} {l0 : Option Value} {l : eg_Lo} : wps rm K Q c_M_numberOf_4 kc ks (l0 :: some (.int x) :: l) (st) h = wps rm K Q c_M_numberOf_5 kc ks (l0 :: some (.int x) :: l) (.int x :: st) h := gk_iload rfl
theorem s_M_numberOf_5 {x : Nat} {i : Int32} : wps rm K Q c_M_numberOf_5 kc ks loc (.int i :: .ref (x + 1) :: st) h = eg_ia h x i (fun v => wps rm K Q c_M_numberOf_6 kc ks loc (.int v :: st) h) := gk_iaload
theorem s_M_numberOf_6  : wps rm K Q c_M_numberOf_6 kc ks loc (st) h = wps rm K Q c_M_numberOf_7 kc ks loc (.int (3) :: st) h := gk_ic (by decide)
theorem s_M_numberOf_7 {x y : Int32} : wps rm K Q c_M_numberOf_7 kc ks loc (.int y :: .int x :: st) h = ((y ≤ x → K 24 kc ks loc st h) ∧ (¬ y ≤ x → wps rm K Q c_M_numberOf_10 kc ks loc (st) h)) := gk_if2_ge
theorem s_M_numberOf_10 {x : Nat} {l : eg_Lo} : wps rm K Q c_M_numberOf_10 kc ks (some (.ref x) :: l) (st) h = wps rm K Q c_M_numberOf_11 kc ks (some (.ref x) :: l) (.ref x :: st) h := gk_aload rfl
theorem s_M_numberOf_11 {x : Nat} : wps rm K Q c_M_numberOf_11 kc ks loc (.ref (x + 1) :: st) h = eg_gf h x 12 24 (fun v => wps rm K Q c_M_numberOf_14 kc ks loc (v :: st) h) := gk_gf
theorem s_M_numberOf_14  : wps rm K Q c_M_numberOf_14 kc ks loc (st) h = wps rm K Q c_M_numberOf_16 kc ks loc (.int (48) :: st) h := gk_ic (by decide)
theorem s_M_numberOf_16 {x : Int32} {l0 : Option Value} {l : eg_Lo} : wps rm K Q c_M_numberOf_16 kc ks (l0 :: some (.int x) :: l) (st) h = wps rm K Q c_M_numberOf_17 kc ks (l0 :: some (.int x) :: l) (.int x :: st) h := gk_iload rfl
theorem s_M_numberOf_17 {x y : Int32} : wps rm K Q c_M_numberOf_17 kc ks loc (.int y :: .int x :: st) h = wps rm K Q c_M_numberOf_18 kc ks loc (.int (x * y) :: st) h := gk_imul
theorem s_M_numberOf_18 {x : Int32} {l0 l1 : Option Value} {l : eg_Lo} : wps rm K Q c_M_numberOf_18 kc ks (l0 :: l1 :: some (.int x) :: l) (st) h = wps rm K Q c_M_numberOf_19 kc ks (l0 :: l1 :: some (.int x) :: l) (.int x :: st) h := gk_iload rfl
theorem s_M_numberOf_19 {x y : Int32} : wps rm K Q c_M_numberOf_19 kc ks loc (.int y :: .int x :: st) h = wps rm K Q c_M_numberOf_20 kc ks loc (.int (x + y) :: st) h := gk_iadd
theorem s_M_numberOf_20 {x : Nat} {i : Int32} : wps rm K Q c_M_numberOf_20 kc ks loc (.int i :: .ref (x + 1) :: st) h = eg_ia h x i (fun v => wps rm K Q c_M_numberOf_21 kc ks loc (.int v :: st) h) := gk_iaload
theorem s_M_numberOf_21  : wps rm K Q c_M_numberOf_21 kc ks loc (st) h = K 36 kc ks loc st h := gk_goto
theorem s_M_numberOf_24 {x : Nat} {l : eg_Lo} : wps rm K Q c_M_numberOf_24 kc ks (some (.ref x) :: l) (st) h = wps rm K Q c_M_numberOf_25 kc ks (some (.ref x) :: l) (.ref x :: st) h := gk_aload rfl
theorem s_M_numberOf_25 {x : Nat} : wps rm K Q c_M_numberOf_25 kc ks loc (.ref (x + 1) :: st) h = eg_gf h x 12 25 (fun v => wps rm K Q c_M_numberOf_28 kc ks loc (v :: st) h) := gk_gf
theorem s_M_numberOf_28  : wps rm K Q c_M_numberOf_28 kc ks loc (st) h = wps rm K Q c_M_numberOf_30 kc ks loc (.int (48) :: st) h := gk_ic (by decide)
theorem s_M_numberOf_30 {x : Int32} {l0 : Option Value} {l : eg_Lo} : wps rm K Q c_M_numberOf_30 kc ks (l0 :: some (.int x) :: l) (st) h = wps rm K Q c_M_numberOf_31 kc ks (l0 :: some (.int x) :: l) (.int x :: st) h := gk_iload rfl
theorem s_M_numberOf_31 {x y : Int32} : wps rm K Q c_M_numberOf_31 kc ks loc (.int y :: .int x :: st) h = wps rm K Q c_M_numberOf_32 kc ks loc (.int (x * y) :: st) h := gk_imul
theorem s_M_numberOf_32 {x : Int32} {l0 l1 : Option Value} {l : eg_Lo} : wps rm K Q c_M_numberOf_32 kc ks (l0 :: l1 :: some (.int x) :: l) (st) h = wps rm K Q c_M_numberOf_33 kc ks (l0 :: l1 :: some (.int x) :: l) (.int x :: st) h := gk_iload rfl
theorem s_M_numberOf_33 {x y : Int32} : wps rm K Q c_M_numberOf_33 kc ks loc (.int y :: .int x :: st) h = wps rm K Q c_M_numberOf_34 kc ks loc (.int (x + y) :: st) h := gk_iadd
theorem s_M_numberOf_34 {x : Nat} {i : Int32} : wps rm K Q c_M_numberOf_34 kc ks loc (.int i :: .ref (x + 1) :: st) h = eg_da h x i (fun v => wps rm K Q c_M_numberOf_35 kc ks loc (.double v :: st) h) := gk_daload
theorem s_M_numberOf_35 {x : UInt64} : wps rm K Q c_M_numberOf_35 kc ks loc (.double x :: st) h = wps rm K Q c_M_numberOf_36 kc ks loc (.int (FP.d2i x) :: st) h := gk_d2i
theorem s_M_numberOf_36 {x : Int32} : wps rm K Q c_M_numberOf_36 kc ks loc ([.int x]) h = (kc = rm.cells ∧ (0 = 1 → x = 0 ∨ x = 1) ∧ Q (some (.int x)) h) := gk_iret
def T_M_numberOf : List (Nat × List eg_I) := [(24, c_M_numberOf_24), (36, c_M_numberOf_36)]
theorem j_M_numberOf_24 {R : Nat → Nat → Nat → eg_Lo → List Value → List eg_E → Prop} {f pc0 : Nat} : eg_run rm R Q T_M_numberOf (f + 1) 24 kc ks loc st h = wps rm (eg_run rm R Q T_M_numberOf f) Q c_M_numberOf_24 kc ks loc st h := rfl
theorem j_M_numberOf_36 {R : Nat → Nat → Nat → eg_Lo → List Value → List eg_E → Prop} {f pc0 : Nat} : eg_run rm R Q T_M_numberOf (f + 1) 36 kc ks loc st h = wps rm (eg_run rm R Q T_M_numberOf f) Q c_M_numberOf_36 kc ks loc st h := rfl
end
theorem y_M_numberOf_0 : eg_seq m_M_numberOf 0 c_M_numberOf_0 = true := by decide +kernel
theorem y_M_numberOf_24 : eg_seq m_M_numberOf 24 c_M_numberOf_24 = true := by decide +kernel
theorem q_M_numberOf : ∀ q ∈ T_M_numberOf, eg_seq m_M_numberOf q.1 q.2 = true := by
  intro q hq
  simp only [T_M_numberOf, List.mem_cons, List.not_mem_nil, or_false] at hq
  rcases hq with rfl | rfl
  · exact y_M_numberOf_24
  · exact (eg_seq_drop y_M_numberOf_24 9 : eg_seq m_M_numberOf 36 c_M_numberOf_36 = true)
theorem b_M_numberOf {as : List Value} {h : List eg_E} {Q : Option Value → List eg_E → Prop} (hf : (eg_fl as).length ≤ 3) (hw : wps (eg_rm m_M_numberOf) (eg_run (eg_rm m_M_numberOf) (eg_R m_M_numberOf Q (h.length + 0)) Q T_M_numberOf 4) Q c_M_numberOf_0 0 0 (eg_entry 3 as) [] h) : eg_Runs n_M_numberOf as h Q := eg_begin2 (d := m_M_numberOf) rfl (by decide) y_M_numberOf_0 q_M_numberOf hf hw
/-! ===== M_lay ===== -/
def z_M_lay_75 : List eg_I := [.inl (75, 0, .nop, 0, 0)]
def c_M_lay_182 : List eg_I := .inl (182, 1, .lreturn, 0, 0) :: []
def c_M_lay_181 : List eg_I := .inl (181, 1, .i2l, 0, 0) :: c_M_lay_182
def c_M_lay_179 : List eg_I := .inl (179, 2, .iload 4, 0, 0) :: c_M_lay_181
def c_M_lay_176 : List eg_I := .inl (176, 3, .goto (-101), 75, 0) :: []
def c_M_lay_173 : List eg_I := .inl (173, 3, .iinc 5 (1), 0, 0) :: c_M_lay_176
def c_M_lay_170 : List eg_I := .inr (170, 1, 118, n_M_add, 5, 12, 0, 0) :: c_M_lay_173
def c_M_lay_169 : List eg_I := .inl (169, 1, .iconst (1), 0, 0) :: c_M_lay_170
def c_M_lay_168 : List eg_I := .inl (168, 1, .iconst (0), 0, 0) :: c_M_lay_169
def c_M_lay_167 : List eg_I := .inl (167, 1, .iconst (0), 0, 0) :: c_M_lay_168
def c_M_lay_166 : List eg_I := .inl (166, 1, .iconst (0), 0, 0) :: c_M_lay_167
def c_M_lay_165 : List eg_I := .inl (165, 1, .iload 1, 0, 0) :: c_M_lay_166
def c_M_lay_164 : List eg_I := .inl (164, 1, .aload 0, 0, 0) :: c_M_lay_165
def c_M_lay_161 : List eg_I := .inl (161, 3, .goto (12), 173, 0) :: []
def c_M_lay_158 : List eg_I := .inl (158, 3, .iinc 4 (1), 0, 0) :: c_M_lay_161
def c_M_lay_155 : List eg_I := .inr (155, 1, 118, n_M_add, 5, 12, 0, 0) :: c_M_lay_158
def c_M_lay_154 : List eg_I := .inl (154, 1, .iconst (0), 0, 0) :: c_M_lay_155
def c_M_lay_151 : List eg_I := .inr (151, 1, 165, n_M_numberOf, 2, 12, 0, 0) :: c_M_lay_154
def c_M_lay_150 : List eg_I := .inl (150, 1, .iadd, 0, 0) :: c_M_lay_151
def c_M_lay_149 : List eg_I := .inl (149, 1, .iconst (2), 0, 0) :: c_M_lay_150
def c_M_lay_148 : List eg_I := .inl (148, 1, .imul, 0, 0) :: c_M_lay_149
def c_M_lay_146 : List eg_I := .inl (146, 2, .iload 5, 0, 0) :: c_M_lay_148
def c_M_lay_145 : List eg_I := .inl (145, 1, .iconst (3), 0, 0) :: c_M_lay_146
def c_M_lay_144 : List eg_I := .inl (144, 1, .iload 2, 0, 0) :: c_M_lay_145
def c_M_lay_143 : List eg_I := .inl (143, 1, .aload 0, 0, 0) :: c_M_lay_144
def c_M_lay_140 : List eg_I := .inr (140, 1, 165, n_M_numberOf, 2, 12, 0, 0) :: c_M_lay_143
def c_M_lay_139 : List eg_I := .inl (139, 1, .iadd, 0, 0) :: c_M_lay_140
def c_M_lay_138 : List eg_I := .inl (138, 1, .iconst (1), 0, 0) :: c_M_lay_139
def c_M_lay_137 : List eg_I := .inl (137, 1, .imul, 0, 0) :: c_M_lay_138
def c_M_lay_135 : List eg_I := .inl (135, 2, .iload 5, 0, 0) :: c_M_lay_137
def c_M_lay_134 : List eg_I := .inl (134, 1, .iconst (3), 0, 0) :: c_M_lay_135
def c_M_lay_133 : List eg_I := .inl (133, 1, .iload 2, 0, 0) :: c_M_lay_134
def c_M_lay_132 : List eg_I := .inl (132, 1, .aload 0, 0, 0) :: c_M_lay_133
def c_M_lay_129 : List eg_I := .inr (129, 1, 165, n_M_numberOf, 2, 12, 0, 0) :: c_M_lay_132
def c_M_lay_128 : List eg_I := .inl (128, 1, .imul, 0, 0) :: c_M_lay_129
def c_M_lay_126 : List eg_I := .inl (126, 2, .iload 5, 0, 0) :: c_M_lay_128
def c_M_lay_125 : List eg_I := .inl (125, 1, .iconst (3), 0, 0) :: c_M_lay_126
def c_M_lay_124 : List eg_I := .inl (124, 1, .iload 2, 0, 0) :: c_M_lay_125
def c_M_lay_123 : List eg_I := .inl (123, 1, .aload 0, 0, 0) :: c_M_lay_124
def c_M_lay_122 : List eg_I := .inl (122, 1, .iload 1, 0, 0) :: c_M_lay_123
def c_M_lay_121 : List eg_I := .inl (121, 1, .aload 0, 0, 0) :: c_M_lay_122
def c_M_lay_118 : List eg_I := .inl (118, 3, .ifCond .eq (46), 164, 0) :: c_M_lay_121
def c_M_lay_115 : List eg_I := .inr (115, 1, 162, n_M_isGood, 2, 12, 0, 0) :: c_M_lay_118
def c_M_lay_114 : List eg_I := .inl (114, 1, .iadd, 0, 0) :: c_M_lay_115
def c_M_lay_113 : List eg_I := .inl (113, 1, .iconst (2), 0, 0) :: c_M_lay_114
def c_M_lay_112 : List eg_I := .inl (112, 1, .imul, 0, 0) :: c_M_lay_113
def c_M_lay_110 : List eg_I := .inl (110, 2, .iload 5, 0, 0) :: c_M_lay_112
def c_M_lay_109 : List eg_I := .inl (109, 1, .iconst (3), 0, 0) :: c_M_lay_110
def c_M_lay_108 : List eg_I := .inl (108, 1, .iload 2, 0, 0) :: c_M_lay_109
def c_M_lay_107 : List eg_I := .inl (107, 1, .aload 0, 0, 0) :: c_M_lay_108
def c_M_lay_104 : List eg_I := .inl (104, 3, .ifCond .eq (60), 164, 0) :: c_M_lay_107
def c_M_lay_101 : List eg_I := .inr (101, 1, 162, n_M_isGood, 2, 12, 0, 0) :: c_M_lay_104
def c_M_lay_100 : List eg_I := .inl (100, 1, .iadd, 0, 0) :: c_M_lay_101
def c_M_lay_99 : List eg_I := .inl (99, 1, .iconst (1), 0, 0) :: c_M_lay_100
def c_M_lay_98 : List eg_I := .inl (98, 1, .imul, 0, 0) :: c_M_lay_99
def c_M_lay_96 : List eg_I := .inl (96, 2, .iload 5, 0, 0) :: c_M_lay_98
def c_M_lay_95 : List eg_I := .inl (95, 1, .iconst (3), 0, 0) :: c_M_lay_96
def c_M_lay_94 : List eg_I := .inl (94, 1, .iload 2, 0, 0) :: c_M_lay_95
def c_M_lay_93 : List eg_I := .inl (93, 1, .aload 0, 0, 0) :: c_M_lay_94
def c_M_lay_90 : List eg_I := .inl (90, 3, .ifCond .eq (74), 164, 0) :: c_M_lay_93
def c_M_lay_87 : List eg_I := .inr (87, 1, 162, n_M_isGood, 2, 12, 0, 0) :: c_M_lay_90
def c_M_lay_86 : List eg_I := .inl (86, 1, .imul, 0, 0) :: c_M_lay_87
def c_M_lay_84 : List eg_I := .inl (84, 2, .iload 5, 0, 0) :: c_M_lay_86
def c_M_lay_83 : List eg_I := .inl (83, 1, .iconst (3), 0, 0) :: c_M_lay_84
def c_M_lay_82 : List eg_I := .inl (82, 1, .iload 2, 0, 0) :: c_M_lay_83
def c_M_lay_81 : List eg_I := .inl (81, 1, .aload 0, 0, 0) :: c_M_lay_82
def c_M_lay_78 : List eg_I := .inl (78, 3, .if_icmp .ge (101), 179, 0) :: c_M_lay_81
def c_M_lay_77 : List eg_I := .inl (77, 1, .iload 3, 0, 0) :: c_M_lay_78
def c_M_lay_75 : List eg_I := .inl (75, 2, .iload 5, 0, 0) :: c_M_lay_77
def c_M_lay_73 : List eg_I := .inl (73, 2, .istore 5, 0, 0) :: z_M_lay_75
def c_M_lay_72 : List eg_I := .inl (72, 1, .iconst (0), 0, 0) :: c_M_lay_73
def c_M_lay_70 : List eg_I := .inl (70, 2, .istore 4, 0, 0) :: c_M_lay_72
def c_M_lay_69 : List eg_I := .inl (69, 1, .iconst (0), 0, 0) :: c_M_lay_70
def c_M_lay_68 : List eg_I := .inl (68, 1, .lreturn, 0, 0) :: []
def c_M_lay_65 : List eg_I := .inr (65, 1, 112, n_M_finding, 1, 12, 0, 0) :: c_M_lay_68
def c_M_lay_62 : List eg_I := .inl (62, 3, .sipush (-1000000000000000005), 116, 0) :: c_M_lay_65
def c_M_lay_61 : List eg_I := .inl (61, 1, .aload 0, 0, 0) :: c_M_lay_62
def c_M_lay_58 : List eg_I := .inl (58, 3, .if_icmp .le (11), 69, 0) :: c_M_lay_61
def c_M_lay_56 : List eg_I := .inl (56, 2, .iconst (16), 0, 0) :: c_M_lay_58
def c_M_lay_55 : List eg_I := .inl (55, 1, .iadd, 0, 0) :: c_M_lay_56
def c_M_lay_54 : List eg_I := .inl (54, 1, .iload 3, 0, 0) :: c_M_lay_55
def c_M_lay_53 : List eg_I := .inl (53, 1, .iaload, 0, 0) :: c_M_lay_54
def c_M_lay_52 : List eg_I := .inl (52, 1, .iload 1, 0, 0) :: c_M_lay_53
def c_M_lay_49 : List eg_I := .inl (49, 3, .getfield 9, 12, 0) :: c_M_lay_52
def c_M_lay_48 : List eg_I := .inl (48, 1, .aload 0, 0, 0) :: c_M_lay_49
def c_M_lay_47 : List eg_I := .inl (47, 1, .istore 3, 0, 0) :: c_M_lay_48
def c_M_lay_46 : List eg_I := .inl (46, 1, .idiv, 0, 0) :: c_M_lay_47
def c_M_lay_45 : List eg_I := .inl (45, 1, .iconst (3), 0, 0) :: c_M_lay_46
def c_M_lay_44 : List eg_I := .inl (44, 1, .iaload, 0, 0) :: c_M_lay_45
def c_M_lay_43 : List eg_I := .inl (43, 1, .iload 2, 0, 0) :: c_M_lay_44
def c_M_lay_40 : List eg_I := .inl (40, 3, .getfield 72, 12, 23) :: c_M_lay_43
def c_M_lay_39 : List eg_I := .inl (39, 1, .aload 0, 0, 0) :: c_M_lay_40
def c_M_lay_38 : List eg_I := .inl (38, 1, .lreturn, 0, 0) :: []
def c_M_lay_35 : List eg_I := .inr (35, 1, 112, n_M_finding, 1, 12, 0, 0) :: c_M_lay_38
def c_M_lay_32 : List eg_I := .inl (32, 3, .sipush (-1000000000000000002), 145, 0) :: c_M_lay_35
def c_M_lay_31 : List eg_I := .inl (31, 1, .aload 0, 0, 0) :: c_M_lay_32
def c_M_lay_28 : List eg_I := .inl (28, 3, .ifCond .ne (11), 39, 0) :: c_M_lay_31
def c_M_lay_27 : List eg_I := .inl (27, 1, .iaload, 0, 0) :: c_M_lay_28
def c_M_lay_26 : List eg_I := .inl (26, 1, .iload 2, 0, 0) :: c_M_lay_27
def c_M_lay_23 : List eg_I := .inl (23, 3, .getfield 69, 12, 22) :: c_M_lay_26
def c_M_lay_22 : List eg_I := .inl (22, 1, .aload 0, 0, 0) :: c_M_lay_23
def c_M_lay_21 : List eg_I := .inl (21, 1, .lreturn, 0, 0) :: []
def c_M_lay_18 : List eg_I := .inr (18, 1, 112, n_M_finding, 1, 12, 0, 0) :: c_M_lay_21
def c_M_lay_15 : List eg_I := .inl (15, 3, .sipush (-1000000000000000001), 110, 0) :: c_M_lay_18
def c_M_lay_14 : List eg_I := .inl (14, 1, .aload 0, 0, 0) :: c_M_lay_15
def c_M_lay_11 : List eg_I := .inl (11, 3, .ifCond .ne (11), 22, 0) :: c_M_lay_14
def c_M_lay_8 : List eg_I := .inr (8, 0, 140, n_M_isSheet, 1, 12, 0, 0) :: c_M_lay_11
def c_M_lay_7 : List eg_I := .inl (7, 1, .iload 2, 0, 0) :: c_M_lay_8
def c_M_lay_4 : List eg_I := .inl (4, 3, .ifCond .eq (10), 14, 0) :: c_M_lay_7
def c_M_lay_1 : List eg_I := .inr (1, 0, 99, n_M_isPart, 1, 12, 0, 0) :: c_M_lay_4
def c_M_lay_0 : List eg_I := .inl (0, 1, .iload 1, 0, 0) :: c_M_lay_1
section
variable {rm : Room} {K : Nat → Nat → Nat → eg_Lo → List Value → List eg_E → Prop} {Q : Option Value → List eg_E → Prop} {kc ks : Nat} {loc : eg_Lo} {st : List Value} {h : List eg_E}
theorem s_M_lay_0 {x : Int32} {l0 : Option Value} {l : eg_Lo} : wps rm K Q c_M_lay_0 kc ks (l0 :: some (.int x) :: l) (st) h = wps rm K Q c_M_lay_1 kc ks (l0 :: some (.int x) :: l) (.int x :: st) h := gk_iload rfl
theorem s_M_lay_1  {a1 : Value} : wps rm K Q c_M_lay_1 kc ks loc (a1 :: st) h = (st.length ≤ 4 ∧ eg_Cs n_M_isPart [a1] h (fun v h9 => wps rm K Q c_M_lay_4 kc ks loc (v.toList ++ st) h9)) := eg_c0_1
theorem s_M_lay_4 {x : Int32} : wps rm K Q c_M_lay_4 kc ks loc (.int x :: st) h = ((x = 0 → K 14 kc ks loc st h) ∧ (¬ x = 0 → wps rm K Q c_M_lay_7 kc ks loc (st) h)) := gk_if1_eq
theorem s_M_lay_7 {x : Int32} {l0 l1 : Option Value} {l : eg_Lo} : wps rm K Q c_M_lay_7 kc ks (l0 :: l1 :: some (.int x) :: l) (st) h = wps rm K Q c_M_lay_8 kc ks (l0 :: l1 :: some (.int x) :: l) (.int x :: st) h := gk_iload rfl
theorem s_M_lay_8  {a1 : Value} : wps rm K Q c_M_lay_8 kc ks loc (a1 :: st) h = (st.length ≤ 4 ∧ eg_Cs n_M_isSheet [a1] h (fun v h9 => wps rm K Q c_M_lay_11 kc ks loc (v.toList ++ st) h9)) := eg_c0_1
theorem s_M_lay_11 {x : Int32} : wps rm K Q c_M_lay_11 kc ks loc (.int x :: st) h = ((¬ x = 0 → K 22 kc ks loc st h) ∧ (x = 0 → wps rm K Q c_M_lay_14 kc ks loc (st) h)) := gk_if1_ne
theorem s_M_lay_14 {x : Nat} {l : eg_Lo} : wps rm K Q c_M_lay_14 kc ks (some (.ref x) :: l) (st) h = wps rm K Q c_M_lay_15 kc ks (some (.ref x) :: l) (.ref x :: st) h := gk_aload rfl
theorem s_M_lay_15  : wps rm K Q c_M_lay_15 kc ks loc (st) h = wps rm K Q c_M_lay_18 kc ks loc (.long (-1000000000000000001) :: st) h := gk_lc (by decide)
theorem s_M_lay_18  {a1 : Value} {x : Nat} : wps rm K Q c_M_lay_18 kc ks loc (a1 :: .ref (x + 1) :: st) h = (eg_cls h x 12 ∧ st.length ≤ 4 ∧ eg_Cs n_M_finding (.ref (x + 1) :: [a1]) h (fun v h9 => wps rm K Q c_M_lay_21 kc ks loc (v.toList ++ st) h9)) := eg_c1_1
theorem s_M_lay_21 {x : Int64} : wps rm K Q c_M_lay_21 kc ks loc ([.long x]) h = (kc = rm.cells ∧ Q (some (.long x)) h) := gk_lret
theorem s_M_lay_22 {x : Nat} {l : eg_Lo} : wps rm K Q c_M_lay_22 kc ks (some (.ref x) :: l) (st) h = wps rm K Q c_M_lay_23 kc ks (some (.ref x) :: l) (.ref x :: st) h := gk_aload rfl
theorem s_M_lay_23 {x : Nat} : wps rm K Q c_M_lay_23 kc ks loc (.ref (x + 1) :: st) h = eg_gf h x 12 22 (fun v => wps rm K Q c_M_lay_26 kc ks loc (v :: st) h) := gk_gf
theorem s_M_lay_26 {x : Int32} {l0 l1 : Option Value} {l : eg_Lo} : wps rm K Q c_M_lay_26 kc ks (l0 :: l1 :: some (.int x) :: l) (st) h = wps rm K Q c_M_lay_27 kc ks (l0 :: l1 :: some (.int x) :: l) (.int x :: st) h := gk_iload rfl
theorem s_M_lay_27 {x : Nat} {i : Int32} : wps rm K Q c_M_lay_27 kc ks loc (.int i :: .ref (x + 1) :: st) h = eg_ia h x i (fun v => wps rm K Q c_M_lay_28 kc ks loc (.int v :: st) h) := gk_iaload
theorem s_M_lay_28 {x : Int32} : wps rm K Q c_M_lay_28 kc ks loc (.int x :: st) h = ((¬ x = 0 → K 39 kc ks loc st h) ∧ (x = 0 → wps rm K Q c_M_lay_31 kc ks loc (st) h)) := gk_if1_ne
theorem s_M_lay_31 {x : Nat} {l : eg_Lo} : wps rm K Q c_M_lay_31 kc ks (some (.ref x) :: l) (st) h = wps rm K Q c_M_lay_32 kc ks (some (.ref x) :: l) (.ref x :: st) h := gk_aload rfl
theorem s_M_lay_32  : wps rm K Q c_M_lay_32 kc ks loc (st) h = wps rm K Q c_M_lay_35 kc ks loc (.long (-1000000000000000002) :: st) h := gk_lc (by decide)
theorem s_M_lay_35  {a1 : Value} {x : Nat} : wps rm K Q c_M_lay_35 kc ks loc (a1 :: .ref (x + 1) :: st) h = (eg_cls h x 12 ∧ st.length ≤ 4 ∧ eg_Cs n_M_finding (.ref (x + 1) :: [a1]) h (fun v h9 => wps rm K Q c_M_lay_38 kc ks loc (v.toList ++ st) h9)) := eg_c1_1
theorem s_M_lay_38 {x : Int64} : wps rm K Q c_M_lay_38 kc ks loc ([.long x]) h = (kc = rm.cells ∧ Q (some (.long x)) h) := gk_lret
theorem s_M_lay_39 {x : Nat} {l : eg_Lo} : wps rm K Q c_M_lay_39 kc ks (some (.ref x) :: l) (st) h = wps rm K Q c_M_lay_40 kc ks (some (.ref x) :: l) (.ref x :: st) h := gk_aload rfl
theorem s_M_lay_40 {x : Nat} : wps rm K Q c_M_lay_40 kc ks loc (.ref (x + 1) :: st) h = eg_gf h x 12 23 (fun v => wps rm K Q c_M_lay_43 kc ks loc (v :: st) h) := gk_gf
theorem s_M_lay_43 {x : Int32} {l0 l1 : Option Value} {l : eg_Lo} : wps rm K Q c_M_lay_43 kc ks (l0 :: l1 :: some (.int x) :: l) (st) h = wps rm K Q c_M_lay_44 kc ks (l0 :: l1 :: some (.int x) :: l) (.int x :: st) h := gk_iload rfl
theorem s_M_lay_44 {x : Nat} {i : Int32} : wps rm K Q c_M_lay_44 kc ks loc (.int i :: .ref (x + 1) :: st) h = eg_ia h x i (fun v => wps rm K Q c_M_lay_45 kc ks loc (.int v :: st) h) := gk_iaload
theorem s_M_lay_45  : wps rm K Q c_M_lay_45 kc ks loc (st) h = wps rm K Q c_M_lay_46 kc ks loc (.int (3) :: st) h := gk_ic (by decide)
theorem s_M_lay_46 {x y : Int32} : wps rm K Q c_M_lay_46 kc ks loc (.int y :: .int x :: st) h = (¬ y = 0 ∧ wps rm K Q c_M_lay_47 kc ks loc (.int (x / y) :: st) h) := gk_idiv
theorem s_M_lay_47 {x : Int32} : wps rm K Q c_M_lay_47 kc ks loc (.int x :: st) h = wps rm K Q c_M_lay_48 kc ks (eg_set1 loc 3 (.int x)) (st) h := gk_istore
theorem s_M_lay_48 {x : Nat} {l : eg_Lo} : wps rm K Q c_M_lay_48 kc ks (some (.ref x) :: l) (st) h = wps rm K Q c_M_lay_49 kc ks (some (.ref x) :: l) (.ref x :: st) h := gk_aload rfl
theorem s_M_lay_49 {x : Nat} : wps rm K Q c_M_lay_49 kc ks loc (.ref (x + 1) :: st) h = eg_gf h x 12 0 (fun v => wps rm K Q c_M_lay_52 kc ks loc (v :: st) h) := gk_gf
theorem s_M_lay_52 {x : Int32} {l0 : Option Value} {l : eg_Lo} : wps rm K Q c_M_lay_52 kc ks (l0 :: some (.int x) :: l) (st) h = wps rm K Q c_M_lay_53 kc ks (l0 :: some (.int x) :: l) (.int x :: st) h := gk_iload rfl
theorem s_M_lay_53 {x : Nat} {i : Int32} : wps rm K Q c_M_lay_53 kc ks loc (.int i :: .ref (x + 1) :: st) h = eg_ia h x i (fun v => wps rm K Q c_M_lay_54 kc ks loc (.int v :: st) h) := gk_iaload
theorem s_M_lay_54 {x : Int32} {l0 l1 l2 : Option Value} {l : eg_Lo} : wps rm K Q c_M_lay_54 kc ks (l0 :: l1 :: l2 :: some (.int x) :: l) (st) h = wps rm K Q c_M_lay_55 kc ks (l0 :: l1 :: l2 :: some (.int x) :: l) (.int x :: st) h := gk_iload rfl
theorem s_M_lay_55 {x y : Int32} : wps rm K Q c_M_lay_55 kc ks loc (.int y :: .int x :: st) h = wps rm K Q c_M_lay_56 kc ks loc (.int (x + y) :: st) h := gk_iadd
theorem s_M_lay_56  : wps rm K Q c_M_lay_56 kc ks loc (st) h = wps rm K Q c_M_lay_58 kc ks loc (.int (16) :: st) h := gk_ic (by decide)
theorem s_M_lay_58 {x y : Int32} : wps rm K Q c_M_lay_58 kc ks loc (.int y :: .int x :: st) h = ((x ≤ y → K 69 kc ks loc st h) ∧ (¬ x ≤ y → wps rm K Q c_M_lay_61 kc ks loc (st) h)) := gk_if2_le
theorem s_M_lay_61 {x : Nat} {l : eg_Lo} : wps rm K Q c_M_lay_61 kc ks (some (.ref x) :: l) (st) h = wps rm K Q c_M_lay_62 kc ks (some (.ref x) :: l) (.ref x :: st) h := gk_aload rfl
theorem s_M_lay_62  : wps rm K Q c_M_lay_62 kc ks loc (st) h = wps rm K Q c_M_lay_65 kc ks loc (.long (-1000000000000000005) :: st) h := gk_lc (by decide)
theorem s_M_lay_65  {a1 : Value} {x : Nat} : wps rm K Q c_M_lay_65 kc ks loc (a1 :: .ref (x + 1) :: st) h = (eg_cls h x 12 ∧ st.length ≤ 4 ∧ eg_Cs n_M_finding (.ref (x + 1) :: [a1]) h (fun v h9 => wps rm K Q c_M_lay_68 kc ks loc (v.toList ++ st) h9)) := eg_c1_1
theorem s_M_lay_68 {x : Int64} : wps rm K Q c_M_lay_68 kc ks loc ([.long x]) h = (kc = rm.cells ∧ Q (some (.long x)) h) := gk_lret
theorem s_M_lay_69  : wps rm K Q c_M_lay_69 kc ks loc (st) h = wps rm K Q c_M_lay_70 kc ks loc (.int (0) :: st) h := gk_ic (by decide)
theorem s_M_lay_70 {x : Int32} : wps rm K Q c_M_lay_70 kc ks loc (.int x :: st) h = wps rm K Q c_M_lay_72 kc ks (eg_set1 loc 4 (.int x)) (st) h := gk_istore
theorem s_M_lay_72  : wps rm K Q c_M_lay_72 kc ks loc (st) h = wps rm K Q c_M_lay_73 kc ks loc (.int (0) :: st) h := gk_ic (by decide)
theorem s_M_lay_73 {x : Int32} : wps rm K Q c_M_lay_73 kc ks loc (.int x :: st) h = wps rm K Q z_M_lay_75 kc ks (eg_set1 loc 5 (.int x)) (st) h := gk_istore
theorem s_M_lay_75 {x : Int32} {l0 l1 l2 l3 l4 : Option Value} {l : eg_Lo} : wps rm K Q c_M_lay_75 kc ks (l0 :: l1 :: l2 :: l3 :: l4 :: some (.int x) :: l) (st) h = wps rm K Q c_M_lay_77 kc ks (l0 :: l1 :: l2 :: l3 :: l4 :: some (.int x) :: l) (.int x :: st) h := gk_iload rfl
theorem s_M_lay_77 {x : Int32} {l0 l1 l2 : Option Value} {l : eg_Lo} : wps rm K Q c_M_lay_77 kc ks (l0 :: l1 :: l2 :: some (.int x) :: l) (st) h = wps rm K Q c_M_lay_78 kc ks (l0 :: l1 :: l2 :: some (.int x) :: l) (.int x :: st) h := gk_iload rfl
theorem s_M_lay_78 {x y : Int32} : wps rm K Q c_M_lay_78 kc ks loc (.int y :: .int x :: st) h = ((y ≤ x → K 179 kc ks loc st h) ∧ (¬ y ≤ x → wps rm K Q c_M_lay_81 kc ks loc (st) h)) := gk_if2_ge
theorem s_M_lay_81 {x : Nat} {l : eg_Lo} : wps rm K Q c_M_lay_81 kc ks (some (.ref x) :: l) (st) h = wps rm K Q c_M_lay_82 kc ks (some (.ref x) :: l) (.ref x :: st) h := gk_aload rfl
theorem s_M_lay_82 {x : Int32} {l0 l1 : Option Value} {l : eg_Lo} : wps rm K Q c_M_lay_82 kc ks (l0 :: l1 :: some (.int x) :: l) (st) h = wps rm K Q c_M_lay_83 kc ks (l0 :: l1 :: some (.int x) :: l) (.int x :: st) h := gk_iload rfl
theorem s_M_lay_83  : wps rm K Q c_M_lay_83 kc ks loc (st) h = wps rm K Q c_M_lay_84 kc ks loc (.int (3) :: st) h := gk_ic (by decide)
theorem s_M_lay_84 {x : Int32} {l0 l1 l2 l3 l4 : Option Value} {l : eg_Lo} : wps rm K Q c_M_lay_84 kc ks (l0 :: l1 :: l2 :: l3 :: l4 :: some (.int x) :: l) (st) h = wps rm K Q c_M_lay_86 kc ks (l0 :: l1 :: l2 :: l3 :: l4 :: some (.int x) :: l) (.int x :: st) h := gk_iload rfl
theorem s_M_lay_86 {x y : Int32} : wps rm K Q c_M_lay_86 kc ks loc (.int y :: .int x :: st) h = wps rm K Q c_M_lay_87 kc ks loc (.int (x * y) :: st) h := gk_imul
theorem s_M_lay_87  {a1 : Value} {a2 : Value} {x : Nat} : wps rm K Q c_M_lay_87 kc ks loc (a2 :: a1 :: .ref (x + 1) :: st) h = (eg_cls h x 12 ∧ st.length ≤ 4 ∧ eg_Cs n_M_isGood (.ref (x + 1) :: [a1, a2]) h (fun v h9 => wps rm K Q c_M_lay_90 kc ks loc (v.toList ++ st) h9)) := eg_c1_2
theorem s_M_lay_90 {x : Int32} : wps rm K Q c_M_lay_90 kc ks loc (.int x :: st) h = ((x = 0 → K 164 kc ks loc st h) ∧ (¬ x = 0 → wps rm K Q c_M_lay_93 kc ks loc (st) h)) := gk_if1_eq
theorem s_M_lay_93 {x : Nat} {l : eg_Lo} : wps rm K Q c_M_lay_93 kc ks (some (.ref x) :: l) (st) h = wps rm K Q c_M_lay_94 kc ks (some (.ref x) :: l) (.ref x :: st) h := gk_aload rfl
theorem s_M_lay_94 {x : Int32} {l0 l1 : Option Value} {l : eg_Lo} : wps rm K Q c_M_lay_94 kc ks (l0 :: l1 :: some (.int x) :: l) (st) h = wps rm K Q c_M_lay_95 kc ks (l0 :: l1 :: some (.int x) :: l) (.int x :: st) h := gk_iload rfl
theorem s_M_lay_95  : wps rm K Q c_M_lay_95 kc ks loc (st) h = wps rm K Q c_M_lay_96 kc ks loc (.int (3) :: st) h := gk_ic (by decide)
theorem s_M_lay_96 {x : Int32} {l0 l1 l2 l3 l4 : Option Value} {l : eg_Lo} : wps rm K Q c_M_lay_96 kc ks (l0 :: l1 :: l2 :: l3 :: l4 :: some (.int x) :: l) (st) h = wps rm K Q c_M_lay_98 kc ks (l0 :: l1 :: l2 :: l3 :: l4 :: some (.int x) :: l) (.int x :: st) h := gk_iload rfl
theorem s_M_lay_98 {x y : Int32} : wps rm K Q c_M_lay_98 kc ks loc (.int y :: .int x :: st) h = wps rm K Q c_M_lay_99 kc ks loc (.int (x * y) :: st) h := gk_imul
theorem s_M_lay_99  : wps rm K Q c_M_lay_99 kc ks loc (st) h = wps rm K Q c_M_lay_100 kc ks loc (.int (1) :: st) h := gk_ic (by decide)
theorem s_M_lay_100 {x y : Int32} : wps rm K Q c_M_lay_100 kc ks loc (.int y :: .int x :: st) h = wps rm K Q c_M_lay_101 kc ks loc (.int (x + y) :: st) h := gk_iadd
theorem s_M_lay_101  {a1 : Value} {a2 : Value} {x : Nat} : wps rm K Q c_M_lay_101 kc ks loc (a2 :: a1 :: .ref (x + 1) :: st) h = (eg_cls h x 12 ∧ st.length ≤ 4 ∧ eg_Cs n_M_isGood (.ref (x + 1) :: [a1, a2]) h (fun v h9 => wps rm K Q c_M_lay_104 kc ks loc (v.toList ++ st) h9)) := eg_c1_2
theorem s_M_lay_104 {x : Int32} : wps rm K Q c_M_lay_104 kc ks loc (.int x :: st) h = ((x = 0 → K 164 kc ks loc st h) ∧ (¬ x = 0 → wps rm K Q c_M_lay_107 kc ks loc (st) h)) := gk_if1_eq
theorem s_M_lay_107 {x : Nat} {l : eg_Lo} : wps rm K Q c_M_lay_107 kc ks (some (.ref x) :: l) (st) h = wps rm K Q c_M_lay_108 kc ks (some (.ref x) :: l) (.ref x :: st) h := gk_aload rfl
theorem s_M_lay_108 {x : Int32} {l0 l1 : Option Value} {l : eg_Lo} : wps rm K Q c_M_lay_108 kc ks (l0 :: l1 :: some (.int x) :: l) (st) h = wps rm K Q c_M_lay_109 kc ks (l0 :: l1 :: some (.int x) :: l) (.int x :: st) h := gk_iload rfl
theorem s_M_lay_109  : wps rm K Q c_M_lay_109 kc ks loc (st) h = wps rm K Q c_M_lay_110 kc ks loc (.int (3) :: st) h := gk_ic (by decide)
theorem s_M_lay_110 {x : Int32} {l0 l1 l2 l3 l4 : Option Value} {l : eg_Lo} : wps rm K Q c_M_lay_110 kc ks (l0 :: l1 :: l2 :: l3 :: l4 :: some (.int x) :: l) (st) h = wps rm K Q c_M_lay_112 kc ks (l0 :: l1 :: l2 :: l3 :: l4 :: some (.int x) :: l) (.int x :: st) h := gk_iload rfl
theorem s_M_lay_112 {x y : Int32} : wps rm K Q c_M_lay_112 kc ks loc (.int y :: .int x :: st) h = wps rm K Q c_M_lay_113 kc ks loc (.int (x * y) :: st) h := gk_imul
theorem s_M_lay_113  : wps rm K Q c_M_lay_113 kc ks loc (st) h = wps rm K Q c_M_lay_114 kc ks loc (.int (2) :: st) h := gk_ic (by decide)
theorem s_M_lay_114 {x y : Int32} : wps rm K Q c_M_lay_114 kc ks loc (.int y :: .int x :: st) h = wps rm K Q c_M_lay_115 kc ks loc (.int (x + y) :: st) h := gk_iadd
theorem s_M_lay_115  {a1 : Value} {a2 : Value} {x : Nat} : wps rm K Q c_M_lay_115 kc ks loc (a2 :: a1 :: .ref (x + 1) :: st) h = (eg_cls h x 12 ∧ st.length ≤ 4 ∧ eg_Cs n_M_isGood (.ref (x + 1) :: [a1, a2]) h (fun v h9 => wps rm K Q c_M_lay_118 kc ks loc (v.toList ++ st) h9)) := eg_c1_2
theorem s_M_lay_118 {x : Int32} : wps rm K Q c_M_lay_118 kc ks loc (.int x :: st) h = ((x = 0 → K 164 kc ks loc st h) ∧ (¬ x = 0 → wps rm K Q c_M_lay_121 kc ks loc (st) h)) := gk_if1_eq
theorem s_M_lay_121 {x : Nat} {l : eg_Lo} : wps rm K Q c_M_lay_121 kc ks (some (.ref x) :: l) (st) h = wps rm K Q c_M_lay_122 kc ks (some (.ref x) :: l) (.ref x :: st) h := gk_aload rfl
theorem s_M_lay_122 {x : Int32} {l0 : Option Value} {l : eg_Lo} : wps rm K Q c_M_lay_122 kc ks (l0 :: some (.int x) :: l) (st) h = wps rm K Q c_M_lay_123 kc ks (l0 :: some (.int x) :: l) (.int x :: st) h := gk_iload rfl
theorem s_M_lay_123 {x : Nat} {l : eg_Lo} : wps rm K Q c_M_lay_123 kc ks (some (.ref x) :: l) (st) h = wps rm K Q c_M_lay_124 kc ks (some (.ref x) :: l) (.ref x :: st) h := gk_aload rfl
theorem s_M_lay_124 {x : Int32} {l0 l1 : Option Value} {l : eg_Lo} : wps rm K Q c_M_lay_124 kc ks (l0 :: l1 :: some (.int x) :: l) (st) h = wps rm K Q c_M_lay_125 kc ks (l0 :: l1 :: some (.int x) :: l) (.int x :: st) h := gk_iload rfl
theorem s_M_lay_125  : wps rm K Q c_M_lay_125 kc ks loc (st) h = wps rm K Q c_M_lay_126 kc ks loc (.int (3) :: st) h := gk_ic (by decide)
theorem s_M_lay_126 {x : Int32} {l0 l1 l2 l3 l4 : Option Value} {l : eg_Lo} : wps rm K Q c_M_lay_126 kc ks (l0 :: l1 :: l2 :: l3 :: l4 :: some (.int x) :: l) (st) h = wps rm K Q c_M_lay_128 kc ks (l0 :: l1 :: l2 :: l3 :: l4 :: some (.int x) :: l) (.int x :: st) h := gk_iload rfl
theorem s_M_lay_128 {x y : Int32} : wps rm K Q c_M_lay_128 kc ks loc (.int y :: .int x :: st) h = wps rm K Q c_M_lay_129 kc ks loc (.int (x * y) :: st) h := gk_imul
theorem s_M_lay_129  {a1 : Value} {a2 : Value} {x : Nat} : wps rm K Q c_M_lay_129 kc ks loc (a2 :: a1 :: .ref (x + 1) :: st) h = (eg_cls h x 12 ∧ st.length ≤ 4 ∧ eg_Cs n_M_numberOf (.ref (x + 1) :: [a1, a2]) h (fun v h9 => wps rm K Q c_M_lay_132 kc ks loc (v.toList ++ st) h9)) := eg_c1_2
theorem s_M_lay_132 {x : Nat} {l : eg_Lo} : wps rm K Q c_M_lay_132 kc ks (some (.ref x) :: l) (st) h = wps rm K Q c_M_lay_133 kc ks (some (.ref x) :: l) (.ref x :: st) h := gk_aload rfl
theorem s_M_lay_133 {x : Int32} {l0 l1 : Option Value} {l : eg_Lo} : wps rm K Q c_M_lay_133 kc ks (l0 :: l1 :: some (.int x) :: l) (st) h = wps rm K Q c_M_lay_134 kc ks (l0 :: l1 :: some (.int x) :: l) (.int x :: st) h := gk_iload rfl
theorem s_M_lay_134  : wps rm K Q c_M_lay_134 kc ks loc (st) h = wps rm K Q c_M_lay_135 kc ks loc (.int (3) :: st) h := gk_ic (by decide)
theorem s_M_lay_135 {x : Int32} {l0 l1 l2 l3 l4 : Option Value} {l : eg_Lo} : wps rm K Q c_M_lay_135 kc ks (l0 :: l1 :: l2 :: l3 :: l4 :: some (.int x) :: l) (st) h = wps rm K Q c_M_lay_137 kc ks (l0 :: l1 :: l2 :: l3 :: l4 :: some (.int x) :: l) (.int x :: st) h := gk_iload rfl
theorem s_M_lay_137 {x y : Int32} : wps rm K Q c_M_lay_137 kc ks loc (.int y :: .int x :: st) h = wps rm K Q c_M_lay_138 kc ks loc (.int (x * y) :: st) h := gk_imul
theorem s_M_lay_138  : wps rm K Q c_M_lay_138 kc ks loc (st) h = wps rm K Q c_M_lay_139 kc ks loc (.int (1) :: st) h := gk_ic (by decide)
theorem s_M_lay_139 {x y : Int32} : wps rm K Q c_M_lay_139 kc ks loc (.int y :: .int x :: st) h = wps rm K Q c_M_lay_140 kc ks loc (.int (x + y) :: st) h := gk_iadd
theorem s_M_lay_140  {a1 : Value} {a2 : Value} {x : Nat} : wps rm K Q c_M_lay_140 kc ks loc (a2 :: a1 :: .ref (x + 1) :: st) h = (eg_cls h x 12 ∧ st.length ≤ 4 ∧ eg_Cs n_M_numberOf (.ref (x + 1) :: [a1, a2]) h (fun v h9 => wps rm K Q c_M_lay_143 kc ks loc (v.toList ++ st) h9)) := eg_c1_2
theorem s_M_lay_143 {x : Nat} {l : eg_Lo} : wps rm K Q c_M_lay_143 kc ks (some (.ref x) :: l) (st) h = wps rm K Q c_M_lay_144 kc ks (some (.ref x) :: l) (.ref x :: st) h := gk_aload rfl
theorem s_M_lay_144 {x : Int32} {l0 l1 : Option Value} {l : eg_Lo} : wps rm K Q c_M_lay_144 kc ks (l0 :: l1 :: some (.int x) :: l) (st) h = wps rm K Q c_M_lay_145 kc ks (l0 :: l1 :: some (.int x) :: l) (.int x :: st) h := gk_iload rfl
theorem s_M_lay_145  : wps rm K Q c_M_lay_145 kc ks loc (st) h = wps rm K Q c_M_lay_146 kc ks loc (.int (3) :: st) h := gk_ic (by decide)
theorem s_M_lay_146 {x : Int32} {l0 l1 l2 l3 l4 : Option Value} {l : eg_Lo} : wps rm K Q c_M_lay_146 kc ks (l0 :: l1 :: l2 :: l3 :: l4 :: some (.int x) :: l) (st) h = wps rm K Q c_M_lay_148 kc ks (l0 :: l1 :: l2 :: l3 :: l4 :: some (.int x) :: l) (.int x :: st) h := gk_iload rfl
theorem s_M_lay_148 {x y : Int32} : wps rm K Q c_M_lay_148 kc ks loc (.int y :: .int x :: st) h = wps rm K Q c_M_lay_149 kc ks loc (.int (x * y) :: st) h := gk_imul
theorem s_M_lay_149  : wps rm K Q c_M_lay_149 kc ks loc (st) h = wps rm K Q c_M_lay_150 kc ks loc (.int (2) :: st) h := gk_ic (by decide)
theorem s_M_lay_150 {x y : Int32} : wps rm K Q c_M_lay_150 kc ks loc (.int y :: .int x :: st) h = wps rm K Q c_M_lay_151 kc ks loc (.int (x + y) :: st) h := gk_iadd
theorem s_M_lay_151  {a1 : Value} {a2 : Value} {x : Nat} : wps rm K Q c_M_lay_151 kc ks loc (a2 :: a1 :: .ref (x + 1) :: st) h = (eg_cls h x 12 ∧ st.length ≤ 4 ∧ eg_Cs n_M_numberOf (.ref (x + 1) :: [a1, a2]) h (fun v h9 => wps rm K Q c_M_lay_154 kc ks loc (v.toList ++ st) h9)) := eg_c1_2
theorem s_M_lay_154  : wps rm K Q c_M_lay_154 kc ks loc (st) h = wps rm K Q c_M_lay_155 kc ks loc (.int (0) :: st) h := gk_ic (by decide)
theorem s_M_lay_155  {a1 : Value} {a2 : Value} {a3 : Value} {a4 : Value} {a5 : Value} {x : Nat} : wps rm K Q c_M_lay_155 kc ks loc (a5 :: a4 :: a3 :: a2 :: a1 :: .ref (x + 1) :: st) h = (eg_cls h x 12 ∧ st.length ≤ 4 ∧ eg_Cs n_M_add (.ref (x + 1) :: [a1, a2, a3, a4, a5]) h (fun v h9 => wps rm K Q c_M_lay_158 kc ks loc (v.toList ++ st) h9)) := eg_c1_5
theorem s_M_lay_158 {x : Int32} {l0 l1 l2 l3 : Option Value} {lz : eg_Lo} : wps rm K Q c_M_lay_158 kc ks (l0 :: l1 :: l2 :: l3 :: some (.int x) :: lz) (st) h = wps rm K Q c_M_lay_161 kc ks (eg_set1 (l0 :: l1 :: l2 :: l3 :: some (.int x) :: lz) 4 (.int (x + (1)))) (st) h := gk_iinc rfl (by decide)
theorem s_M_lay_161  : wps rm K Q c_M_lay_161 kc ks loc (st) h = K 173 kc ks loc st h := gk_goto
theorem s_M_lay_164 {x : Nat} {l : eg_Lo} : wps rm K Q c_M_lay_164 kc ks (some (.ref x) :: l) (st) h = wps rm K Q c_M_lay_165 kc ks (some (.ref x) :: l) (.ref x :: st) h := gk_aload rfl
theorem s_M_lay_165 {x : Int32} {l0 : Option Value} {l : eg_Lo} : wps rm K Q c_M_lay_165 kc ks (l0 :: some (.int x) :: l) (st) h = wps rm K Q c_M_lay_166 kc ks (l0 :: some (.int x) :: l) (.int x :: st) h := gk_iload rfl
theorem s_M_lay_166  : wps rm K Q c_M_lay_166 kc ks loc (st) h = wps rm K Q c_M_lay_167 kc ks loc (.int (0) :: st) h := gk_ic (by decide)
theorem s_M_lay_167  : wps rm K Q c_M_lay_167 kc ks loc (st) h = wps rm K Q c_M_lay_168 kc ks loc (.int (0) :: st) h := gk_ic (by decide)
theorem s_M_lay_168  : wps rm K Q c_M_lay_168 kc ks loc (st) h = wps rm K Q c_M_lay_169 kc ks loc (.int (0) :: st) h := gk_ic (by decide)
theorem s_M_lay_169  : wps rm K Q c_M_lay_169 kc ks loc (st) h = wps rm K Q c_M_lay_170 kc ks loc (.int (1) :: st) h := gk_ic (by decide)
theorem s_M_lay_170  {a1 : Value} {a2 : Value} {a3 : Value} {a4 : Value} {a5 : Value} {x : Nat} : wps rm K Q c_M_lay_170 kc ks loc (a5 :: a4 :: a3 :: a2 :: a1 :: .ref (x + 1) :: st) h = (eg_cls h x 12 ∧ st.length ≤ 4 ∧ eg_Cs n_M_add (.ref (x + 1) :: [a1, a2, a3, a4, a5]) h (fun v h9 => wps rm K Q c_M_lay_173 kc ks loc (v.toList ++ st) h9)) := eg_c1_5
theorem s_M_lay_173 {x : Int32} {l0 l1 l2 l3 l4 : Option Value} {lz : eg_Lo} : wps rm K Q c_M_lay_173 kc ks (l0 :: l1 :: l2 :: l3 :: l4 :: some (.int x) :: lz) (st) h = wps rm K Q c_M_lay_176 kc ks (eg_set1 (l0 :: l1 :: l2 :: l3 :: l4 :: some (.int x) :: lz) 5 (.int (x + (1)))) (st) h := gk_iinc rfl (by decide)
theorem s_M_lay_176  : wps rm K Q c_M_lay_176 kc ks loc (st) h = K 75 kc ks loc st h := gk_goto
theorem s_M_lay_179 {x : Int32} {l0 l1 l2 l3 : Option Value} {l : eg_Lo} : wps rm K Q c_M_lay_179 kc ks (l0 :: l1 :: l2 :: l3 :: some (.int x) :: l) (st) h = wps rm K Q c_M_lay_181 kc ks (l0 :: l1 :: l2 :: l3 :: some (.int x) :: l) (.int x :: st) h := gk_iload rfl
theorem s_M_lay_181 {x : Int32} : wps rm K Q c_M_lay_181 kc ks loc (.int x :: st) h = wps rm K Q c_M_lay_182 kc ks loc (.long (x.toInt64) :: st) h := gk_i2l
theorem s_M_lay_182 {x : Int64} : wps rm K Q c_M_lay_182 kc ks loc ([.long x]) h = (kc = rm.cells ∧ Q (some (.long x)) h) := gk_lret
theorem sz_M_lay_75 : wps rm K Q z_M_lay_75 kc ks loc st h = K 75 kc ks loc st h := gk_nop
def T_M_lay : List (Nat × List eg_I) := [(14, c_M_lay_14), (22, c_M_lay_22), (39, c_M_lay_39), (69, c_M_lay_69), (164, c_M_lay_164), (173, c_M_lay_173), (179, c_M_lay_179)]
theorem j_M_lay_14 {R : Nat → Nat → Nat → eg_Lo → List Value → List eg_E → Prop} {f pc0 : Nat} : eg_run rm R Q T_M_lay (f + 1) 14 kc ks loc st h = wps rm (eg_run rm R Q T_M_lay f) Q c_M_lay_14 kc ks loc st h := rfl
theorem j_M_lay_22 {R : Nat → Nat → Nat → eg_Lo → List Value → List eg_E → Prop} {f pc0 : Nat} : eg_run rm R Q T_M_lay (f + 1) 22 kc ks loc st h = wps rm (eg_run rm R Q T_M_lay f) Q c_M_lay_22 kc ks loc st h := rfl
theorem j_M_lay_39 {R : Nat → Nat → Nat → eg_Lo → List Value → List eg_E → Prop} {f pc0 : Nat} : eg_run rm R Q T_M_lay (f + 1) 39 kc ks loc st h = wps rm (eg_run rm R Q T_M_lay f) Q c_M_lay_39 kc ks loc st h := rfl
theorem j_M_lay_69 {R : Nat → Nat → Nat → eg_Lo → List Value → List eg_E → Prop} {f pc0 : Nat} : eg_run rm R Q T_M_lay (f + 1) 69 kc ks loc st h = wps rm (eg_run rm R Q T_M_lay f) Q c_M_lay_69 kc ks loc st h := rfl
theorem j_M_lay_164 {R : Nat → Nat → Nat → eg_Lo → List Value → List eg_E → Prop} {f pc0 : Nat} : eg_run rm R Q T_M_lay (f + 1) 164 kc ks loc st h = wps rm (eg_run rm R Q T_M_lay f) Q c_M_lay_164 kc ks loc st h := rfl
theorem j_M_lay_173 {R : Nat → Nat → Nat → eg_Lo → List Value → List eg_E → Prop} {f pc0 : Nat} : eg_run rm R Q T_M_lay (f + 1) 173 kc ks loc st h = wps rm (eg_run rm R Q T_M_lay f) Q c_M_lay_173 kc ks loc st h := rfl
theorem j_M_lay_179 {R : Nat → Nat → Nat → eg_Lo → List Value → List eg_E → Prop} {f pc0 : Nat} : eg_run rm R Q T_M_lay (f + 1) 179 kc ks loc st h = wps rm (eg_run rm R Q T_M_lay f) Q c_M_lay_179 kc ks loc st h := rfl
theorem j_M_lay_75 {R : Nat → Nat → Nat → eg_Lo → List Value → List eg_E → Prop} {f pc0 : Nat} : eg_run rm R Q T_M_lay (f + 1) 75 kc ks loc st h = R 75 kc ks loc st h := rfl
end
theorem y_M_lay_0 : eg_seq m_M_lay 0 c_M_lay_0 = true := by decide +kernel
theorem y_M_lay_22 : eg_seq m_M_lay 22 c_M_lay_22 = true := by decide +kernel
theorem y_M_lay_39 : eg_seq m_M_lay 39 c_M_lay_39 = true := by decide +kernel
theorem y_M_lay_69 : eg_seq m_M_lay 69 c_M_lay_69 = true := by decide +kernel
theorem y_M_lay_75 : eg_seq m_M_lay 75 c_M_lay_75 = true := by decide +kernel
theorem y_M_lay_164 : eg_seq m_M_lay 164 c_M_lay_164 = true := by decide +kernel
theorem y_M_lay_179 : eg_seq m_M_lay 179 c_M_lay_179 = true := by decide +kernel
theorem q_M_lay : ∀ q ∈ T_M_lay, eg_seq m_M_lay q.1 q.2 = true := by
  intro q hq
  simp only [T_M_lay, List.mem_cons, List.not_mem_nil, or_false] at hq
  rcases hq with rfl | rfl | rfl | rfl | rfl | rfl | rfl
  · exact (eg_seq_drop y_M_lay_0 6 : eg_seq m_M_lay 14 c_M_lay_14 = true)
  · exact y_M_lay_22
  · exact y_M_lay_39
  · exact y_M_lay_69
  · exact y_M_lay_164
  · exact (eg_seq_drop y_M_lay_164 7 : eg_seq m_M_lay 173 c_M_lay_173 = true)
  · exact y_M_lay_179
theorem b_M_lay {as : List Value} {h : List eg_E} {Q : Option Value → List eg_E → Prop} (hf : (eg_fl as).length ≤ 6) (hw : wps (eg_rm m_M_lay) (eg_run (eg_rm m_M_lay) (eg_R m_M_lay Q (h.length + 0)) Q T_M_lay 9) Q c_M_lay_0 0 0 (eg_entry 6 as) [] h) : eg_Runs n_M_lay as h Q := eg_begin2 (d := m_M_lay) rfl (by decide) y_M_lay_0 q_M_lay hf hw
theorem p_M_lay_75 {Q : Option Value → List eg_E → Prop} {n0 kc ks : Nat} {loc : eg_Lo} {st : List Value} {h : List eg_E} (hw : wps (eg_rm m_M_lay) (eg_run (eg_rm m_M_lay) (eg_R m_M_lay Q n0) Q T_M_lay 9) Q c_M_lay_75 kc ks loc st h) : eg_R m_M_lay Q n0 75 kc ks loc st h := eg_go2 y_M_lay_75 q_M_lay hw
