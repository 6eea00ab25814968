/-! ===== Math_floorDiv ===== -/
def c_Math_floorDiv_22 : List eg_I := .inl (22, 1, .ireturn, 0, 0) :: []
def c_Math_floorDiv_21 : List eg_I := .inl (21, 1, .iload 2, 0, 0) :: c_Math_floorDiv_22
def c_Math_floorDiv_20 : List eg_I := .inl (20, 1, .ireturn, 0, 0) :: []
def c_Math_floorDiv_19 : List eg_I := .inl (19, 1, .isub, 0, 0) :: c_Math_floorDiv_20
def c_Math_floorDiv_18 : List eg_I := .inl (18, 1, .iconst (1), 0, 0) :: c_Math_floorDiv_19
def c_Math_floorDiv_17 : List eg_I := .inl (17, 1, .iload 2, 0, 0) :: c_Math_floorDiv_18
def c_Math_floorDiv_14 : List eg_I := .inl (14, 3, .if_icmp .eq (7), 21, 0) :: c_Math_floorDiv_17
def c_Math_floorDiv_13 : List eg_I := .inl (13, 1, .iload 0, 0, 0) :: c_Math_floorDiv_14
def c_Math_floorDiv_12 : List eg_I := .inl (12, 1, .imul, 0, 0) :: c_Math_floorDiv_13
def c_Math_floorDiv_11 : List eg_I := .inl (11, 1, .iload 1, 0, 0) :: c_Math_floorDiv_12
def c_Math_floorDiv_10 : List eg_I := .inl (10, 1, .iload 2, 0, 0) :: c_Math_floorDiv_11
def c_Math_floorDiv_7 : List eg_I := .inl (7, 3, .ifCond .ge (14), 21, 0) :: c_Math_floorDiv_10
def c_Math_floorDiv_6 : List eg_I := .inl (6, 1, .ixor, 0, 0) :: c_Math_floorDiv_7
def c_Math_floorDiv_5 : List eg_I := .inl (5, 1, .iload 1, 0, 0) :: c_Math_floorDiv_6
def c_Math_floorDiv_4 : List eg_I := .inl (4, 1, .iload 0, 0, 0) :: c_Math_floorDiv_5
def c_Math_floorDiv_3 : List eg_I := .inl (3, 1, .istore 2, 0, 0) :: c_Math_floorDiv_4
def c_Math_floorDiv_2 : List eg_I := .inl (2, 1, .idiv, 0, 0) :: c_Math_floorDiv_3
def c_Math_floorDiv_1 : List eg_I := .inl (1, 1, .iload 1, 0, 0) :: c_Math_floorDiv_2
def c_Math_floorDiv_0 : List eg_I := .inl (0, 1, .iload 0, 0, 0) :: c_Math_floorDiv_1
section
variable {rm : Room} {K : Nat → Nat → Nat → eg_Lo → List Value → List eg_E → Prop} {Q : Option Value → List eg_E → Prop} {kc ks : Nat} {loc : eg_Lo} {st : List Value} {h : List eg_E}
theorem s_Math_floorDiv_0 {x : Int32} {l : eg_Lo} : wps rm K Q c_Math_floorDiv_0 kc ks (some (.int x) :: l) (st) h = wps rm K Q c_Math_floorDiv_1 kc ks (some (.int x) :: l) (.int x :: st) h := gk_iload rfl
theorem s_Math_floorDiv_1 {x : Int32} {l0 : Option Value} {l : eg_Lo} : wps rm K Q c_Math_floorDiv_1 kc ks (l0 :: some (.int x) :: l) (st) h = wps rm K Q c_Math_floorDiv_2 kc ks (l0 :: some (.int x) :: l) (.int x :: st) h := gk_iload rfl
theorem s_Math_floorDiv_2 {x y : Int32} : wps rm K Q c_Math_floorDiv_2 kc ks loc (.int y :: .int x :: st) h = (¬ y = 0 ∧ wps rm K Q c_Math_floorDiv_3 kc ks loc (.int (x / y) :: st) h) := gk_idiv
theorem s_Math_floorDiv_3 {x : Int32} : wps rm K Q c_Math_floorDiv_3 kc ks loc (.int x :: st) h = wps rm K Q c_Math_floorDiv_4 kc ks (eg_set1 loc 2 (.int x)) (st) h := gk_istore
theorem s_Math_floorDiv_4 {x : Int32} {l : eg_Lo} : wps rm K Q c_Math_floorDiv_4 kc ks (some (.int x) :: l) (st) h = wps rm K Q c_Math_floorDiv_5 kc ks (some (.int x) :: l) (.int x :: st) h := gk_iload rfl
theorem s_Math_floorDiv_5 {x : Int32} {l0 : Option Value} {l : eg_Lo} : wps rm K Q c_Math_floorDiv_5 kc ks (l0 :: some (.int x) :: l) (st) h = wps rm K Q c_Math_floorDiv_6 kc ks (l0 :: some (.int x) :: l) (.int x :: st) h := gk_iload rfl
theorem s_Math_floorDiv_6 {x y : Int32} : wps rm K Q c_Math_floorDiv_6 kc ks loc (.int y :: .int x :: st) h = wps rm K Q c_Math_floorDiv_7 kc ks loc (.int (x ^^^ y) :: st) h := gk_ixor
theorem s_Math_floorDiv_7 {x : Int32} : wps rm K Q c_Math_floorDiv_7 kc ks loc (.int x :: st) h = ((0 ≤ x → K 21 kc ks loc st h) ∧ (¬ 0 ≤ x → wps rm K Q c_Math_floorDiv_10 kc ks loc (st) h)) := gk_if1_ge
theorem s_Math_floorDiv_10 {x : Int32} {l0 l1 : Option Value} {l : eg_Lo} : wps rm K Q c_Math_floorDiv_10 kc ks (l0 :: l1 :: some (.int x) :: l) (st) h = wps rm K Q c_Math_floorDiv_11 kc ks (l0 :: l1 :: some (.int x) :: l) (.int x :: st) h := gk_iload rfl
theorem s_Math_floorDiv_11 {x : Int32} {l0 : Option Value} {l : eg_Lo} : wps rm K Q c_Math_floorDiv_11 kc ks (l0 :: some (.int x) :: l) (st) h = wps rm K Q c_Math_floorDiv_12 kc ks (l0 :: some (.int x) :: l) (.int x :: st) h := gk_iload rfl
theorem s_Math_floorDiv_12 {x y : Int32} : wps rm K Q c_Math_floorDiv_12 kc ks loc (.int y :: .int x :: st) h = wps rm K Q c_Math_floorDiv_13 kc ks loc (.int (x * y) :: st) h := gk_imul
theorem s_Math_floorDiv_13 {x : Int32} {l : eg_Lo} : wps rm K Q c_Math_floorDiv_13 kc ks (some (.int x) :: l) (st) h = wps rm K Q c_Math_floorDiv_14 kc ks (some (.int x) :: l) (.int x :: st) h := gk_iload rfl
theorem s_Math_floorDiv_14 {x y : Int32} : wps rm K Q c_Math_floorDiv_14 kc ks loc (.int y :: .int x :: st) h = ((x = y → K 21 kc ks loc st h) ∧ (¬ x = y → wps rm K Q c_Math_floorDiv_17 kc ks loc (st) h)) := gk_if2_eq
theorem s_Math_floorDiv_17 {x : Int32} {l0 l1 : Option Value} {l : eg_Lo} : wps rm K Q c_Math_floorDiv_17 kc ks (l0 :: l1 :: some (.int x) :: l) (st) h = wps rm K Q c_Math_floorDiv_18 kc ks (l0 :: l1 :: some (.int x) :: l) (.int x :: st) h := gk_iload rfl
theorem s_Math_floorDiv_18  : wps rm K Q c_Math_floorDiv_18 kc ks loc (st) h = wps rm K Q c_Math_floorDiv_19 kc ks loc (.int (1) :: st) h := gk_ic (by decide)
theorem s_Math_floorDiv_19 {x y : Int32} : wps rm K Q c_Math_floorDiv_19 kc ks loc (.int y :: .int x :: st) h = wps rm K Q c_Math_floorDiv_20 kc ks loc (.int (x - y) :: st) h := gk_isub
theorem s_Math_floorDiv_20 {x : Int32} : wps rm K Q c_Math_floorDiv_20 kc ks loc ([.int x]) h = (kc = rm.cells ∧ (0 = 1 → x = 0 ∨ x = 1) ∧ Q (some (.int x)) h) := gk_iret
theorem s_Math_floorDiv_21 {x : Int32} {l0 l1 : Option Value} {l : eg_Lo} : wps rm K Q c_Math_floorDiv_21 kc ks (l0 :: l1 :: some (.int x) :: l) (st) h = wps rm K Q c_Math_floorDiv_22 kc ks (l0 :: l1 :: some (.int x) :: l) (.int x :: st) h := gk_iload rfl
theorem s_Math_floorDiv_22 {x : Int32} : wps rm K Q c_Math_floorDiv_22 kc ks loc ([.int x]) h = (kc = rm.cells ∧ (0 = 1 → x = 0 ∨ x = 1) ∧ Q (some (.int x)) h) := gk_iret
def T_Math_floorDiv : List (Nat × List eg_I) := [(21, c_Math_floorDiv_21)]
theorem j_Math_floorDiv_21 {R : Nat → Nat → Nat → eg_Lo → List Value → List eg_E → Prop} {f pc0 : Nat} : eg_run rm R Q T_Math_floorDiv (f + 1) 21 kc ks loc st h = wps rm (eg_run rm R Q T_Math_floorDiv f) Q c_Math_floorDiv_21 kc ks loc st h := rfl
end
theorem y_Math_floorDiv_0 : eg_seq m_Math_floorDiv 0 c_Math_floorDiv_0 = true := by decide +kernel
theorem y_Math_floorDiv_21 : eg_seq m_Math_floorDiv 21 c_Math_floorDiv_21 = true := by decide +kernel
theorem q_Math_floorDiv : ∀ q ∈ T_Math_floorDiv, eg_seq m_Math_floorDiv q.1 q.2 = true := by
  intro q hq
  simp only [T_Math_floorDiv, List.mem_cons, List.not_mem_nil, or_false] at hq
  rcases hq with rfl
  · exact y_Math_floorDiv_21
theorem md_Math_floorDiv : eg_md n_Math_floorDiv = m_Math_floorDiv := rfl
theorem mn_Math_floorDiv : n_Math_floorDiv < 202 := Nat.le_of_ble_eq_true rfl
theorem b_Math_floorDiv {as : List Value} {h : List eg_E} {Q : Option Value → List eg_E → Prop} (hf : (eg_fl as).length ≤ 3) : wps (eg_rm m_Math_floorDiv) (eg_run (eg_rm m_Math_floorDiv) (eg_R m_Math_floorDiv Q (h.length + 0)) Q T_Math_floorDiv 3) Q c_Math_floorDiv_0 0 0 (eg_entry 3 as) [] h → eg_Runs n_Math_floorDiv as h Q := eg_begin2 md_Math_floorDiv mn_Math_floorDiv y_Math_floorDiv_0 q_Math_floorDiv hf
/-! ===== Math_abs_I ===== -/
def c_Math_abs_I_10 : List eg_I := .inl (10, 1, .ireturn, 0, 0) :: []
def c_Math_abs_I_9 : List eg_I := .inl (9, 1, .iload 0, 0, 0) :: c_Math_abs_I_10
def c_Math_abs_I_6 : List eg_I := .inl (6, 3, .goto (4), 10, 0) :: []
def c_Math_abs_I_5 : List eg_I := .inl (5, 1, .ineg, 0, 0) :: c_Math_abs_I_6
def c_Math_abs_I_4 : List eg_I := .inl (4, 1, .iload 0, 0, 0) :: c_Math_abs_I_5
def c_Math_abs_I_1 : List eg_I := .inl (1, 3, .ifCond .ge (8), 9, 0) :: c_Math_abs_I_4
def c_Math_abs_I_0 : List eg_I := .inl (0, 1, .iload 0, 0, 0) :: c_Math_abs_I_1
section
variable {rm : Room} {K : Nat → Nat → Nat → eg_Lo → List Value → List eg_E → Prop} {Q : Option Value → List eg_E → Prop} {kc ks : Nat} {loc : eg_Lo} {st : List Value} {h : List eg_E}
theorem s_Math_abs_I_0 {x : Int32} {l : eg_Lo} : wps rm K Q c_Math_abs_I_0 kc ks (some (.int x) :: l) (st) h = wps rm K Q c_Math_abs_I_1 kc ks (some (.int x) :: l) (.int x :: st) h := gk_iload rfl
theorem s_Math_abs_I_1 {x : Int32} : wps rm K Q c_Math_abs_I_1 kc ks loc (.int x :: st) h = ((0 ≤ x → K 9 kc ks loc st h) ∧ (¬ 0 ≤ x → wps rm K Q c_Math_abs_I_4 kc ks loc (st) h)) := gk_if1_ge
theorem s_Math_abs_I_4 {x : Int32} {l : eg_Lo} : wps rm K Q c_Math_abs_I_4 kc ks (some (.int x) :: l) (st) h = wps rm K Q c_Math_abs_I_5 kc ks (some (.int x) :: l) (.int x :: st) h := gk_iload rfl
theorem s_Math_abs_I_5 {x : Int32} : wps rm K Q c_Math_abs_I_5 kc ks loc (.int x :: st) h = wps rm K Q c_Math_abs_I_6 kc ks loc (.int (-x) :: st) h := gk_ineg
theorem s_Math_abs_I_6  : wps rm K Q c_Math_abs_I_6 kc ks loc (st) h = K 10 kc ks loc st h := gk_goto
theorem s_Math_abs_I_9 {x : Int32} {l : eg_Lo} : wps rm K Q c_Math_abs_I_9 kc ks (some (.int x) :: l) (st) h = wps rm K Q c_Math_abs_I_10 kc ks (some (.int x) :: l) (.int x :: st) h := gk_iload rfl
theorem s_Math_abs_I_10 {x : Int32} : wps rm K Q c_Math_abs_I_10 kc ks loc ([.int x]) h = (kc = rm.cells ∧ (0 = 1 → x = 0 ∨ x = 1) ∧ Q (some (.int x)) h) := gk_iret
def T_Math_abs_I : List (Nat × List eg_I) := [(9, c_Math_abs_I_9), (10, c_Math_abs_I_10)]
theorem j_Math_abs_I_9 {R : Nat → Nat → Nat → eg_Lo → List Value → List eg_E → Prop} {f pc0 : Nat} : eg_run rm R Q T_Math_abs_I (f + 1) 9 kc ks loc st h = wps rm (eg_run rm R Q T_Math_abs_I f) Q c_Math_abs_I_9 kc ks loc st h := rfl
theorem j_Math_abs_I_10 {R : Nat → Nat → Nat → eg_Lo → List Value → List eg_E → Prop} {f pc0 : Nat} : eg_run rm R Q T_Math_abs_I (f + 1) 10 kc ks loc st h = wps rm (eg_run rm R Q T_Math_abs_I f) Q c_Math_abs_I_10 kc ks loc st h := rfl
end
theorem y_Math_abs_I_0 : eg_seq m_Math_abs_I 0 c_Math_abs_I_0 = true := by decide +kernel
theorem y_Math_abs_I_9 : eg_seq m_Math_abs_I 9 c_Math_abs_I_9 = true := by decide +kernel
theorem q_Math_abs_I : ∀ q ∈ T_Math_abs_I, eg_seq m_Math_abs_I q.1 q.2 = true := by
  intro q hq
  simp only [T_Math_abs_I, List.mem_cons, List.not_mem_nil, or_false] at hq
  rcases hq with rfl | rfl
  · exact y_Math_abs_I_9
  · exact (eg_seq_drop y_Math_abs_I_9 1 : eg_seq m_Math_abs_I 10 c_Math_abs_I_10 = true)
theorem md_Math_abs_I : eg_md n_Math_abs_I = m_Math_abs_I := rfl
theorem mn_Math_abs_I : n_Math_abs_I < 202 := Nat.le_of_ble_eq_true rfl
theorem b_Math_abs_I {as : List Value} {h : List eg_E} {Q : Option Value → List eg_E → Prop} (hf : (eg_fl as).length ≤ 1) : wps (eg_rm m_Math_abs_I) (eg_run (eg_rm m_Math_abs_I) (eg_R m_Math_abs_I Q (h.length + 0)) Q T_Math_abs_I 4) Q c_Math_abs_I_0 0 0 (eg_entry 1 as) [] h → eg_Runs n_Math_abs_I as h Q := eg_begin2 md_Math_abs_I mn_Math_abs_I y_Math_abs_I_0 q_Math_abs_I hf
/-! ===== Math_abs_J ===== -/
def c_Math_abs_J_12 : List eg_I := .inl (12, 1, .lreturn, 0, 0) :: []
def c_Math_abs_J_11 : List eg_I := .inl (11, 1, .lload 0, 0, 0) :: c_Math_abs_J_12
def c_Math_abs_J_8 : List eg_I := .inl (8, 3, .goto (4), 12, 0) :: []
def c_Math_abs_J_7 : List eg_I := .inl (7, 1, .lneg, 0, 0) :: c_Math_abs_J_8
def c_Math_abs_J_6 : List eg_I := .inl (6, 1, .lload 0, 0, 0) :: c_Math_abs_J_7
def c_Math_abs_J_3 : List eg_I := .inl (3, 3, .ifCond .ge (8), 11, 0) :: c_Math_abs_J_6
def c_Math_abs_J_2 : List eg_I := .inl (2, 1, .lcmp, 0, 0) :: c_Math_abs_J_3
def c_Math_abs_J_1 : List eg_I := .inl (1, 1, .sipush (0), 0, 0) :: c_Math_abs_J_2
def c_Math_abs_J_0 : List eg_I := .inl (0, 1, .lload 0, 0, 0) :: c_Math_abs_J_1
section
variable {rm : Room} {K : Nat → Nat → Nat → eg_Lo → List Value → List eg_E → Prop} {Q : Option Value → List eg_E → Prop} {kc ks : Nat} {loc : eg_Lo} {st : List Value} {h : List eg_E}
theorem s_Math_abs_J_0 {x : Int64} {l : eg_Lo} : wps rm K Q c_Math_abs_J_0 kc ks (some (.long x) :: l) (st) h = wps rm K Q c_Math_abs_J_1 kc ks (some (.long x) :: l) (.long x :: st) h := gk_lload rfl
theorem s_Math_abs_J_1  : wps rm K Q c_Math_abs_J_1 kc ks loc (st) h = wps rm K Q c_Math_abs_J_2 kc ks loc (.long (0) :: st) h := gk_lc (by decide)
theorem s_Math_abs_J_2 {x y : Int64} : wps rm K Q c_Math_abs_J_2 kc ks loc (.long y :: .long x :: st) h = wps rm K Q c_Math_abs_J_3 kc ks loc (.int (lg_cmp x y) :: st) h := gk_lcmp
theorem s_Math_abs_J_3 {x : Int32} : wps rm K Q c_Math_abs_J_3 kc ks loc (.int x :: st) h = ((0 ≤ x → K 11 kc ks loc st h) ∧ (¬ 0 ≤ x → wps rm K Q c_Math_abs_J_6 kc ks loc (st) h)) := gk_if1_ge
theorem s_Math_abs_J_6 {x : Int64} {l : eg_Lo} : wps rm K Q c_Math_abs_J_6 kc ks (some (.long x) :: l) (st) h = wps rm K Q c_Math_abs_J_7 kc ks (some (.long x) :: l) (.long x :: st) h := gk_lload rfl
theorem s_Math_abs_J_7 {x : Int64} : wps rm K Q c_Math_abs_J_7 kc ks loc (.long x :: st) h = wps rm K Q c_Math_abs_J_8 kc ks loc (.long (-x) :: st) h := gk_lneg
theorem s_Math_abs_J_8  : wps rm K Q c_Math_abs_J_8 kc ks loc (st) h = K 12 kc ks loc st h := gk_goto
theorem s_Math_abs_J_11 {x : Int64} {l : eg_Lo} : wps rm K Q c_Math_abs_J_11 kc ks (some (.long x) :: l) (st) h = wps rm K Q c_Math_abs_J_12 kc ks (some (.long x) :: l) (.long x :: st) h := gk_lload rfl
theorem s_Math_abs_J_12 {x : Int64} : wps rm K Q c_Math_abs_J_12 kc ks loc ([.long x]) h = (kc = rm.cells ∧ Q (some (.long x)) h) := gk_lret
def T_Math_abs_J : List (Nat × List eg_I) := [(11, c_Math_abs_J_11), (12, c_Math_abs_J_12)]
theorem j_Math_abs_J_11 {R : Nat → Nat → Nat → eg_Lo → List Value → List eg_E → Prop} {f pc0 : Nat} : eg_run rm R Q T_Math_abs_J (f + 1) 11 kc ks loc st h = wps rm (eg_run rm R Q T_Math_abs_J f) Q c_Math_abs_J_11 kc ks loc st h := rfl
theorem j_Math_abs_J_12 {R : Nat → Nat → Nat → eg_Lo → List Value → List eg_E → Prop} {f pc0 : Nat} : eg_run rm R Q T_Math_abs_J (f + 1) 12 kc ks loc st h = wps rm (eg_run rm R Q T_Math_abs_J f) Q c_Math_abs_J_12 kc ks loc st h := rfl
end
theorem y_Math_abs_J_0 : eg_seq m_Math_abs_J 0 c_Math_abs_J_0 = true := by decide +kernel
theorem y_Math_abs_J_11 : eg_seq m_Math_abs_J 11 c_Math_abs_J_11 = true := by decide +kernel
theorem q_Math_abs_J : ∀ q ∈ T_Math_abs_J, eg_seq m_Math_abs_J q.1 q.2 = true := by
  intro q hq
  simp only [T_Math_abs_J, List.mem_cons, List.not_mem_nil, or_false] at hq
  rcases hq with rfl | rfl
  · exact y_Math_abs_J_11
  · exact (eg_seq_drop y_Math_abs_J_11 1 : eg_seq m_Math_abs_J 12 c_Math_abs_J_12 = true)
theorem md_Math_abs_J : eg_md n_Math_abs_J = m_Math_abs_J := rfl
theorem mn_Math_abs_J : n_Math_abs_J < 202 := Nat.le_of_ble_eq_true rfl
theorem b_Math_abs_J {as : List Value} {h : List eg_E} {Q : Option Value → List eg_E → Prop} (hf : (eg_fl as).length ≤ 2) : wps (eg_rm m_Math_abs_J) (eg_run (eg_rm m_Math_abs_J) (eg_R m_Math_abs_J Q (h.length + 0)) Q T_Math_abs_J 4) Q c_Math_abs_J_0 0 0 (eg_entry 2 as) [] h → eg_Runs n_Math_abs_J as h Q := eg_begin2 md_Math_abs_J mn_Math_abs_J y_Math_abs_J_0 q_Math_abs_J hf
/-! ===== Math_max ===== -/
def c_Math_max_10 : List eg_I := .inl (10, 1, .ireturn, 0, 0) :: []
def c_Math_max_9 : List eg_I := .inl (9, 1, .iload 1, 0, 0) :: c_Math_max_10
def c_Math_max_6 : List eg_I := .inl (6, 3, .goto (4), 10, 0) :: []
def c_Math_max_5 : List eg_I := .inl (5, 1, .iload 0, 0, 0) :: c_Math_max_6
def c_Math_max_2 : List eg_I := .inl (2, 3, .if_icmp .lt (7), 9, 0) :: c_Math_max_5
def c_Math_max_1 : List eg_I := .inl (1, 1, .iload 1, 0, 0) :: c_Math_max_2
def c_Math_max_0 : List eg_I := .inl (0, 1, .iload 0, 0, 0) :: c_Math_max_1
section
variable {rm : Room} {K : Nat → Nat → Nat → eg_Lo → List Value → List eg_E → Prop} {Q : Option Value → List eg_E → Prop} {kc ks : Nat} {loc : eg_Lo} {st : List Value} {h : List eg_E}
theorem s_Math_max_0 {x : Int32} {l : eg_Lo} : wps rm K Q c_Math_max_0 kc ks (some (.int x) :: l) (st) h = wps rm K Q c_Math_max_1 kc ks (some (.int x) :: l) (.int x :: st) h := gk_iload rfl
theorem s_Math_max_1 {x : Int32} {l0 : Option Value} {l : eg_Lo} : wps rm K Q c_Math_max_1 kc ks (l0 :: some (.int x) :: l) (st) h = wps rm K Q c_Math_max_2 kc ks (l0 :: some (.int x) :: l) (.int x :: st) h := gk_iload rfl
theorem s_Math_max_2 {x y : Int32} : wps rm K Q c_Math_max_2 kc ks loc (.int y :: .int x :: st) h = ((x < y → K 9 kc ks loc st h) ∧ (¬ x < y → wps rm K Q c_Math_max_5 kc ks loc (st) h)) := gk_if2_lt
theorem s_Math_max_5 {x : Int32} {l : eg_Lo} : wps rm K Q c_Math_max_5 kc ks (some (.int x) :: l) (st) h = wps rm K Q c_Math_max_6 kc ks (some (.int x) :: l) (.int x :: st) h := gk_iload rfl
theorem s_Math_max_6  : wps rm K Q c_Math_max_6 kc ks loc (st) h = K 10 kc ks loc st h := gk_goto
theorem s_Math_max_9 {x : Int32} {l0 : Option Value} {l : eg_Lo} : wps rm K Q c_Math_max_9 kc ks (l0 :: some (.int x) :: l) (st) h = wps rm K Q c_Math_max_10 kc ks (l0 :: some (.int x) :: l) (.int x :: st) h := gk_iload rfl
theorem s_Math_max_10 {x : Int32} : wps rm K Q c_Math_max_10 kc ks loc ([.int x]) h = (kc = rm.cells ∧ (0 = 1 → x = 0 ∨ x = 1) ∧ Q (some (.int x)) h) := gk_iret
def T_Math_max : List (Nat × List eg_I) := [(9, c_Math_max_9), (10, c_Math_max_10)]
theorem j_Math_max_9 {R : Nat → Nat → Nat → eg_Lo → List Value → List eg_E → Prop} {f pc0 : Nat} : eg_run rm R Q T_Math_max (f + 1) 9 kc ks loc st h = wps rm (eg_run rm R Q T_Math_max f) Q c_Math_max_9 kc ks loc st h := rfl
theorem j_Math_max_10 {R : Nat → Nat → Nat → eg_Lo → List Value → List eg_E → Prop} {f pc0 : Nat} : eg_run rm R Q T_Math_max (f + 1) 10 kc ks loc st h = wps rm (eg_run rm R Q T_Math_max f) Q c_Math_max_10 kc ks loc st h := rfl
end
theorem y_Math_max_0 : eg_seq m_Math_max 0 c_Math_max_0 = true := by decide +kernel
theorem y_Math_max_9 : eg_seq m_Math_max 9 c_Math_max_9 = true := by decide +kernel
theorem q_Math_max : ∀ q ∈ T_Math_max, eg_seq m_Math_max q.1 q.2 = true := by
  intro q hq
  simp only [T_Math_max, List.mem_cons, List.not_mem_nil, or_false] at hq
  rcases hq with rfl | rfl
  · exact y_Math_max_9
  · exact (eg_seq_drop y_Math_max_9 1 : eg_seq m_Math_max 10 c_Math_max_10 = true)
theorem md_Math_max : eg_md n_Math_max = m_Math_max := rfl
theorem mn_Math_max : n_Math_max < 202 := Nat.le_of_ble_eq_true rfl
theorem b_Math_max {as : List Value} {h : List eg_E} {Q : Option Value → List eg_E → Prop} (hf : (eg_fl as).length ≤ 2) : wps (eg_rm m_Math_max) (eg_run (eg_rm m_Math_max) (eg_R m_Math_max Q (h.length + 0)) Q T_Math_max 4) Q c_Math_max_0 0 0 (eg_entry 2 as) [] h → eg_Runs n_Math_max as h Q := eg_begin2 md_Math_max mn_Math_max y_Math_max_0 q_Math_max hf
/-! ===== Math_min ===== -/
def c_Math_min_10 : List eg_I := .inl (10, 1, .ireturn, 0, 0) :: []
def c_Math_min_9 : List eg_I := .inl (9, 1, .iload 1, 0, 0) :: c_Math_min_10
def c_Math_min_6 : List eg_I := .inl (6, 3, .goto (4), 10, 0) :: []
def c_Math_min_5 : List eg_I := .inl (5, 1, .iload 0, 0, 0) :: c_Math_min_6
def c_Math_min_2 : List eg_I := .inl (2, 3, .if_icmp .gt (7), 9, 0) :: c_Math_min_5
def c_Math_min_1 : List eg_I := .inl (1, 1, .iload 1, 0, 0) :: c_Math_min_2
def c_Math_min_0 : List eg_I := .inl (0, 1, .iload 0, 0, 0) :: c_Math_min_1
section
variable {rm : Room} {K : Nat → Nat → Nat → eg_Lo → List Value → List eg_E → Prop} {Q : Option Value → List eg_E → Prop} {kc ks : Nat} {loc : eg_Lo} {st : List Value} {h : List eg_E}
theorem s_Math_min_0 {x : Int32} {l : eg_Lo} : wps rm K Q c_Math_min_0 kc ks (some (.int x) :: l) (st) h = wps rm K Q c_Math_min_1 kc ks (some (.int x) :: l) (.int x :: st) h := gk_iload rfl
theorem s_Math_min_1 {x : Int32} {l0 : Option Value} {l : eg_Lo} : wps rm K Q c_Math_min_1 kc ks (l0 :: some (.int x) :: l) (st) h = wps rm K Q c_Math_min_2 kc ks (l0 :: some (.int x) :: l) (.int x :: st) h := gk_iload rfl
theorem s_Math_min_2 {x y : Int32} : wps rm K Q c_Math_min_2 kc ks loc (.int y :: .int x :: st) h = ((y < x → K 9 kc ks loc st h) ∧ (¬ y < x → wps rm K Q c_Math_min_5 kc ks loc (st) h)) := gk_if2_gt
theorem s_Math_min_5 {x : Int32} {l : eg_Lo} : wps rm K Q c_Math_min_5 kc ks (some (.int x) :: l) (st) h = wps rm K Q c_Math_min_6 kc ks (some (.int x) :: l) (.int x :: st) h := gk_iload rfl
theorem s_Math_min_6  : wps rm K Q c_Math_min_6 kc ks loc (st) h = K 10 kc ks loc st h := gk_goto
theorem s_Math_min_9 {x : Int32} {l0 : Option Value} {l : eg_Lo} : wps rm K Q c_Math_min_9 kc ks (l0 :: some (.int x) :: l) (st) h = wps rm K Q c_Math_min_10 kc ks (l0 :: some (.int x) :: l) (.int x :: st) h := gk_iload rfl
theorem s_Math_min_10 {x : Int32} : wps rm K Q c_Math_min_10 kc ks loc ([.int x]) h = (kc = rm.cells ∧ (0 = 1 → x = 0 ∨ x = 1) ∧ Q (some (.int x)) h) := gk_iret
def T_Math_min : List (Nat × List eg_I) := [(9, c_Math_min_9), (10, c_Math_min_10)]
theorem j_Math_min_9 {R : Nat → Nat → Nat → eg_Lo → List Value → List eg_E → Prop} {f pc0 : Nat} : eg_run rm R Q T_Math_min (f + 1) 9 kc ks loc st h = wps rm (eg_run rm R Q T_Math_min f) Q c_Math_min_9 kc ks loc st h := rfl
theorem j_Math_min_10 {R : Nat → Nat → Nat → eg_Lo → List Value → List eg_E → Prop} {f pc0 : Nat} : eg_run rm R Q T_Math_min (f + 1) 10 kc ks loc st h = wps rm (eg_run rm R Q T_Math_min f) Q c_Math_min_10 kc ks loc st h := rfl
end
theorem y_Math_min_0 : eg_seq m_Math_min 0 c_Math_min_0 = true := by decide +kernel
theorem y_Math_min_9 : eg_seq m_Math_min 9 c_Math_min_9 = true := by decide +kernel
theorem q_Math_min : ∀ q ∈ T_Math_min, eg_seq m_Math_min q.1 q.2 = true := by
  intro q hq
  simp only [T_Math_min, List.mem_cons, List.not_mem_nil, or_false] at hq
  rcases hq with rfl | rfl
  · exact y_Math_min_9
  · exact (eg_seq_drop y_Math_min_9 1 : eg_seq m_Math_min 10 c_Math_min_10 = true)
theorem md_Math_min : eg_md n_Math_min = m_Math_min := rfl
theorem mn_Math_min : n_Math_min < 202 := Nat.le_of_ble_eq_true rfl
theorem b_Math_min {as : List Value} {h : List eg_E} {Q : Option Value → List eg_E → Prop} (hf : (eg_fl as).length ≤ 2) : wps (eg_rm m_Math_min) (eg_run (eg_rm m_Math_min) (eg_R m_Math_min Q (h.length + 0)) Q T_Math_min 4) Q c_Math_min_0 0 0 (eg_entry 2 as) [] h → eg_Runs n_Math_min as h Q := eg_begin2 md_Math_min mn_Math_min y_Math_min_0 q_Math_min hf
