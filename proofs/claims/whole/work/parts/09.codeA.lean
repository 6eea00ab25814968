theorem eg_cp_i {rm : Room} {K : Nat → Nat → Nat → eg_Lo → List Value → List eg_E → Prop} {Q : Option Value → List eg_E → Prop} {r : List eg_I} {kc ks pc len a b : Nat} {loc : eg_Lo} {h : List eg_E} {x y : Nat} {sp dp z : Int32} : wps rm K Q (.inl (pc, len, .monitorenter, a, b) :: r) kc ks loc (.int z :: .int dp :: .ref (y + 1) :: .int sp :: .ref (x + 1) :: []) h = eg_cpi h x y sp dp z (fun h9 => wps rm K Q r kc ks loc [] h9) := by
  refine propext ⟨fun q => ?_, fun q => ?_⟩
  · simp only [wps, eg_stepI] at q
    unfold eg_cpi
    split at q
    · rename_i h1 h2
      rw [h1, h2]
      exact ⟨q.1, q.2.1, q.2.2.1, q.2.2.2.1, q.2.2.2.2.1, q.2.2.2.2.2.2⟩
    · exact q.elim
  · simp only [wps, eg_stepI]
    unfold eg_cpi at q
    split at q
    · rename_i h1 h2
      rw [h1, h2]
      exact ⟨q.1, q.2.1, q.2.2.1, q.2.2.2.1, q.2.2.2.2.1, Nat.zero_le _, q.2.2.2.2.2⟩
    · exact q.elim
theorem eg_cp_l {rm : Room} {K : Nat → Nat → Nat → eg_Lo → List Value → List eg_E → Prop} {Q : Option Value → List eg_E → Prop} {r : List eg_I} {kc ks pc len a b : Nat} {loc : eg_Lo} {h : List eg_E} {x y : Nat} {sp dp z : Int32} : wps rm K Q (.inl (pc, len, .monitorexit, a, b) :: r) kc ks loc (.int z :: .int dp :: .ref (y + 1) :: .int sp :: .ref (x + 1) :: []) h = eg_cpl h x y sp dp z (fun h9 => wps rm K Q r kc ks loc [] h9) := by
  refine propext ⟨fun q => ?_, fun q => ?_⟩
  · simp only [wps, eg_stepI] at q
    unfold eg_cpl
    split at q
    · rename_i h1 h2
      rw [h1, h2]
      exact ⟨q.1, q.2.1, q.2.2.1, q.2.2.2.1, q.2.2.2.2.1, q.2.2.2.2.2.2⟩
    · exact q.elim
  · simp only [wps, eg_stepI]
    unfold eg_cpl at q
    split at q
    · rename_i h1 h2
      rw [h1, h2]
      exact ⟨q.1, q.2.1, q.2.2.1, q.2.2.2.1, q.2.2.2.2.1, Nat.zero_le _, q.2.2.2.2.2⟩
    · exact q.elim
/-! ===== Boxes_init ===== -/
def c_Boxes_init_20 : List eg_I := .inl (20, 1, .return_, 0, 0) :: []
def c_Boxes_init_17 : List eg_I := .inl (17, 3, .putfield 15, 0, 2) :: c_Boxes_init_20
def c_Boxes_init_15 : List eg_I := .inl (15, 2, .newarray .int, 0, 0) :: c_Boxes_init_17
def c_Boxes_init_13 : List eg_I := .inl (13, 2, .iconst (18), 0, 0) :: c_Boxes_init_15
def c_Boxes_init_12 : List eg_I := .inl (12, 1, .aload 0, 0, 0) :: c_Boxes_init_13
def c_Boxes_init_9 : List eg_I := .inl (9, 3, .putfield 9, 0, 1) :: c_Boxes_init_12
def c_Boxes_init_7 : List eg_I := .inl (7, 2, .newarray .int, 0, 0) :: c_Boxes_init_9
def c_Boxes_init_5 : List eg_I := .inl (5, 2, .iconst (18), 0, 0) :: c_Boxes_init_7
def c_Boxes_init_4 : List eg_I := .inl (4, 1, .aload 0, 0, 0) :: c_Boxes_init_5
def c_Boxes_init_1 : List eg_I := .inl (1, 3, .athrow, 3, 0) :: c_Boxes_init_4
def c_Boxes_init_0 : List eg_I := .inl (0, 1, .aload 0, 0, 0) :: c_Boxes_init_1
section
variable {rm : Room} {K : Nat → Nat → Nat → eg_Lo → List Value → List eg_E → Prop} {Q : Option Value → List eg_E → Prop} {kc ks : Nat} {loc : eg_Lo} {st : List Value} {h : List eg_E}
theorem s_Boxes_init_0 {x : Nat} {l : eg_Lo} : wps rm K Q c_Boxes_init_0 kc ks (some (.ref x) :: l) (st) h = wps rm K Q c_Boxes_init_1 kc ks (some (.ref x) :: l) (.ref x :: st) h := rfl
theorem s_Boxes_init_1 {x : Nat} : wps rm K Q c_Boxes_init_1 kc ks loc (.ref (x + 1) :: st) h = (st.length ≤ 4 ∧ wps rm K Q c_Boxes_init_4 kc ks loc (st) h) := rfl
theorem s_Boxes_init_4 {x : Nat} {l : eg_Lo} : wps rm K Q c_Boxes_init_4 kc ks (some (.ref x) :: l) (st) h = wps rm K Q c_Boxes_init_5 kc ks (some (.ref x) :: l) (.ref x :: st) h := rfl
theorem s_Boxes_init_5  : wps rm K Q c_Boxes_init_5 kc ks loc (st) h = wps rm K Q c_Boxes_init_7 kc ks loc (.int (18) :: st) h := rfl
theorem s_Boxes_init_7 {x : Int32} : wps rm K Q c_Boxes_init_7 kc ks loc (.int x :: st) h = (¬ x < 0 ∧ x.toNatClampNeg ≤ 1000 ∧ kc + 1 ≤ rm.cells ∧ ks + x.toNatClampNeg ≤ rm.slots ∧ wps rm K Q c_Boxes_init_9 (kc + 1) (ks + x.toNatClampNeg) loc (.ref (h.length + 1) :: st) (h ++ [.inl (0, eg_zero 0 x.toNatClampNeg)])) := rfl
theorem s_Boxes_init_9 {x : Nat} {v : Value} : wps rm K Q c_Boxes_init_9 kc ks loc (v :: .ref (x + 1) :: st) h = eg_pf h x 0 1 v (fun h9 => wps rm K Q c_Boxes_init_12 kc ks loc (st) h9) := rfl
theorem s_Boxes_init_12 {x : Nat} {l : eg_Lo} : wps rm K Q c_Boxes_init_12 kc ks (some (.ref x) :: l) (st) h = wps rm K Q c_Boxes_init_13 kc ks (some (.ref x) :: l) (.ref x :: st) h := rfl
theorem s_Boxes_init_13  : wps rm K Q c_Boxes_init_13 kc ks loc (st) h = wps rm K Q c_Boxes_init_15 kc ks loc (.int (18) :: st) h := rfl
theorem s_Boxes_init_15 {x : Int32} : wps rm K Q c_Boxes_init_15 kc ks loc (.int x :: st) h = (¬ x < 0 ∧ x.toNatClampNeg ≤ 1000 ∧ kc + 1 ≤ rm.cells ∧ ks + x.toNatClampNeg ≤ rm.slots ∧ wps rm K Q c_Boxes_init_17 (kc + 1) (ks + x.toNatClampNeg) loc (.ref (h.length + 1) :: st) (h ++ [.inl (0, eg_zero 0 x.toNatClampNeg)])) := rfl
theorem s_Boxes_init_17 {x : Nat} {v : Value} : wps rm K Q c_Boxes_init_17 kc ks loc (v :: .ref (x + 1) :: st) h = eg_pf h x 0 2 v (fun h9 => wps rm K Q c_Boxes_init_20 kc ks loc (st) h9) := rfl
theorem s_Boxes_init_20  : wps rm K Q c_Boxes_init_20 kc ks loc ([]) h = (kc = rm.cells ∧ Q none h) := rfl
def T_Boxes_init : List (Nat × List eg_I) := []
end
theorem q_Boxes_init : (T_Boxes_init.all fun q => eg_seq m_Boxes_init q.1 q.2) = true := by decide +kernel
theorem b_Boxes_init {as : List Value} {h : List eg_E} {Q : Option Value → List eg_E → Prop} (hf : (eg_fl as).length ≤ 1) (hw : wps (eg_rm m_Boxes_init) (eg_run (eg_rm m_Boxes_init) (eg_R m_Boxes_init Q (h.length + 2)) Q T_Boxes_init 2) Q c_Boxes_init_0 0 0 (eg_entry 1 as) [] h) : eg_Runs n_Boxes_init as h Q := eg_begin (d := m_Boxes_init) rfl (by decide) (by decide +kernel) q_Boxes_init hf hw
/-! ===== Boxes_setSide ===== -/
def c_Boxes_setSide_43 : List eg_I := .inl (43, 1, .return_, 0, 0) :: []
def c_Boxes_setSide_42 : List eg_I := .inl (42, 1, .iastore, 0, 0) :: c_Boxes_setSide_43
def c_Boxes_setSide_41 : List eg_I := .inl (41, 1, .iadd, 0, 0) :: c_Boxes_setSide_42
def c_Boxes_setSide_40 : List eg_I := .inl (40, 1, .iload 3, 0, 0) :: c_Boxes_setSide_41
def c_Boxes_setSide_39 : List eg_I := .inl (39, 1, .iload 2, 0, 0) :: c_Boxes_setSide_40
def c_Boxes_setSide_37 : List eg_I := .inl (37, 2, .iload 4, 0, 0) :: c_Boxes_setSide_39
def c_Boxes_setSide_34 : List eg_I := .inl (34, 3, .getfield 15, 0, 2) :: c_Boxes_setSide_37
def c_Boxes_setSide_33 : List eg_I := .inl (33, 1, .aload 0, 0, 0) :: c_Boxes_setSide_34
def c_Boxes_setSide_32 : List eg_I := .inl (32, 1, .iastore, 0, 0) :: c_Boxes_setSide_33
def c_Boxes_setSide_31 : List eg_I := .inl (31, 1, .iload 2, 0, 0) :: c_Boxes_setSide_32
def c_Boxes_setSide_29 : List eg_I := .inl (29, 2, .iload 4, 0, 0) :: c_Boxes_setSide_31
def c_Boxes_setSide_26 : List eg_I := .inl (26, 3, .getfield 9, 0, 1) :: c_Boxes_setSide_29
def c_Boxes_setSide_25 : List eg_I := .inl (25, 1, .aload 0, 0, 0) :: c_Boxes_setSide_26
def c_Boxes_setSide_22 : List eg_I := .inl (22, 3, .if_icmp .ge (21), 43, 0) :: c_Boxes_setSide_25
def c_Boxes_setSide_21 : List eg_I := .inl (21, 1, .arraylength, 0, 0) :: c_Boxes_setSide_22
def c_Boxes_setSide_18 : List eg_I := .inl (18, 3, .getfield 9, 0, 1) :: c_Boxes_setSide_21
def c_Boxes_setSide_17 : List eg_I := .inl (17, 1, .aload 0, 0, 0) :: c_Boxes_setSide_18
def c_Boxes_setSide_15 : List eg_I := .inl (15, 2, .iload 4, 0, 0) :: c_Boxes_setSide_17
def c_Boxes_setSide_12 : List eg_I := .inl (12, 3, .ifCond .lt (31), 43, 0) :: c_Boxes_setSide_15
def c_Boxes_setSide_10 : List eg_I := .inl (10, 2, .iload 4, 0, 0) :: c_Boxes_setSide_12
def c_Boxes_setSide_8 : List eg_I := .inl (8, 2, .istore 4, 0, 0) :: c_Boxes_setSide_10
def c_Boxes_setSide_7 : List eg_I := .inl (7, 1, .iadd, 0, 0) :: c_Boxes_setSide_8
def c_Boxes_setSide_6 : List eg_I := .inl (6, 1, .iload 1, 0, 0) :: c_Boxes_setSide_7
def c_Boxes_setSide_5 : List eg_I := .inl (5, 1, .imul, 0, 0) :: c_Boxes_setSide_6
def c_Boxes_setSide_2 : List eg_I := .inl (2, 3, .getfield 18, 0, 0) :: c_Boxes_setSide_5
def c_Boxes_setSide_1 : List eg_I := .inl (1, 1, .aload 0, 0, 0) :: c_Boxes_setSide_2
def c_Boxes_setSide_0 : List eg_I := .inl (0, 1, .iconst (3), 0, 0) :: c_Boxes_setSide_1
section
variable {rm : Room} {K : Nat → Nat → Nat → eg_Lo → List Value → List eg_E → Prop} {Q : Option Value → List eg_E → Prop} {kc ks : Nat} {loc : eg_Lo} {st : List Value} {h : List eg_E}
theorem s_Boxes_setSide_0  : wps rm K Q c_Boxes_setSide_0 kc ks loc (st) h = wps rm K Q c_Boxes_setSide_1 kc ks loc (.int (3) :: st) h := rfl
theorem s_Boxes_setSide_1 {x : Nat} {l : eg_Lo} : wps rm K Q c_Boxes_setSide_1 kc ks (some (.ref x) :: l) (st) h = wps rm K Q c_Boxes_setSide_2 kc ks (some (.ref x) :: l) (.ref x :: st) h := rfl
theorem s_Boxes_setSide_2 {x : Nat} : wps rm K Q c_Boxes_setSide_2 kc ks loc (.ref (x + 1) :: st) h = eg_gf h x 0 0 (fun v => wps rm K Q c_Boxes_setSide_5 kc ks loc (v :: st) h) := rfl
theorem s_Boxes_setSide_5 {x y : Int32} : wps rm K Q c_Boxes_setSide_5 kc ks loc (.int y :: .int x :: st) h = wps rm K Q c_Boxes_setSide_6 kc ks loc (.int (x * y) :: st) h := rfl
theorem s_Boxes_setSide_6 {x : Int32} {l0 : Option Value} {l : eg_Lo} : wps rm K Q c_Boxes_setSide_6 kc ks (l0 :: some (.int x) :: l) (st) h = wps rm K Q c_Boxes_setSide_7 kc ks (l0 :: some (.int x) :: l) (.int x :: st) h := rfl
theorem s_Boxes_setSide_7 {x y : Int32} : wps rm K Q c_Boxes_setSide_7 kc ks loc (.int y :: .int x :: st) h = wps rm K Q c_Boxes_setSide_8 kc ks loc (.int (x + y) :: st) h := rfl
theorem s_Boxes_setSide_8 {x : Int32} : wps rm K Q c_Boxes_setSide_8 kc ks loc (.int x :: st) h = wps rm K Q c_Boxes_setSide_10 kc ks (eg_set1 loc 4 (.int x)) (st) h := rfl
theorem s_Boxes_setSide_10 {x : Int32} {l0 l1 l2 l3 : Option Value} {l : eg_Lo} : wps rm K Q c_Boxes_setSide_10 kc ks (l0 :: l1 :: l2 :: l3 :: some (.int x) :: l) (st) h = wps rm K Q c_Boxes_setSide_12 kc ks (l0 :: l1 :: l2 :: l3 :: some (.int x) :: l) (.int x :: st) h := rfl
theorem s_Boxes_setSide_12 {x : Int32} : wps rm K Q c_Boxes_setSide_12 kc ks loc (.int x :: st) h = ((x < 0 → K 43 kc ks loc st h) ∧ (¬ x < 0 → wps rm K Q c_Boxes_setSide_15 kc ks loc (st) h)) := rfl
theorem s_Boxes_setSide_15 {x : Int32} {l0 l1 l2 l3 : Option Value} {l : eg_Lo} : wps rm K Q c_Boxes_setSide_15 kc ks (l0 :: l1 :: l2 :: l3 :: some (.int x) :: l) (st) h = wps rm K Q c_Boxes_setSide_17 kc ks (l0 :: l1 :: l2 :: l3 :: some (.int x) :: l) (.int x :: st) h := rfl
theorem s_Boxes_setSide_17 {x : Nat} {l : eg_Lo} : wps rm K Q c_Boxes_setSide_17 kc ks (some (.ref x) :: l) (st) h = wps rm K Q c_Boxes_setSide_18 kc ks (some (.ref x) :: l) (.ref x :: st) h := rfl
theorem s_Boxes_setSide_18 {x : Nat} : wps rm K Q c_Boxes_setSide_18 kc ks loc (.ref (x + 1) :: st) h = eg_gf h x 0 1 (fun v => wps rm K Q c_Boxes_setSide_21 kc ks loc (v :: st) h) := rfl
theorem s_Boxes_setSide_21 {x : Nat} : wps rm K Q c_Boxes_setSide_21 kc ks loc (.ref (x + 1) :: st) h = eg_al h x (fun v => wps rm K Q c_Boxes_setSide_22 kc ks loc (.int v :: st) h) := rfl
theorem s_Boxes_setSide_22 {x y : Int32} : wps rm K Q c_Boxes_setSide_22 kc ks loc (.int y :: .int x :: st) h = ((y ≤ x → K 43 kc ks loc st h) ∧ (¬ y ≤ x → wps rm K Q c_Boxes_setSide_25 kc ks loc (st) h)) := rfl
theorem s_Boxes_setSide_25 {x : Nat} {l : eg_Lo} : wps rm K Q c_Boxes_setSide_25 kc ks (some (.ref x) :: l) (st) h = wps rm K Q c_Boxes_setSide_26 kc ks (some (.ref x) :: l) (.ref x :: st) h := rfl
theorem s_Boxes_setSide_26 {x : Nat} : wps rm K Q c_Boxes_setSide_26 kc ks loc (.ref (x + 1) :: st) h = eg_gf h x 0 1 (fun v => wps rm K Q c_Boxes_setSide_29 kc ks loc (v :: st) h) := rfl
theorem s_Boxes_setSide_29 {x : Int32} {l0 l1 l2 l3 : Option Value} {l : eg_Lo} : wps rm K Q c_Boxes_setSide_29 kc ks (l0 :: l1 :: l2 :: l3 :: some (.int x) :: l) (st) h = wps rm K Q c_Boxes_setSide_31 kc ks (l0 :: l1 :: l2 :: l3 :: some (.int x) :: l) (.int x :: st) h := rfl
theorem s_Boxes_setSide_31 {x : Int32} {l0 l1 : Option Value} {l : eg_Lo} : wps rm K Q c_Boxes_setSide_31 kc ks (l0 :: l1 :: some (.int x) :: l) (st) h = wps rm K Q c_Boxes_setSide_32 kc ks (l0 :: l1 :: some (.int x) :: l) (.int x :: st) h := rfl
theorem s_Boxes_setSide_32 {x : Nat} {i : Int32} {v : Int32} : wps rm K Q c_Boxes_setSide_32 kc ks loc (.int v :: .int i :: .ref (x + 1) :: st) h = eg_is h x i v (fun h9 => wps rm K Q c_Boxes_setSide_33 kc ks loc (st) h9) := rfl
theorem s_Boxes_setSide_33 {x : Nat} {l : eg_Lo} : wps rm K Q c_Boxes_setSide_33 kc ks (some (.ref x) :: l) (st) h = wps rm K Q c_Boxes_setSide_34 kc ks (some (.ref x) :: l) (.ref x :: st) h := rfl
theorem s_Boxes_setSide_34 {x : Nat} : wps rm K Q c_Boxes_setSide_34 kc ks loc (.ref (x + 1) :: st) h = eg_gf h x 0 2 (fun v => wps rm K Q c_Boxes_setSide_37 kc ks loc (v :: st) h) := rfl
theorem s_Boxes_setSide_37 {x : Int32} {l0 l1 l2 l3 : Option Value} {l : eg_Lo} : wps rm K Q c_Boxes_setSide_37 kc ks (l0 :: l1 :: l2 :: l3 :: some (.int x) :: l) (st) h = wps rm K Q c_Boxes_setSide_39 kc ks (l0 :: l1 :: l2 :: l3 :: some (.int x) :: l) (.int x :: st) h := rfl
theorem s_Boxes_setSide_39 {x : Int32} {l0 l1 : Option Value} {l : eg_Lo} : wps rm K Q c_Boxes_setSide_39 kc ks (l0 :: l1 :: some (.int x) :: l) (st) h = wps rm K Q c_Boxes_setSide_40 kc ks (l0 :: l1 :: some (.int x) :: l) (.int x :: st) h := rfl
theorem s_Boxes_setSide_40 {x : Int32} {l0 l1 l2 : Option Value} {l : eg_Lo} : wps rm K Q c_Boxes_setSide_40 kc ks (l0 :: l1 :: l2 :: some (.int x) :: l) (st) h = wps rm K Q c_Boxes_setSide_41 kc ks (l0 :: l1 :: l2 :: some (.int x) :: l) (.int x :: st) h := rfl
theorem s_Boxes_setSide_41 {x y : Int32} : wps rm K Q c_Boxes_setSide_41 kc ks loc (.int y :: .int x :: st) h = wps rm K Q c_Boxes_setSide_42 kc ks loc (.int (x + y) :: st) h := rfl
theorem s_Boxes_setSide_42 {x : Nat} {i : Int32} {v : Int32} : wps rm K Q c_Boxes_setSide_42 kc ks loc (.int v :: .int i :: .ref (x + 1) :: st) h = eg_is h x i v (fun h9 => wps rm K Q c_Boxes_setSide_43 kc ks loc (st) h9) := rfl
theorem s_Boxes_setSide_43  : wps rm K Q c_Boxes_setSide_43 kc ks loc ([]) h = (kc = rm.cells ∧ Q none h) := rfl
def T_Boxes_setSide : List (Nat × List eg_I) := [(43, c_Boxes_setSide_43)]
theorem j_Boxes_setSide_43 {R : Nat → Nat → Nat → eg_Lo → List Value → List eg_E → Prop} {f pc0 : Nat} : eg_run rm R Q T_Boxes_setSide (f + 1) 43 kc ks loc st h = wps rm (eg_run rm R Q T_Boxes_setSide f) Q c_Boxes_setSide_43 kc ks loc st h := rfl
end
theorem q_Boxes_setSide : (T_Boxes_setSide.all fun q => eg_seq m_Boxes_setSide q.1 q.2) = true := by decide +kernel
theorem b_Boxes_setSide {as : List Value} {h : List eg_E} {Q : Option Value → List eg_E → Prop} (hf : (eg_fl as).length ≤ 5) (hw : wps (eg_rm m_Boxes_setSide) (eg_run (eg_rm m_Boxes_setSide) (eg_R m_Boxes_setSide Q (h.length + 0)) Q T_Boxes_setSide 3) Q c_Boxes_setSide_0 0 0 (eg_entry 5 as) [] h) : eg_Runs n_Boxes_setSide as h Q := eg_begin (d := m_Boxes_setSide) rfl (by decide) (by decide +kernel) q_Boxes_setSide hf hw
/-! ===== Boxes_firstEntered ===== -/
def c_Boxes_firstEntered_34 : List eg_I := .inl (34, 1, .ireturn, 0, 0) :: []
def c_Boxes_firstEntered_33 : List eg_I := .inl (33, 1, .iconst (-1), 0, 0) :: c_Boxes_firstEntered_34
def c_Boxes_firstEntered_30 : List eg_I := .inl (30, 3, .goto (-27), 3, 0) :: []
def c_Boxes_firstEntered_27 : List eg_I := .inl (27, 3, .iinc 4 (1), 0, 0) :: c_Boxes_firstEntered_30
def c_Boxes_firstEntered_26 : List eg_I := .inl (26, 1, .ireturn, 0, 0) :: []
def c_Boxes_firstEntered_24 : List eg_I := .inl (24, 2, .iload 4, 0, 0) :: c_Boxes_firstEntered_26
def c_Boxes_firstEntered_21 : List eg_I := .inl (21, 3, .ifCond .eq (6), 27, 0) :: c_Boxes_firstEntered_24
def c_Boxes_firstEntered_18 : List eg_I := .inr (18, 1, 22, n_Boxes_isEntered, 4, 0, 0, 0) :: c_Boxes_firstEntered_21
def c_Boxes_firstEntered_17 : List eg_I := .inl (17, 1, .iload 3, 0, 0) :: c_Boxes_firstEntered_18
def c_Boxes_firstEntered_16 : List eg_I := .inl (16, 1, .iload 2, 0, 0) :: c_Boxes_firstEntered_17
def c_Boxes_firstEntered_15 : List eg_I := .inl (15, 1, .aload 1, 0, 0) :: c_Boxes_firstEntered_16
def c_Boxes_firstEntered_13 : List eg_I := .inl (13, 2, .iload 4, 0, 0) :: c_Boxes_firstEntered_15
def c_Boxes_firstEntered_12 : List eg_I := .inl (12, 1, .aload 0, 0, 0) :: c_Boxes_firstEntered_13
def c_Boxes_firstEntered_9 : List eg_I := .inl (9, 3, .if_icmp .ge (24), 33, 0) :: c_Boxes_firstEntered_12
def c_Boxes_firstEntered_6 : List eg_I := .inl (6, 3, .getfield 18, 0, 0) :: c_Boxes_firstEntered_9
def c_Boxes_firstEntered_5 : List eg_I := .inl (5, 1, .aload 0, 0, 0) :: c_Boxes_firstEntered_6
def c_Boxes_firstEntered_3 : List eg_I := .inl (3, 2, .iload 4, 0, 0) :: c_Boxes_firstEntered_5
def c_Boxes_firstEntered_1 : List eg_I := .inl (1, 2, .istore 4, 0, 0) :: [.inl (3, 0, .nop, 0, 0)]
def c_Boxes_firstEntered_0 : List eg_I := .inl (0, 1, .iconst (0), 0, 0) :: c_Boxes_firstEntered_1
section
variable {rm : Room} {K : Nat → Nat → Nat → eg_Lo → List Value → List eg_E → Prop} {Q : Option Value → List eg_E → Prop} {kc ks : Nat} {loc : eg_Lo} {st : List Value} {h : List eg_E}
theorem s_Boxes_firstEntered_0  : wps rm K Q c_Boxes_firstEntered_0 kc ks loc (st) h = wps rm K Q c_Boxes_firstEntered_1 kc ks loc (.int (0) :: st) h := rfl
theorem s_Boxes_firstEntered_1 {x : Int32} : wps rm K Q c_Boxes_firstEntered_1 kc ks loc (.int x :: st) h = K 3 kc ks (eg_set1 loc 4 (.int x)) (st) h := rfl
theorem s_Boxes_firstEntered_3 {x : Int32} {l0 l1 l2 l3 : Option Value} {l : eg_Lo} : wps rm K Q c_Boxes_firstEntered_3 kc ks (l0 :: l1 :: l2 :: l3 :: some (.int x) :: l) (st) h = wps rm K Q c_Boxes_firstEntered_5 kc ks (l0 :: l1 :: l2 :: l3 :: some (.int x) :: l) (.int x :: st) h := rfl
theorem s_Boxes_firstEntered_5 {x : Nat} {l : eg_Lo} : wps rm K Q c_Boxes_firstEntered_5 kc ks (some (.ref x) :: l) (st) h = wps rm K Q c_Boxes_firstEntered_6 kc ks (some (.ref x) :: l) (.ref x :: st) h := rfl
theorem s_Boxes_firstEntered_6 {x : Nat} : wps rm K Q c_Boxes_firstEntered_6 kc ks loc (.ref (x + 1) :: st) h = eg_gf h x 0 0 (fun v => wps rm K Q c_Boxes_firstEntered_9 kc ks loc (v :: st) h) := rfl
theorem s_Boxes_firstEntered_9 {x y : Int32} : wps rm K Q c_Boxes_firstEntered_9 kc ks loc (.int y :: .int x :: st) h = ((y ≤ x → K 33 kc ks loc st h) ∧ (¬ y ≤ x → wps rm K Q c_Boxes_firstEntered_12 kc ks loc (st) h)) := rfl
theorem s_Boxes_firstEntered_12 {x : Nat} {l : eg_Lo} : wps rm K Q c_Boxes_firstEntered_12 kc ks (some (.ref x) :: l) (st) h = wps rm K Q c_Boxes_firstEntered_13 kc ks (some (.ref x) :: l) (.ref x :: st) h := rfl
theorem s_Boxes_firstEntered_13 {x : Int32} {l0 l1 l2 l3 : Option Value} {l : eg_Lo} : wps rm K Q c_Boxes_firstEntered_13 kc ks (l0 :: l1 :: l2 :: l3 :: some (.int x) :: l) (st) h = wps rm K Q c_Boxes_firstEntered_15 kc ks (l0 :: l1 :: l2 :: l3 :: some (.int x) :: l) (.int x :: st) h := rfl
theorem s_Boxes_firstEntered_15 {x : Nat} {l0 : Option Value} {l : eg_Lo} : wps rm K Q c_Boxes_firstEntered_15 kc ks (l0 :: some (.ref x) :: l) (st) h = wps rm K Q c_Boxes_firstEntered_16 kc ks (l0 :: some (.ref x) :: l) (.ref x :: st) h := rfl
theorem s_Boxes_firstEntered_16 {x : Int32} {l0 l1 : Option Value} {l : eg_Lo} : wps rm K Q c_Boxes_firstEntered_16 kc ks (l0 :: l1 :: some (.int x) :: l) (st) h = wps rm K Q c_Boxes_firstEntered_17 kc ks (l0 :: l1 :: some (.int x) :: l) (.int x :: st) h := rfl
theorem s_Boxes_firstEntered_17 {x : Int32} {l0 l1 l2 : Option Value} {l : eg_Lo} : wps rm K Q c_Boxes_firstEntered_17 kc ks (l0 :: l1 :: l2 :: some (.int x) :: l) (st) h = wps rm K Q c_Boxes_firstEntered_18 kc ks (l0 :: l1 :: l2 :: some (.int x) :: l) (.int x :: st) h := rfl
theorem s_Boxes_firstEntered_18  {a1 : Value} {a2 : Value} {a3 : Value} {a4 : Value} {x : Nat} : wps rm K Q c_Boxes_firstEntered_18 kc ks loc (a4 :: a3 :: a2 :: a1 :: .ref (x + 1) :: st) h = (eg_cls h x 0 ∧ st.length ≤ 4 ∧ eg_Cs n_Boxes_isEntered (.ref (x + 1) :: [a1, a2, a3, a4]) h (fun v h9 => wps rm K Q c_Boxes_firstEntered_21 kc ks loc (v.toList ++ st) h9)) := eg_c1_4
theorem s_Boxes_firstEntered_21 {x : Int32} : wps rm K Q c_Boxes_firstEntered_21 kc ks loc (.int x :: st) h = ((x = 0 → K 27 kc ks loc st h) ∧ (¬ x = 0 → wps rm K Q c_Boxes_firstEntered_24 kc ks loc (st) h)) := rfl
theorem s_Boxes_firstEntered_24 {x : Int32} {l0 l1 l2 l3 : Option Value} {l : eg_Lo} : wps rm K Q c_Boxes_firstEntered_24 kc ks (l0 :: l1 :: l2 :: l3 :: some (.int x) :: l) (st) h = wps rm K Q c_Boxes_firstEntered_26 kc ks (l0 :: l1 :: l2 :: l3 :: some (.int x) :: l) (.int x :: st) h := rfl
theorem s_Boxes_firstEntered_26 {x : Int32} : wps rm K Q c_Boxes_firstEntered_26 kc ks loc ([.int x]) h = (kc = rm.cells ∧ (0 = 1 → x = 0 ∨ x = 1) ∧ Q (some (.int x)) h) := rfl
theorem s_Boxes_firstEntered_27 {x : Int32} {l0 l1 l2 l3 : Option Value} {l9 : eg_Lo} : wps rm K Q c_Boxes_firstEntered_27 kc ks (l0 :: l1 :: l2 :: l3 :: some (.int x) :: l9) (st) h = wps rm K Q c_Boxes_firstEntered_30 kc ks (eg_set1 (l0 :: l1 :: l2 :: l3 :: some (.int x) :: l9) 4 (.int (x + (1)))) (st) h := rfl
theorem s_Boxes_firstEntered_30  : wps rm K Q c_Boxes_firstEntered_30 kc ks loc (st) h = K 3 kc ks loc st h := rfl
theorem s_Boxes_firstEntered_33  : wps rm K Q c_Boxes_firstEntered_33 kc ks loc (st) h = wps rm K Q c_Boxes_firstEntered_34 kc ks loc (.int (-1) :: st) h := rfl
theorem s_Boxes_firstEntered_34 {x : Int32} : wps rm K Q c_Boxes_firstEntered_34 kc ks loc ([.int x]) h = (kc = rm.cells ∧ (0 = 1 → x = 0 ∨ x = 1) ∧ Q (some (.int x)) h) := rfl
def T_Boxes_firstEntered : List (Nat × List eg_I) := [(27, c_Boxes_firstEntered_27), (33, c_Boxes_firstEntered_33)]
theorem j_Boxes_firstEntered_27 {R : Nat → Nat → Nat → eg_Lo → List Value → List eg_E → Prop} {f pc0 : Nat} : eg_run rm R Q T_Boxes_firstEntered (f + 1) 27 kc ks loc st h = wps rm (eg_run rm R Q T_Boxes_firstEntered f) Q c_Boxes_firstEntered_27 kc ks loc st h := rfl
theorem j_Boxes_firstEntered_33 {R : Nat → Nat → Nat → eg_Lo → List Value → List eg_E → Prop} {f pc0 : Nat} : eg_run rm R Q T_Boxes_firstEntered (f + 1) 33 kc ks loc st h = wps rm (eg_run rm R Q T_Boxes_firstEntered f) Q c_Boxes_firstEntered_33 kc ks loc st h := rfl
theorem j_Boxes_firstEntered_3 {R : Nat → Nat → Nat → eg_Lo → List Value → List eg_E → Prop} {f pc0 : Nat} : eg_run rm R Q T_Boxes_firstEntered (f + 1) 3 kc ks loc st h = R 3 kc ks loc st h := rfl
end
theorem q_Boxes_firstEntered : (T_Boxes_firstEntered.all fun q => eg_seq m_Boxes_firstEntered q.1 q.2) = true := by decide +kernel
theorem b_Boxes_firstEntered {as : List Value} {h : List eg_E} {Q : Option Value → List eg_E → Prop} (hf : (eg_fl as).length ≤ 5) (hw : wps (eg_rm m_Boxes_firstEntered) (eg_run (eg_rm m_Boxes_firstEntered) (eg_R m_Boxes_firstEntered Q (h.length + 0)) Q T_Boxes_firstEntered 4) Q c_Boxes_firstEntered_0 0 0 (eg_entry 5 as) [] h) : eg_Runs n_Boxes_firstEntered as h Q := eg_begin (d := m_Boxes_firstEntered) rfl (by decide) (by decide +kernel) q_Boxes_firstEntered hf hw
theorem p_Boxes_firstEntered_3 {Q : Option Value → List eg_E → Prop} {n0 kc ks : Nat} {loc : eg_Lo} {st : List Value} {h : List eg_E} (hw : wps (eg_rm m_Boxes_firstEntered) (eg_run (eg_rm m_Boxes_firstEntered) (eg_R m_Boxes_firstEntered Q n0) Q T_Boxes_firstEntered 4) Q c_Boxes_firstEntered_3 kc ks loc st h) : eg_R m_Boxes_firstEntered Q n0 3 kc ks loc st h := eg_go (by decide +kernel) q_Boxes_firstEntered hw
/-! ===== Boxes_isEntered ===== -/
def c_Boxes_isEntered_145 : List eg_I := .inl (145, 1, .ireturn, 0, 1) :: []
def c_Boxes_isEntered_144 : List eg_I := .inl (144, 1, .iconst (0), 0, 0) :: c_Boxes_isEntered_145
def c_Boxes_isEntered_141 : List eg_I := .inl (141, 3, .goto (4), 145, 0) :: []
def c_Boxes_isEntered_140 : List eg_I := .inl (140, 1, .iconst (1), 0, 0) :: c_Boxes_isEntered_141
def c_Boxes_isEntered_137 : List eg_I := .inl (137, 3, .ifCond .ge (7), 144, 0) :: c_Boxes_isEntered_140
def c_Boxes_isEntered_136 : List eg_I := .inl (136, 1, .lcmp, 0, 0) :: c_Boxes_isEntered_137
def c_Boxes_isEntered_133 : List eg_I := .inl (133, 3, .getfield 32, 0, 4) :: c_Boxes_isEntered_136
def c_Boxes_isEntered_132 : List eg_I := .inl (132, 1, .aload 0, 0, 0) :: c_Boxes_isEntered_133
def c_Boxes_isEntered_129 : List eg_I := .inl (129, 3, .getfield 28, 0, 3) :: c_Boxes_isEntered_132
def c_Boxes_isEntered_128 : List eg_I := .inl (128, 1, .aload 0, 0, 0) :: c_Boxes_isEntered_129
def c_Boxes_isEntered_125 : List eg_I := .inl (125, 3, .ifCond .le (19), 144, 0) :: c_Boxes_isEntered_128
def c_Boxes_isEntered_124 : List eg_I := .inl (124, 1, .lcmp, 0, 0) :: c_Boxes_isEntered_125
def c_Boxes_isEntered_123 : List eg_I := .inl (123, 1, .sipush (0), 0, 0) :: c_Boxes_isEntered_124
def c_Boxes_isEntered_120 : List eg_I := .inl (120, 3, .getfield 37, 0, 5) :: c_Boxes_isEntered_123
def c_Boxes_isEntered_119 : List eg_I := .inl (119, 1, .aload 0, 0, 0) :: c_Boxes_isEntered_120
def c_Boxes_isEntered_116 : List eg_I := .inl (116, 3, .ifCond .ge (28), 144, 0) :: c_Boxes_isEntered_119
def c_Boxes_isEntered_115 : List eg_I := .inl (115, 1, .lcmp, 0, 0) :: c_Boxes_isEntered_116
def c_Boxes_isEntered_114 : List eg_I := .inl (114, 1, .lmul, 0, 0) :: c_Boxes_isEntered_115
def c_Boxes_isEntered_111 : List eg_I := .inl (111, 3, .getfield 32, 0, 4) :: c_Boxes_isEntered_114
def c_Boxes_isEntered_110 : List eg_I := .inl (110, 1, .aload 0, 0, 0) :: c_Boxes_isEntered_111
def c_Boxes_isEntered_107 : List eg_I := .inl (107, 3, .getfield 37, 0, 5) :: c_Boxes_isEntered_110
def c_Boxes_isEntered_106 : List eg_I := .inl (106, 1, .aload 0, 0, 0) :: c_Boxes_isEntered_107
def c_Boxes_isEntered_105 : List eg_I := .inl (105, 1, .lmul, 0, 0) :: c_Boxes_isEntered_106
def c_Boxes_isEntered_102 : List eg_I := .inl (102, 3, .getfield 40, 0, 6) :: c_Boxes_isEntered_105
def c_Boxes_isEntered_101 : List eg_I := .inl (101, 1, .aload 0, 0, 0) :: c_Boxes_isEntered_102
def c_Boxes_isEntered_98 : List eg_I := .inl (98, 3, .getfield 28, 0, 3) :: c_Boxes_isEntered_101
def c_Boxes_isEntered_97 : List eg_I := .inl (97, 1, .aload 0, 0, 0) :: c_Boxes_isEntered_98
def c_Boxes_isEntered_94 : List eg_I := .inl (94, 3, .ifCond .eq (50), 144, 0) :: c_Boxes_isEntered_97
def c_Boxes_isEntered_91 : List eg_I := .inr (91, 1, 48, n_Boxes_narrow, 3, 0, 0, 0) :: c_Boxes_isEntered_94
def c_Boxes_isEntered_90 : List eg_I := .inl (90, 1, .iaload, 0, 0) :: c_Boxes_isEntered_91
def c_Boxes_isEntered_88 : List eg_I := .inl (88, 2, .iload 4, 0, 0) :: c_Boxes_isEntered_90
def c_Boxes_isEntered_85 : List eg_I := .inl (85, 3, .getfield 55, 8, 2) :: c_Boxes_isEntered_88
def c_Boxes_isEntered_84 : List eg_I := .inl (84, 1, .aload 2, 0, 0) :: c_Boxes_isEntered_85
def c_Boxes_isEntered_83 : List eg_I := .inl (83, 1, .iaload, 0, 0) :: c_Boxes_isEntered_84
def c_Boxes_isEntered_82 : List eg_I := .inl (82, 1, .iload 3, 0, 0) :: c_Boxes_isEntered_83
def c_Boxes_isEntered_79 : List eg_I := .inl (79, 3, .getfield 55, 8, 2) :: c_Boxes_isEntered_82
def c_Boxes_isEntered_78 : List eg_I := .inl (78, 1, .aload 2, 0, 0) :: c_Boxes_isEntered_79
def c_Boxes_isEntered_77 : List eg_I := .inl (77, 1, .iadd, 0, 0) :: c_Boxes_isEntered_78
def c_Boxes_isEntered_76 : List eg_I := .inl (76, 1, .iconst (2), 0, 0) :: c_Boxes_isEntered_77
def c_Boxes_isEntered_75 : List eg_I := .inl (75, 1, .imul, 0, 0) :: c_Boxes_isEntered_76
def c_Boxes_isEntered_74 : List eg_I := .inl (74, 1, .iload 1, 0, 0) :: c_Boxes_isEntered_75
def c_Boxes_isEntered_73 : List eg_I := .inl (73, 1, .iconst (3), 0, 0) :: c_Boxes_isEntered_74
def c_Boxes_isEntered_72 : List eg_I := .inl (72, 1, .aload 0, 0, 0) :: c_Boxes_isEntered_73
def c_Boxes_isEntered_69 : List eg_I := .inl (69, 3, .ifCond .eq (75), 144, 0) :: c_Boxes_isEntered_72
def c_Boxes_isEntered_66 : List eg_I := .inr (66, 1, 48, n_Boxes_narrow, 3, 0, 0, 0) :: c_Boxes_isEntered_69
def c_Boxes_isEntered_65 : List eg_I := .inl (65, 1, .iaload, 0, 0) :: c_Boxes_isEntered_66
def c_Boxes_isEntered_63 : List eg_I := .inl (63, 2, .iload 4, 0, 0) :: c_Boxes_isEntered_65
def c_Boxes_isEntered_60 : List eg_I := .inl (60, 3, .getfield 52, 8, 1) :: c_Boxes_isEntered_63
def c_Boxes_isEntered_59 : List eg_I := .inl (59, 1, .aload 2, 0, 0) :: c_Boxes_isEntered_60
def c_Boxes_isEntered_58 : List eg_I := .inl (58, 1, .iaload, 0, 0) :: c_Boxes_isEntered_59
def c_Boxes_isEntered_57 : List eg_I := .inl (57, 1, .iload 3, 0, 0) :: c_Boxes_isEntered_58
def c_Boxes_isEntered_54 : List eg_I := .inl (54, 3, .getfield 52, 8, 1) :: c_Boxes_isEntered_57
def c_Boxes_isEntered_53 : List eg_I := .inl (53, 1, .aload 2, 0, 0) :: c_Boxes_isEntered_54
def c_Boxes_isEntered_52 : List eg_I := .inl (52, 1, .iadd, 0, 0) :: c_Boxes_isEntered_53
def c_Boxes_isEntered_51 : List eg_I := .inl (51, 1, .iconst (1), 0, 0) :: c_Boxes_isEntered_52
def c_Boxes_isEntered_50 : List eg_I := .inl (50, 1, .imul, 0, 0) :: c_Boxes_isEntered_51
def c_Boxes_isEntered_49 : List eg_I := .inl (49, 1, .iload 1, 0, 0) :: c_Boxes_isEntered_50
def c_Boxes_isEntered_48 : List eg_I := .inl (48, 1, .iconst (3), 0, 0) :: c_Boxes_isEntered_49
def c_Boxes_isEntered_47 : List eg_I := .inl (47, 1, .aload 0, 0, 0) :: c_Boxes_isEntered_48
def c_Boxes_isEntered_44 : List eg_I := .inl (44, 3, .ifCond .eq (100), 144, 0) :: c_Boxes_isEntered_47
def c_Boxes_isEntered_41 : List eg_I := .inr (41, 1, 48, n_Boxes_narrow, 3, 0, 0, 0) :: c_Boxes_isEntered_44
def c_Boxes_isEntered_40 : List eg_I := .inl (40, 1, .iaload, 0, 0) :: c_Boxes_isEntered_41
def c_Boxes_isEntered_38 : List eg_I := .inl (38, 2, .iload 4, 0, 0) :: c_Boxes_isEntered_40
def c_Boxes_isEntered_35 : List eg_I := .inl (35, 3, .getfield 43, 8, 0) :: c_Boxes_isEntered_38
def c_Boxes_isEntered_34 : List eg_I := .inl (34, 1, .aload 2, 0, 0) :: c_Boxes_isEntered_35
def c_Boxes_isEntered_33 : List eg_I := .inl (33, 1, .iaload, 0, 0) :: c_Boxes_isEntered_34
def c_Boxes_isEntered_32 : List eg_I := .inl (32, 1, .iload 3, 0, 0) :: c_Boxes_isEntered_33
def c_Boxes_isEntered_29 : List eg_I := .inl (29, 3, .getfield 43, 8, 0) :: c_Boxes_isEntered_32
def c_Boxes_isEntered_28 : List eg_I := .inl (28, 1, .aload 2, 0, 0) :: c_Boxes_isEntered_29
def c_Boxes_isEntered_27 : List eg_I := .inl (27, 1, .imul, 0, 0) :: c_Boxes_isEntered_28
def c_Boxes_isEntered_26 : List eg_I := .inl (26, 1, .iload 1, 0, 0) :: c_Boxes_isEntered_27
def c_Boxes_isEntered_25 : List eg_I := .inl (25, 1, .iconst (3), 0, 0) :: c_Boxes_isEntered_26
def c_Boxes_isEntered_24 : List eg_I := .inl (24, 1, .aload 0, 0, 0) :: c_Boxes_isEntered_25
def c_Boxes_isEntered_21 : List eg_I := .inl (21, 3, .putfield 40, 0, 6) :: c_Boxes_isEntered_24
def c_Boxes_isEntered_20 : List eg_I := .inl (20, 1, .sipush (1), 0, 0) :: c_Boxes_isEntered_21
def c_Boxes_isEntered_19 : List eg_I := .inl (19, 1, .aload 0, 0, 0) :: c_Boxes_isEntered_20
def c_Boxes_isEntered_16 : List eg_I := .inl (16, 3, .putfield 37, 0, 5) :: c_Boxes_isEntered_19
def c_Boxes_isEntered_13 : List eg_I := .inl (13, 3, .sipush (2), 35, 0) :: c_Boxes_isEntered_16
def c_Boxes_isEntered_12 : List eg_I := .inl (12, 1, .aload 0, 0, 0) :: c_Boxes_isEntered_13
def c_Boxes_isEntered_9 : List eg_I := .inl (9, 3, .putfield 32, 0, 4) :: c_Boxes_isEntered_12
def c_Boxes_isEntered_8 : List eg_I := .inl (8, 1, .sipush (1), 0, 0) :: c_Boxes_isEntered_9
def c_Boxes_isEntered_7 : List eg_I := .inl (7, 1, .aload 0, 0, 0) :: c_Boxes_isEntered_8
def c_Boxes_isEntered_4 : List eg_I := .inl (4, 3, .putfield 28, 0, 3) :: c_Boxes_isEntered_7
def c_Boxes_isEntered_1 : List eg_I := .inl (1, 3, .sipush (-1), 26, 0) :: c_Boxes_isEntered_4
def c_Boxes_isEntered_0 : List eg_I := .inl (0, 1, .aload 0, 0, 0) :: c_Boxes_isEntered_1
section
variable {rm : Room} {K : Nat → Nat → Nat → eg_Lo → List Value → List eg_E → Prop} {Q : Option Value → List eg_E → Prop} {kc ks : Nat} {loc : eg_Lo} {st : List Value} {h : List eg_E}
theorem s_Boxes_isEntered_0 {x : Nat} {l : eg_Lo} : wps rm K Q c_Boxes_isEntered_0 kc ks (some (.ref x) :: l) (st) h = wps rm K Q c_Boxes_isEntered_1 kc ks (some (.ref x) :: l) (.ref x :: st) h := rfl
theorem s_Boxes_isEntered_1  : wps rm K Q c_Boxes_isEntered_1 kc ks loc (st) h = wps rm K Q c_Boxes_isEntered_4 kc ks loc (.long (-1) :: st) h := rfl
theorem s_Boxes_isEntered_4 {x : Nat} {v : Value} : wps rm K Q c_Boxes_isEntered_4 kc ks loc (v :: .ref (x + 1) :: st) h = eg_pf h x 0 3 v (fun h9 => wps rm K Q c_Boxes_isEntered_7 kc ks loc (st) h9) := rfl
theorem s_Boxes_isEntered_7 {x : Nat} {l : eg_Lo} : wps rm K Q c_Boxes_isEntered_7 kc ks (some (.ref x) :: l) (st) h = wps rm K Q c_Boxes_isEntered_8 kc ks (some (.ref x) :: l) (.ref x :: st) h := rfl
theorem s_Boxes_isEntered_8  : wps rm K Q c_Boxes_isEntered_8 kc ks loc (st) h = wps rm K Q c_Boxes_isEntered_9 kc ks loc (.long (1) :: st) h := rfl
theorem s_Boxes_isEntered_9 {x : Nat} {v : Value} : wps rm K Q c_Boxes_isEntered_9 kc ks loc (v :: .ref (x + 1) :: st) h = eg_pf h x 0 4 v (fun h9 => wps rm K Q c_Boxes_isEntered_12 kc ks loc (st) h9) := rfl
theorem s_Boxes_isEntered_12 {x : Nat} {l : eg_Lo} : wps rm K Q c_Boxes_isEntered_12 kc ks (some (.ref x) :: l) (st) h = wps rm K Q c_Boxes_isEntered_13 kc ks (some (.ref x) :: l) (.ref x :: st) h := rfl
theorem s_Boxes_isEntered_13  : wps rm K Q c_Boxes_isEntered_13 kc ks loc (st) h = wps rm K Q c_Boxes_isEntered_16 kc ks loc (.long (2) :: st) h := rfl
theorem s_Boxes_isEntered_16 {x : Nat} {v : Value} : wps rm K Q c_Boxes_isEntered_16 kc ks loc (v :: .ref (x + 1) :: st) h = eg_pf h x 0 5 v (fun h9 => wps rm K Q c_Boxes_isEntered_19 kc ks loc (st) h9) := rfl
theorem s_Boxes_isEntered_19 {x : Nat} {l : eg_Lo} : wps rm K Q c_Boxes_isEntered_19 kc ks (some (.ref x) :: l) (st) h = wps rm K Q c_Boxes_isEntered_20 kc ks (some (.ref x) :: l) (.ref x :: st) h := rfl
theorem s_Boxes_isEntered_20  : wps rm K Q c_Boxes_isEntered_20 kc ks loc (st) h = wps rm K Q c_Boxes_isEntered_21 kc ks loc (.long (1) :: st) h := rfl
theorem s_Boxes_isEntered_21 {x : Nat} {v : Value} : wps rm K Q c_Boxes_isEntered_21 kc ks loc (v :: .ref (x + 1) :: st) h = eg_pf h x 0 6 v (fun h9 => wps rm K Q c_Boxes_isEntered_24 kc ks loc (st) h9) := rfl
theorem s_Boxes_isEntered_24 {x : Nat} {l : eg_Lo} : wps rm K Q c_Boxes_isEntered_24 kc ks (some (.ref x) :: l) (st) h = wps rm K Q c_Boxes_isEntered_25 kc ks (some (.ref x) :: l) (.ref x :: st) h := rfl
theorem s_Boxes_isEntered_25  : wps rm K Q c_Boxes_isEntered_25 kc ks loc (st) h = wps rm K Q c_Boxes_isEntered_26 kc ks loc (.int (3) :: st) h := rfl
theorem s_Boxes_isEntered_26 {x : Int32} {l0 : Option Value} {l : eg_Lo} : wps rm K Q c_Boxes_isEntered_26 kc ks (l0 :: some (.int x) :: l) (st) h = wps rm K Q c_Boxes_isEntered_27 kc ks (l0 :: some (.int x) :: l) (.int x :: st) h := rfl
theorem s_Boxes_isEntered_27 {x y : Int32} : wps rm K Q c_Boxes_isEntered_27 kc ks loc (.int y :: .int x :: st) h = wps rm K Q c_Boxes_isEntered_28 kc ks loc (.int (x * y) :: st) h := rfl
theorem s_Boxes_isEntered_28 {x : Nat} {l0 l1 : Option Value} {l : eg_Lo} : wps rm K Q c_Boxes_isEntered_28 kc ks (l0 :: l1 :: some (.ref x) :: l) (st) h = wps rm K Q c_Boxes_isEntered_29 kc ks (l0 :: l1 :: some (.ref x) :: l) (.ref x :: st) h := rfl
theorem s_Boxes_isEntered_29 {x : Nat} : wps rm K Q c_Boxes_isEntered_29 kc ks loc (.ref (x + 1) :: st) h = eg_gf h x 8 0 (fun v => wps rm K Q c_Boxes_isEntered_32 kc ks loc (v :: st) h) := rfl
theorem s_Boxes_isEntered_32 {x : Int32} {l0 l1 l2 : Option Value} {l : eg_Lo} : wps rm K Q c_Boxes_isEntered_32 kc ks (l0 :: l1 :: l2 :: some (.int x) :: l) (st) h = wps rm K Q c_Boxes_isEntered_33 kc ks (l0 :: l1 :: l2 :: some (.int x) :: l) (.int x :: st) h := rfl
theorem s_Boxes_isEntered_33 {x : Nat} {i : Int32} : wps rm K Q c_Boxes_isEntered_33 kc ks loc (.int i :: .ref (x + 1) :: st) h = eg_ia h x i (fun v => wps rm K Q c_Boxes_isEntered_34 kc ks loc (.int v :: st) h) := rfl
theorem s_Boxes_isEntered_34 {x : Nat} {l0 l1 : Option Value} {l : eg_Lo} : wps rm K Q c_Boxes_isEntered_34 kc ks (l0 :: l1 :: some (.ref x) :: l) (st) h = wps rm K Q c_Boxes_isEntered_35 kc ks (l0 :: l1 :: some (.ref x) :: l) (.ref x :: st) h := rfl
theorem s_Boxes_isEntered_35 {x : Nat} : wps rm K Q c_Boxes_isEntered_35 kc ks loc (.ref (x + 1) :: st) h = eg_gf h x 8 0 (fun v => wps rm K Q c_Boxes_isEntered_38 kc ks loc (v :: st) h) := rfl
theorem s_Boxes_isEntered_38 {x : Int32} {l0 l1 l2 l3 : Option Value} {l : eg_Lo} : wps rm K Q c_Boxes_isEntered_38 kc ks (l0 :: l1 :: l2 :: l3 :: some (.int x) :: l) (st) h = wps rm K Q c_Boxes_isEntered_40 kc ks (l0 :: l1 :: l2 :: l3 :: some (.int x) :: l) (.int x :: st) h := rfl
theorem s_Boxes_isEntered_40 {x : Nat} {i : Int32} : wps rm K Q c_Boxes_isEntered_40 kc ks loc (.int i :: .ref (x + 1) :: st) h = eg_ia h x i (fun v => wps rm K Q c_Boxes_isEntered_41 kc ks loc (.int v :: st) h) := rfl
theorem s_Boxes_isEntered_41  {a1 : Value} {a2 : Value} {a3 : Value} {x : Nat} : wps rm K Q c_Boxes_isEntered_41 kc ks loc (a3 :: a2 :: a1 :: .ref (x + 1) :: st) h = (eg_cls h x 0 ∧ st.length ≤ 4 ∧ eg_Cs n_Boxes_narrow (.ref (x + 1) :: [a1, a2, a3]) h (fun v h9 => wps rm K Q c_Boxes_isEntered_44 kc ks loc (v.toList ++ st) h9)) := eg_c1_3
theorem s_Boxes_isEntered_44 {x : Int32} : wps rm K Q c_Boxes_isEntered_44 kc ks loc (.int x :: st) h = ((x = 0 → K 144 kc ks loc st h) ∧ (¬ x = 0 → wps rm K Q c_Boxes_isEntered_47 kc ks loc (st) h)) := rfl
theorem s_Boxes_isEntered_47 {x : Nat} {l : eg_Lo} : wps rm K Q c_Boxes_isEntered_47 kc ks (some (.ref x) :: l) (st) h = wps rm K Q c_Boxes_isEntered_48 kc ks (some (.ref x) :: l) (.ref x :: st) h := rfl
theorem s_Boxes_isEntered_48  : wps rm K Q c_Boxes_isEntered_48 kc ks loc (st) h = wps rm K Q c_Boxes_isEntered_49 kc ks loc (.int (3) :: st) h := rfl
theorem s_Boxes_isEntered_49 {x : Int32} {l0 : Option Value} {l : eg_Lo} : wps rm K Q c_Boxes_isEntered_49 kc ks (l0 :: some (.int x) :: l) (st) h = wps rm K Q c_Boxes_isEntered_50 kc ks (l0 :: some (.int x) :: l) (.int x :: st) h := rfl
theorem s_Boxes_isEntered_50 {x y : Int32} : wps rm K Q c_Boxes_isEntered_50 kc ks loc (.int y :: .int x :: st) h = wps rm K Q c_Boxes_isEntered_51 kc ks loc (.int (x * y) :: st) h := rfl
theorem s_Boxes_isEntered_51  : wps rm K Q c_Boxes_isEntered_51 kc ks loc (st) h = wps rm K Q c_Boxes_isEntered_52 kc ks loc (.int (1) :: st) h := rfl
theorem s_Boxes_isEntered_52 {x y : Int32} : wps rm K Q c_Boxes_isEntered_52 kc ks loc (.int y :: .int x :: st) h = wps rm K Q c_Boxes_isEntered_53 kc ks loc (.int (x + y) :: st) h := rfl
theorem s_Boxes_isEntered_53 {x : Nat} {l0 l1 : Option Value} {l : eg_Lo} : wps rm K Q c_Boxes_isEntered_53 kc ks (l0 :: l1 :: some (.ref x) :: l) (st) h = wps rm K Q c_Boxes_isEntered_54 kc ks (l0 :: l1 :: some (.ref x) :: l) (.ref x :: st) h := rfl
theorem s_Boxes_isEntered_54 {x : Nat} : wps rm K Q c_Boxes_isEntered_54 kc ks loc (.ref (x + 1) :: st) h = eg_gf h x 8 1 (fun v => wps rm K Q c_Boxes_isEntered_57 kc ks loc (v :: st) h) := rfl
theorem s_Boxes_isEntered_57 {x : Int32} {l0 l1 l2 : Option Value} {l : eg_Lo} : wps rm K Q c_Boxes_isEntered_57 kc ks (l0 :: l1 :: l2 :: some (.int x) :: l) (st) h = wps rm K Q c_Boxes_isEntered_58 kc ks (l0 :: l1 :: l2 :: some (.int x) :: l) (.int x :: st) h := rfl
theorem s_Boxes_isEntered_58 {x : Nat} {i : Int32} : wps rm K Q c_Boxes_isEntered_58 kc ks loc (.int i :: .ref (x + 1) :: st) h = eg_ia h x i (fun v => wps rm K Q c_Boxes_isEntered_59 kc ks loc (.int v :: st) h) := rfl
theorem s_Boxes_isEntered_59 {x : Nat} {l0 l1 : Option Value} {l : eg_Lo} : wps rm K Q c_Boxes_isEntered_59 kc ks (l0 :: l1 :: some (.ref x) :: l) (st) h = wps rm K Q c_Boxes_isEntered_60 kc ks (l0 :: l1 :: some (.ref x) :: l) (.ref x :: st) h := rfl
theorem s_Boxes_isEntered_60 {x : Nat} : wps rm K Q c_Boxes_isEntered_60 kc ks loc (.ref (x + 1) :: st) h = eg_gf h x 8 1 (fun v => wps rm K Q c_Boxes_isEntered_63 kc ks loc (v :: st) h) := rfl
theorem s_Boxes_isEntered_63 {x : Int32} {l0 l1 l2 l3 : Option Value} {l : eg_Lo} : wps rm K Q c_Boxes_isEntered_63 kc ks (l0 :: l1 :: l2 :: l3 :: some (.int x) :: l) (st) h = wps rm K Q c_Boxes_isEntered_65 kc ks (l0 :: l1 :: l2 :: l3 :: some (.int x) :: l) (.int x :: st) h := rfl
theorem s_Boxes_isEntered_65 {x : Nat} {i : Int32} : wps rm K Q c_Boxes_isEntered_65 kc ks loc (.int i :: .ref (x + 1) :: st) h = eg_ia h x i (fun v => wps rm K Q c_Boxes_isEntered_66 kc ks loc (.int v :: st) h) := rfl
theorem s_Boxes_isEntered_66  {a1 : Value} {a2 : Value} {a3 : Value} {x : Nat} : wps rm K Q c_Boxes_isEntered_66 kc ks loc (a3 :: a2 :: a1 :: .ref (x + 1) :: st) h = (eg_cls h x 0 ∧ st.length ≤ 4 ∧ eg_Cs n_Boxes_narrow (.ref (x + 1) :: [a1, a2, a3]) h (fun v h9 => wps rm K Q c_Boxes_isEntered_69 kc ks loc (v.toList ++ st) h9)) := eg_c1_3
theorem s_Boxes_isEntered_69 {x : Int32} : wps rm K Q c_Boxes_isEntered_69 kc ks loc (.int x :: st) h = ((x = 0 → K 144 kc ks loc st h) ∧ (¬ x = 0 → wps rm K Q c_Boxes_isEntered_72 kc ks loc (st) h)) := rfl
theorem s_Boxes_isEntered_72 {x : Nat} {l : eg_Lo} : wps rm K Q c_Boxes_isEntered_72 kc ks (some (.ref x) :: l) (st) h = wps rm K Q c_Boxes_isEntered_73 kc ks (some (.ref x) :: l) (.ref x :: st) h := rfl
theorem s_Boxes_isEntered_73  : wps rm K Q c_Boxes_isEntered_73 kc ks loc (st) h = wps rm K Q c_Boxes_isEntered_74 kc ks loc (.int (3) :: st) h := rfl
theorem s_Boxes_isEntered_74 {x : Int32} {l0 : Option Value} {l : eg_Lo} : wps rm K Q c_Boxes_isEntered_74 kc ks (l0 :: some (.int x) :: l) (st) h = wps rm K Q c_Boxes_isEntered_75 kc ks (l0 :: some (.int x) :: l) (.int x :: st) h := rfl
theorem s_Boxes_isEntered_75 {x y : Int32} : wps rm K Q c_Boxes_isEntered_75 kc ks loc (.int y :: .int x :: st) h = wps rm K Q c_Boxes_isEntered_76 kc ks loc (.int (x * y) :: st) h := rfl
theorem s_Boxes_isEntered_76  : wps rm K Q c_Boxes_isEntered_76 kc ks loc (st) h = wps rm K Q c_Boxes_isEntered_77 kc ks loc (.int (2) :: st) h := rfl
theorem s_Boxes_isEntered_77 {x y : Int32} : wps rm K Q c_Boxes_isEntered_77 kc ks loc (.int y :: .int x :: st) h = wps rm K Q c_Boxes_isEntered_78 kc ks loc (.int (x + y) :: st) h := rfl
theorem s_Boxes_isEntered_78 {x : Nat} {l0 l1 : Option Value} {l : eg_Lo} : wps rm K Q c_Boxes_isEntered_78 kc ks (l0 :: l1 :: some (.ref x) :: l) (st) h = wps rm K Q c_Boxes_isEntered_79 kc ks (l0 :: l1 :: some (.ref x) :: l) (.ref x :: st) h := rfl
theorem s_Boxes_isEntered_79 {x : Nat} : wps rm K Q c_Boxes_isEntered_79 kc ks loc (.ref (x + 1) :: st) h = eg_gf h x 8 2 (fun v => wps rm K Q c_Boxes_isEntered_82 kc ks loc (v :: st) h) := rfl
theorem s_Boxes_isEntered_82 {x : Int32} {l0 l1 l2 : Option Value} {l : eg_Lo} : wps rm K Q c_Boxes_isEntered_82 kc ks (l0 :: l1 :: l2 :: some (.int x) :: l) (st) h = wps rm K Q c_Boxes_isEntered_83 kc ks (l0 :: l1 :: l2 :: some (.int x) :: l) (.int x :: st) h := rfl
theorem s_Boxes_isEntered_83 {x : Nat} {i : Int32} : wps rm K Q c_Boxes_isEntered_83 kc ks loc (.int i :: .ref (x + 1) :: st) h = eg_ia h x i (fun v => wps rm K Q c_Boxes_isEntered_84 kc ks loc (.int v :: st) h) := rfl
theorem s_Boxes_isEntered_84 {x : Nat} {l0 l1 : Option Value} {l : eg_Lo} : wps rm K Q c_Boxes_isEntered_84 kc ks (l0 :: l1 :: some (.ref x) :: l) (st) h = wps rm K Q c_Boxes_isEntered_85 kc ks (l0 :: l1 :: some (.ref x) :: l) (.ref x :: st) h := rfl
theorem s_Boxes_isEntered_85 {x : Nat} : wps rm K Q c_Boxes_isEntered_85 kc ks loc (.ref (x + 1) :: st) h = eg_gf h x 8 2 (fun v => wps rm K Q c_Boxes_isEntered_88 kc ks loc (v :: st) h) := rfl
theorem s_Boxes_isEntered_88 {x : Int32} {l0 l1 l2 l3 : Option Value} {l : eg_Lo} : wps rm K Q c_Boxes_isEntered_88 kc ks (l0 :: l1 :: l2 :: l3 :: some (.int x) :: l) (st) h = wps rm K Q c_Boxes_isEntered_90 kc ks (l0 :: l1 :: l2 :: l3 :: some (.int x) :: l) (.int x :: st) h := rfl
theorem s_Boxes_isEntered_90 {x : Nat} {i : Int32} : wps rm K Q c_Boxes_isEntered_90 kc ks loc (.int i :: .ref (x + 1) :: st) h = eg_ia h x i (fun v => wps rm K Q c_Boxes_isEntered_91 kc ks loc (.int v :: st) h) := rfl
theorem s_Boxes_isEntered_91  {a1 : Value} {a2 : Value} {a3 : Value} {x : Nat} : wps rm K Q c_Boxes_isEntered_91 kc ks loc (a3 :: a2 :: a1 :: .ref (x + 1) :: st) h = (eg_cls h x 0 ∧ st.length ≤ 4 ∧ eg_Cs n_Boxes_narrow (.ref (x + 1) :: [a1, a2, a3]) h (fun v h9 => wps rm K Q c_Boxes_isEntered_94 kc ks loc (v.toList ++ st) h9)) := eg_c1_3
theorem s_Boxes_isEntered_94 {x : Int32} : wps rm K Q c_Boxes_isEntered_94 kc ks loc (.int x :: st) h = ((x = 0 → K 144 kc ks loc st h) ∧ (¬ x = 0 → wps rm K Q c_Boxes_isEntered_97 kc ks loc (st) h)) := rfl
theorem s_Boxes_isEntered_97 {x : Nat} {l : eg_Lo} : wps rm K Q c_Boxes_isEntered_97 kc ks (some (.ref x) :: l) (st) h = wps rm K Q c_Boxes_isEntered_98 kc ks (some (.ref x) :: l) (.ref x :: st) h := rfl
theorem s_Boxes_isEntered_98 {x : Nat} : wps rm K Q c_Boxes_isEntered_98 kc ks loc (.ref (x + 1) :: st) h = eg_gf h x 0 3 (fun v => wps rm K Q c_Boxes_isEntered_101 kc ks loc (v :: st) h) := rfl
theorem s_Boxes_isEntered_101 {x : Nat} {l : eg_Lo} : wps rm K Q c_Boxes_isEntered_101 kc ks (some (.ref x) :: l) (st) h = wps rm K Q c_Boxes_isEntered_102 kc ks (some (.ref x) :: l) (.ref x :: st) h := rfl
theorem s_Boxes_isEntered_102 {x : Nat} : wps rm K Q c_Boxes_isEntered_102 kc ks loc (.ref (x + 1) :: st) h = eg_gf h x 0 6 (fun v => wps rm K Q c_Boxes_isEntered_105 kc ks loc (v :: st) h) := rfl
theorem s_Boxes_isEntered_105 {x y : Int64} : wps rm K Q c_Boxes_isEntered_105 kc ks loc (.long y :: .long x :: st) h = wps rm K Q c_Boxes_isEntered_106 kc ks loc (.long (x * y) :: st) h := rfl
theorem s_Boxes_isEntered_106 {x : Nat} {l : eg_Lo} : wps rm K Q c_Boxes_isEntered_106 kc ks (some (.ref x) :: l) (st) h = wps rm K Q c_Boxes_isEntered_107 kc ks (some (.ref x) :: l) (.ref x :: st) h := rfl
theorem s_Boxes_isEntered_107 {x : Nat} : wps rm K Q c_Boxes_isEntered_107 kc ks loc (.ref (x + 1) :: st) h = eg_gf h x 0 5 (fun v => wps rm K Q c_Boxes_isEntered_110 kc ks loc (v :: st) h) := rfl
theorem s_Boxes_isEntered_110 {x : Nat} {l : eg_Lo} : wps rm K Q c_Boxes_isEntered_110 kc ks (some (.ref x) :: l) (st) h = wps rm K Q c_Boxes_isEntered_111 kc ks (some (.ref x) :: l) (.ref x :: st) h := rfl
theorem s_Boxes_isEntered_111 {x : Nat} : wps rm K Q c_Boxes_isEntered_111 kc ks loc (.ref (x + 1) :: st) h = eg_gf h x 0 4 (fun v => wps rm K Q c_Boxes_isEntered_114 kc ks loc (v :: st) h) := rfl
theorem s_Boxes_isEntered_114 {x y : Int64} : wps rm K Q c_Boxes_isEntered_114 kc ks loc (.long y :: .long x :: st) h = wps rm K Q c_Boxes_isEntered_115 kc ks loc (.long (x * y) :: st) h := rfl
theorem s_Boxes_isEntered_115 {x y : Int64} : wps rm K Q c_Boxes_isEntered_115 kc ks loc (.long y :: .long x :: st) h = wps rm K Q c_Boxes_isEntered_116 kc ks loc (.int (lg_cmp x y) :: st) h := rfl
theorem s_Boxes_isEntered_116 {x : Int32} : wps rm K Q c_Boxes_isEntered_116 kc ks loc (.int x :: st) h = ((0 ≤ x → K 144 kc ks loc st h) ∧ (¬ 0 ≤ x → wps rm K Q c_Boxes_isEntered_119 kc ks loc (st) h)) := rfl
theorem s_Boxes_isEntered_119 {x : Nat} {l : eg_Lo} : wps rm K Q c_Boxes_isEntered_119 kc ks (some (.ref x) :: l) (st) h = wps rm K Q c_Boxes_isEntered_120 kc ks (some (.ref x) :: l) (.ref x :: st) h := rfl
theorem s_Boxes_isEntered_120 {x : Nat} : wps rm K Q c_Boxes_isEntered_120 kc ks loc (.ref (x + 1) :: st) h = eg_gf h x 0 5 (fun v => wps rm K Q c_Boxes_isEntered_123 kc ks loc (v :: st) h) := rfl
theorem s_Boxes_isEntered_123  : wps rm K Q c_Boxes_isEntered_123 kc ks loc (st) h = wps rm K Q c_Boxes_isEntered_124 kc ks loc (.long (0) :: st) h := rfl
theorem s_Boxes_isEntered_124 {x y : Int64} : wps rm K Q c_Boxes_isEntered_124 kc ks loc (.long y :: .long x :: st) h = wps rm K Q c_Boxes_isEntered_125 kc ks loc (.int (lg_cmp x y) :: st) h := rfl
theorem s_Boxes_isEntered_125 {x : Int32} : wps rm K Q c_Boxes_isEntered_125 kc ks loc (.int x :: st) h = ((x ≤ 0 → K 144 kc ks loc st h) ∧ (¬ x ≤ 0 → wps rm K Q c_Boxes_isEntered_128 kc ks loc (st) h)) := rfl
theorem s_Boxes_isEntered_128 {x : Nat} {l : eg_Lo} : wps rm K Q c_Boxes_isEntered_128 kc ks (some (.ref x) :: l) (st) h = wps rm K Q c_Boxes_isEntered_129 kc ks (some (.ref x) :: l) (.ref x :: st) h := rfl
theorem s_Boxes_isEntered_129 {x : Nat} : wps rm K Q c_Boxes_isEntered_129 kc ks loc (.ref (x + 1) :: st) h = eg_gf h x 0 3 (fun v => wps rm K Q c_Boxes_isEntered_132 kc ks loc (v :: st) h) := rfl
theorem s_Boxes_isEntered_132 {x : Nat} {l : eg_Lo} : wps rm K Q c_Boxes_isEntered_132 kc ks (some (.ref x) :: l) (st) h = wps rm K Q c_Boxes_isEntered_133 kc ks (some (.ref x) :: l) (.ref x :: st) h := rfl
theorem s_Boxes_isEntered_133 {x : Nat} : wps rm K Q c_Boxes_isEntered_133 kc ks loc (.ref (x + 1) :: st) h = eg_gf h x 0 4 (fun v => wps rm K Q c_Boxes_isEntered_136 kc ks loc (v :: st) h) := rfl
theorem s_Boxes_isEntered_136 {x y : Int64} : wps rm K Q c_Boxes_isEntered_136 kc ks loc (.long y :: .long x :: st) h = wps rm K Q c_Boxes_isEntered_137 kc ks loc (.int (lg_cmp x y) :: st) h := rfl
theorem s_Boxes_isEntered_137 {x : Int32} : wps rm K Q c_Boxes_isEntered_137 kc ks loc (.int x :: st) h = ((0 ≤ x → K 144 kc ks loc st h) ∧ (¬ 0 ≤ x → wps rm K Q c_Boxes_isEntered_140 kc ks loc (st) h)) := rfl
theorem s_Boxes_isEntered_140  : wps rm K Q c_Boxes_isEntered_140 kc ks loc (st) h = wps rm K Q c_Boxes_isEntered_141 kc ks loc (.int (1) :: st) h := rfl
theorem s_Boxes_isEntered_141  : wps rm K Q c_Boxes_isEntered_141 kc ks loc (st) h = K 145 kc ks loc st h := rfl
theorem s_Boxes_isEntered_144  : wps rm K Q c_Boxes_isEntered_144 kc ks loc (st) h = wps rm K Q c_Boxes_isEntered_145 kc ks loc (.int (0) :: st) h := rfl
theorem s_Boxes_isEntered_145 {x : Int32} : wps rm K Q c_Boxes_isEntered_145 kc ks loc ([.int x]) h = (kc = rm.cells ∧ ((1 : Nat) = 1 → x = 0 ∨ x = 1) ∧ Q (some (.int x)) h) := rfl
def T_Boxes_isEntered : List (Nat × List eg_I) := [(144, c_Boxes_isEntered_144), (145, c_Boxes_isEntered_145)]
theorem j_Boxes_isEntered_144 {R : Nat → Nat → Nat → eg_Lo → List Value → List eg_E → Prop} {f pc0 : Nat} : eg_run rm R Q T_Boxes_isEntered (f + 1) 144 kc ks loc st h = wps rm (eg_run rm R Q T_Boxes_isEntered f) Q c_Boxes_isEntered_144 kc ks loc st h := rfl
theorem j_Boxes_isEntered_145 {R : Nat → Nat → Nat → eg_Lo → List Value → List eg_E → Prop} {f pc0 : Nat} : eg_run rm R Q T_Boxes_isEntered (f + 1) 145 kc ks loc st h = wps rm (eg_run rm R Q T_Boxes_isEntered f) Q c_Boxes_isEntered_145 kc ks loc st h := rfl
end
theorem q_Boxes_isEntered : (T_Boxes_isEntered.all fun q => eg_seq m_Boxes_isEntered q.1 q.2) = true := by decide +kernel
theorem b_Boxes_isEntered {as : List Value} {h : List eg_E} {Q : Option Value → List eg_E → Prop} (hf : (eg_fl as).length ≤ 5) (hw : wps (eg_rm m_Boxes_isEntered) (eg_run (eg_rm m_Boxes_isEntered) (eg_R m_Boxes_isEntered Q (h.length + 0)) Q T_Boxes_isEntered 4) Q c_Boxes_isEntered_0 0 0 (eg_entry 5 as) [] h) : eg_Runs n_Boxes_isEntered as h Q := eg_begin (d := m_Boxes_isEntered) rfl (by decide) (by decide +kernel) q_Boxes_isEntered hf hw
/-! ===== Boxes_narrow ===== -/
def c_Boxes_narrow_157 : List eg_I := .inl (157, 1, .ireturn, 0, 1) :: []
def c_Boxes_narrow_156 : List eg_I := .inl (156, 1, .iconst (1), 0, 0) :: c_Boxes_narrow_157
def c_Boxes_narrow_153 : List eg_I := .inl (153, 3, .putfield 40, 0, 6) :: c_Boxes_narrow_156
def c_Boxes_narrow_151 : List eg_I := .inl (151, 2, .lload 4, 0, 0) :: c_Boxes_narrow_153
def c_Boxes_narrow_150 : List eg_I := .inl (150, 1, .aload 0, 0, 0) :: c_Boxes_narrow_151
def c_Boxes_narrow_147 : List eg_I := .inl (147, 3, .putfield 37, 0, 5) :: c_Boxes_narrow_150
def c_Boxes_narrow_145 : List eg_I := .inl (145, 2, .lload 8, 0, 0) :: c_Boxes_narrow_147
def c_Boxes_narrow_144 : List eg_I := .inl (144, 1, .aload 0, 0, 0) :: c_Boxes_narrow_145
def c_Boxes_narrow_141 : List eg_I := .inl (141, 3, .ifCond .ge (15), 156, 0) :: c_Boxes_narrow_144
def c_Boxes_narrow_140 : List eg_I := .inl (140, 1, .lcmp, 0, 0) :: c_Boxes_narrow_141
def c_Boxes_narrow_139 : List eg_I := .inl (139, 1, .lmul, 0, 0) :: c_Boxes_narrow_140
def c_Boxes_narrow_137 : List eg_I := .inl (137, 2, .lload 4, 0, 0) :: c_Boxes_narrow_139
def c_Boxes_narrow_134 : List eg_I := .inl (134, 3, .getfield 37, 0, 5) :: c_Boxes_narrow_137
def c_Boxes_narrow_133 : List eg_I := .inl (133, 1, .aload 0, 0, 0) :: c_Boxes_narrow_134
def c_Boxes_narrow_132 : List eg_I := .inl (132, 1, .lmul, 0, 0) :: c_Boxes_narrow_133
def c_Boxes_narrow_129 : List eg_I := .inl (129, 3, .getfield 40, 0, 6) :: c_Boxes_narrow_132
def c_Boxes_narrow_128 : List eg_I := .inl (128, 1, .aload 0, 0, 0) :: c_Boxes_narrow_129
def c_Boxes_narrow_126 : List eg_I := .inl (126, 2, .lload 8, 0, 0) :: c_Boxes_narrow_128
def c_Boxes_narrow_123 : List eg_I := .inl (123, 3, .putfield 32, 0, 4) :: c_Boxes_narrow_126
def c_Boxes_narrow_121 : List eg_I := .inl (121, 2, .lload 4, 0, 0) :: c_Boxes_narrow_123
def c_Boxes_narrow_120 : List eg_I := .inl (120, 1, .aload 0, 0, 0) :: c_Boxes_narrow_121
def c_Boxes_narrow_117 : List eg_I := .inl (117, 3, .putfield 28, 0, 3) :: c_Boxes_narrow_120
def c_Boxes_narrow_115 : List eg_I := .inl (115, 2, .lload 6, 0, 0) :: c_Boxes_narrow_117
def c_Boxes_narrow_114 : List eg_I := .inl (114, 1, .aload 0, 0, 0) :: c_Boxes_narrow_115
def c_Boxes_narrow_111 : List eg_I := .inl (111, 3, .ifCond .le (15), 126, 0) :: c_Boxes_narrow_114
def c_Boxes_narrow_110 : List eg_I := .inl (110, 1, .lcmp, 0, 0) :: c_Boxes_narrow_111
def c_Boxes_narrow_109 : List eg_I := .inl (109, 1, .lmul, 0, 0) :: c_Boxes_narrow_110
def c_Boxes_narrow_107 : List eg_I := .inl (107, 2, .lload 4, 0, 0) :: c_Boxes_narrow_109
def c_Boxes_narrow_104 : List eg_I := .inl (104, 3, .getfield 28, 0, 3) :: c_Boxes_narrow_107
def c_Boxes_narrow_103 : List eg_I := .inl (103, 1, .aload 0, 0, 0) :: c_Boxes_narrow_104
def c_Boxes_narrow_102 : List eg_I := .inl (102, 1, .lmul, 0, 0) :: c_Boxes_narrow_103
def c_Boxes_narrow_99 : List eg_I := .inl (99, 3, .getfield 32, 0, 4) :: c_Boxes_narrow_102
def c_Boxes_narrow_98 : List eg_I := .inl (98, 1, .aload 0, 0, 0) :: c_Boxes_narrow_99
def c_Boxes_narrow_96 : List eg_I := .inl (96, 2, .lload 6, 0, 0) :: c_Boxes_narrow_98
def c_Boxes_narrow_94 : List eg_I := .inl (94, 2, .lstore 8, 0, 0) :: c_Boxes_narrow_96
def c_Boxes_narrow_93 : List eg_I := .inl (93, 1, .i2l, 0, 0) :: c_Boxes_narrow_94
def c_Boxes_narrow_92 : List eg_I := .inl (92, 1, .isub, 0, 0) :: c_Boxes_narrow_93
def c_Boxes_narrow_91 : List eg_I := .inl (91, 1, .iaload, 0, 0) :: c_Boxes_narrow_92
def c_Boxes_narrow_90 : List eg_I := .inl (90, 1, .iload 1, 0, 0) :: c_Boxes_narrow_91
def c_Boxes_narrow_87 : List eg_I := .inl (87, 3, .getfield 9, 0, 1) :: c_Boxes_narrow_90
def c_Boxes_narrow_86 : List eg_I := .inl (86, 1, .aload 0, 0, 0) :: c_Boxes_narrow_87
def c_Boxes_narrow_85 : List eg_I := .inl (85, 1, .iload 2, 0, 0) :: c_Boxes_narrow_86
def c_Boxes_narrow_82 : List eg_I := .inl (82, 3, .goto (12), 94, 0) :: []
def c_Boxes_narrow_81 : List eg_I := .inl (81, 1, .i2l, 0, 0) :: c_Boxes_narrow_82
def c_Boxes_narrow_80 : List eg_I := .inl (80, 1, .isub, 0, 0) :: c_Boxes_narrow_81
def c_Boxes_narrow_79 : List eg_I := .inl (79, 1, .iload 2, 0, 0) :: c_Boxes_narrow_80
def c_Boxes_narrow_78 : List eg_I := .inl (78, 1, .iaload, 0, 0) :: c_Boxes_narrow_79
def c_Boxes_narrow_77 : List eg_I := .inl (77, 1, .iload 1, 0, 0) :: c_Boxes_narrow_78
def c_Boxes_narrow_74 : List eg_I := .inl (74, 3, .getfield 15, 0, 2) :: c_Boxes_narrow_77
def c_Boxes_narrow_73 : List eg_I := .inl (73, 1, .aload 0, 0, 0) :: c_Boxes_narrow_74
def c_Boxes_narrow_70 : List eg_I := .inl (70, 3, .if_icmp .le (15), 85, 0) :: c_Boxes_narrow_73
def c_Boxes_narrow_69 : List eg_I := .inl (69, 1, .iload 2, 0, 0) :: c_Boxes_narrow_70
def c_Boxes_narrow_68 : List eg_I := .inl (68, 1, .iload 3, 0, 0) :: c_Boxes_narrow_69
def c_Boxes_narrow_66 : List eg_I := .inl (66, 2, .lstore 6, 0, 0) :: c_Boxes_narrow_68
def c_Boxes_narrow_65 : List eg_I := .inl (65, 1, .i2l, 0, 0) :: c_Boxes_narrow_66
def c_Boxes_narrow_64 : List eg_I := .inl (64, 1, .isub, 0, 0) :: c_Boxes_narrow_65
def c_Boxes_narrow_63 : List eg_I := .inl (63, 1, .iaload, 0, 0) :: c_Boxes_narrow_64
def c_Boxes_narrow_62 : List eg_I := .inl (62, 1, .iload 1, 0, 0) :: c_Boxes_narrow_63
def c_Boxes_narrow_59 : List eg_I := .inl (59, 3, .getfield 15, 0, 2) :: c_Boxes_narrow_62
def c_Boxes_narrow_58 : List eg_I := .inl (58, 1, .aload 0, 0, 0) :: c_Boxes_narrow_59
def c_Boxes_narrow_57 : List eg_I := .inl (57, 1, .iload 2, 0, 0) :: c_Boxes_narrow_58
def c_Boxes_narrow_54 : List eg_I := .inl (54, 3, .goto (12), 66, 0) :: []
def c_Boxes_narrow_53 : List eg_I := .inl (53, 1, .i2l, 0, 0) :: c_Boxes_narrow_54
def c_Boxes_narrow_52 : List eg_I := .inl (52, 1, .isub, 0, 0) :: c_Boxes_narrow_53
def c_Boxes_narrow_51 : List eg_I := .inl (51, 1, .iload 2, 0, 0) :: c_Boxes_narrow_52
def c_Boxes_narrow_50 : List eg_I := .inl (50, 1, .iaload, 0, 0) :: c_Boxes_narrow_51
def c_Boxes_narrow_49 : List eg_I := .inl (49, 1, .iload 1, 0, 0) :: c_Boxes_narrow_50
def c_Boxes_narrow_46 : List eg_I := .inl (46, 3, .getfield 9, 0, 1) :: c_Boxes_narrow_49
def c_Boxes_narrow_45 : List eg_I := .inl (45, 1, .aload 0, 0, 0) :: c_Boxes_narrow_46
def c_Boxes_narrow_42 : List eg_I := .inl (42, 3, .if_icmp .le (15), 57, 0) :: c_Boxes_narrow_45
def c_Boxes_narrow_41 : List eg_I := .inl (41, 1, .iload 2, 0, 0) :: c_Boxes_narrow_42
def c_Boxes_narrow_40 : List eg_I := .inl (40, 1, .iload 3, 0, 0) :: c_Boxes_narrow_41
def c_Boxes_narrow_38 : List eg_I := .inl (38, 2, .lstore 4, 0, 0) :: c_Boxes_narrow_40
def c_Boxes_narrow_37 : List eg_I := .inl (37, 1, .i2l, 0, 0) :: c_Boxes_narrow_38
def c_Boxes_narrow_34 : List eg_I := .inr (34, 0, 58, n_Math_abs_I, 1, 13, 0, 0) :: c_Boxes_narrow_37
def c_Boxes_narrow_33 : List eg_I := .inl (33, 1, .isub, 0, 0) :: c_Boxes_narrow_34
def c_Boxes_narrow_32 : List eg_I := .inl (32, 1, .iload 2, 0, 0) :: c_Boxes_narrow_33
def c_Boxes_narrow_31 : List eg_I := .inl (31, 1, .iload 3, 0, 0) :: c_Boxes_narrow_32
def c_Boxes_narrow_30 : List eg_I := .inl (30, 1, .ireturn, 0, 1) :: []
def c_Boxes_narrow_29 : List eg_I := .inl (29, 1, .iconst (0), 0, 0) :: c_Boxes_narrow_30
def c_Boxes_narrow_26 : List eg_I := .inl (26, 3, .goto (4), 30, 0) :: []
def c_Boxes_narrow_25 : List eg_I := .inl (25, 1, .iconst (1), 0, 0) :: c_Boxes_narrow_26
def c_Boxes_narrow_22 : List eg_I := .inl (22, 3, .if_icmp .ge (7), 29, 0) :: c_Boxes_narrow_25
def c_Boxes_narrow_21 : List eg_I := .inl (21, 1, .iaload, 0, 0) :: c_Boxes_narrow_22
def c_Boxes_narrow_20 : List eg_I := .inl (20, 1, .iload 1, 0, 0) :: c_Boxes_narrow_21
def c_Boxes_narrow_17 : List eg_I := .inl (17, 3, .getfield 15, 0, 2) :: c_Boxes_narrow_20
def c_Boxes_narrow_16 : List eg_I := .inl (16, 1, .aload 0, 0, 0) :: c_Boxes_narrow_17
def c_Boxes_narrow_15 : List eg_I := .inl (15, 1, .iload 2, 0, 0) :: c_Boxes_narrow_16
def c_Boxes_narrow_12 : List eg_I := .inl (12, 3, .if_icmp .ge (17), 29, 0) :: c_Boxes_narrow_15
def c_Boxes_narrow_11 : List eg_I := .inl (11, 1, .iload 2, 0, 0) :: c_Boxes_narrow_12
def c_Boxes_narrow_10 : List eg_I := .inl (10, 1, .iaload, 0, 0) :: c_Boxes_narrow_11
def c_Boxes_narrow_9 : List eg_I := .inl (9, 1, .iload 1, 0, 0) :: c_Boxes_narrow_10
def c_Boxes_narrow_6 : List eg_I := .inl (6, 3, .getfield 9, 0, 1) :: c_Boxes_narrow_9
def c_Boxes_narrow_5 : List eg_I := .inl (5, 1, .aload 0, 0, 0) :: c_Boxes_narrow_6
def c_Boxes_narrow_2 : List eg_I := .inl (2, 3, .if_icmp .ne (29), 31, 0) :: c_Boxes_narrow_5
def c_Boxes_narrow_1 : List eg_I := .inl (1, 1, .iload 3, 0, 0) :: c_Boxes_narrow_2
def c_Boxes_narrow_0 : List eg_I := .inl (0, 1, .iload 2, 0, 0) :: c_Boxes_narrow_1
section
variable {rm : Room} {K : Nat → Nat → Nat → eg_Lo → List Value → List eg_E → Prop} {Q : Option Value → List eg_E → Prop} {kc ks : Nat} {loc : eg_Lo} {st : List Value} {h : List eg_E}
theorem s_Boxes_narrow_0 {x : Int32} {l0 l1 : Option Value} {l : eg_Lo} : wps rm K Q c_Boxes_narrow_0 kc ks (l0 :: l1 :: some (.int x) :: l) (st) h = wps rm K Q c_Boxes_narrow_1 kc ks (l0 :: l1 :: some (.int x) :: l) (.int x :: st) h := rfl
theorem s_Boxes_narrow_1 {x : Int32} {l0 l1 l2 : Option Value} {l : eg_Lo} : wps rm K Q c_Boxes_narrow_1 kc ks (l0 :: l1 :: l2 :: some (.int x) :: l) (st) h = wps rm K Q c_Boxes_narrow_2 kc ks (l0 :: l1 :: l2 :: some (.int x) :: l) (.int x :: st) h := rfl
theorem s_Boxes_narrow_2 {x y : Int32} : wps rm K Q c_Boxes_narrow_2 kc ks loc (.int y :: .int x :: st) h = ((¬ x = y → K 31 kc ks loc st h) ∧ (x = y → wps rm K Q c_Boxes_narrow_5 kc ks loc (st) h)) := rfl
theorem s_Boxes_narrow_5 {x : Nat} {l : eg_Lo} : wps rm K Q c_Boxes_narrow_5 kc ks (some (.ref x) :: l) (st) h = wps rm K Q c_Boxes_narrow_6 kc ks (some (.ref x) :: l) (.ref x :: st) h := rfl
theorem s_Boxes_narrow_6 {x : Nat} : wps rm K Q c_Boxes_narrow_6 kc ks loc (.ref (x + 1) :: st) h = eg_gf h x 0 1 (fun v => wps rm K Q c_Boxes_narrow_9 kc ks loc (v :: st) h) := rfl
theorem s_Boxes_narrow_9 {x : Int32} {l0 : Option Value} {l : eg_Lo} : wps rm K Q c_Boxes_narrow_9 kc ks (l0 :: some (.int x) :: l) (st) h = wps rm K Q c_Boxes_narrow_10 kc ks (l0 :: some (.int x) :: l) (.int x :: st) h := rfl
theorem s_Boxes_narrow_10 {x : Nat} {i : Int32} : wps rm K Q c_Boxes_narrow_10 kc ks loc (.int i :: .ref (x + 1) :: st) h = eg_ia h x i (fun v => wps rm K Q c_Boxes_narrow_11 kc ks loc (.int v :: st) h) := rfl
theorem s_Boxes_narrow_11 {x : Int32} {l0 l1 : Option Value} {l : eg_Lo} : wps rm K Q c_Boxes_narrow_11 kc ks (l0 :: l1 :: some (.int x) :: l) (st) h = wps rm K Q c_Boxes_narrow_12 kc ks (l0 :: l1 :: some (.int x) :: l) (.int x :: st) h := rfl
theorem s_Boxes_narrow_12 {x y : Int32} : wps rm K Q c_Boxes_narrow_12 kc ks loc (.int y :: .int x :: st) h = ((y ≤ x → K 29 kc ks loc st h) ∧ (¬ y ≤ x → wps rm K Q c_Boxes_narrow_15 kc ks loc (st) h)) := rfl
theorem s_Boxes_narrow_15 {x : Int32} {l0 l1 : Option Value} {l : eg_Lo} : wps rm K Q c_Boxes_narrow_15 kc ks (l0 :: l1 :: some (.int x) :: l) (st) h = wps rm K Q c_Boxes_narrow_16 kc ks (l0 :: l1 :: some (.int x) :: l) (.int x :: st) h := rfl
theorem s_Boxes_narrow_16 {x : Nat} {l : eg_Lo} : wps rm K Q c_Boxes_narrow_16 kc ks (some (.ref x) :: l) (st) h = wps rm K Q c_Boxes_narrow_17 kc ks (some (.ref x) :: l) (.ref x :: st) h := rfl
theorem s_Boxes_narrow_17 {x : Nat} : wps rm K Q c_Boxes_narrow_17 kc ks loc (.ref (x + 1) :: st) h = eg_gf h x 0 2 (fun v => wps rm K Q c_Boxes_narrow_20 kc ks loc (v :: st) h) := rfl
theorem s_Boxes_narrow_20 {x : Int32} {l0 : Option Value} {l : eg_Lo} : wps rm K Q c_Boxes_narrow_20 kc ks (l0 :: some (.int x) :: l) (st) h = wps rm K Q c_Boxes_narrow_21 kc ks (l0 :: some (.int x) :: l) (.int x :: st) h := rfl
theorem s_Boxes_narrow_21 {x : Nat} {i : Int32} : wps rm K Q c_Boxes_narrow_21 kc ks loc (.int i :: .ref (x + 1) :: st) h = eg_ia h x i (fun v => wps rm K Q c_Boxes_narrow_22 kc ks loc (.int v :: st) h) := rfl
theorem s_Boxes_narrow_22 {x y : Int32} : wps rm K Q c_Boxes_narrow_22 kc ks loc (.int y :: .int x :: st) h = ((y ≤ x → K 29 kc ks loc st h) ∧ (¬ y ≤ x → wps rm K Q c_Boxes_narrow_25 kc ks loc (st) h)) := rfl
theorem s_Boxes_narrow_25  : wps rm K Q c_Boxes_narrow_25 kc ks loc (st) h = wps rm K Q c_Boxes_narrow_26 kc ks loc (.int (1) :: st) h := rfl
theorem s_Boxes_narrow_26  : wps rm K Q c_Boxes_narrow_26 kc ks loc (st) h = K 30 kc ks loc st h := rfl
theorem s_Boxes_narrow_29  : wps rm K Q c_Boxes_narrow_29 kc ks loc (st) h = wps rm K Q c_Boxes_narrow_30 kc ks loc (.int (0) :: st) h := rfl
theorem s_Boxes_narrow_30 {x : Int32} : wps rm K Q c_Boxes_narrow_30 kc ks loc ([.int x]) h = (kc = rm.cells ∧ ((1 : Nat) = 1 → x = 0 ∨ x = 1) ∧ Q (some (.int x)) h) := rfl
theorem s_Boxes_narrow_31 {x : Int32} {l0 l1 l2 : Option Value} {l : eg_Lo} : wps rm K Q c_Boxes_narrow_31 kc ks (l0 :: l1 :: l2 :: some (.int x) :: l) (st) h = wps rm K Q c_Boxes_narrow_32 kc ks (l0 :: l1 :: l2 :: some (.int x) :: l) (.int x :: st) h := rfl
theorem s_Boxes_narrow_32 {x : Int32} {l0 l1 : Option Value} {l : eg_Lo} : wps rm K Q c_Boxes_narrow_32 kc ks (l0 :: l1 :: some (.int x) :: l) (st) h = wps rm K Q c_Boxes_narrow_33 kc ks (l0 :: l1 :: some (.int x) :: l) (.int x :: st) h := rfl
theorem s_Boxes_narrow_33 {x y : Int32} : wps rm K Q c_Boxes_narrow_33 kc ks loc (.int y :: .int x :: st) h = wps rm K Q c_Boxes_narrow_34 kc ks loc (.int (x - y) :: st) h := rfl
theorem s_Boxes_narrow_34  {a1 : Value} : wps rm K Q c_Boxes_narrow_34 kc ks loc (a1 :: st) h = (st.length ≤ 4 ∧ eg_Cs n_Math_abs_I [a1] h (fun v h9 => wps rm K Q c_Boxes_narrow_37 kc ks loc (v.toList ++ st) h9)) := eg_c0_1
theorem s_Boxes_narrow_37 {x : Int32} : wps rm K Q c_Boxes_narrow_37 kc ks loc (.int x :: st) h = wps rm K Q c_Boxes_narrow_38 kc ks loc (.long (x.toInt64) :: st) h := rfl
theorem s_Boxes_narrow_38 {x : Int64} : wps rm K Q c_Boxes_narrow_38 kc ks loc (.long x :: st) h = wps rm K Q c_Boxes_narrow_40 kc ks (eg_set2 loc 4 (.long x)) (st) h := rfl
theorem s_Boxes_narrow_40 {x : Int32} {l0 l1 l2 : Option Value} {l : eg_Lo} : wps rm K Q c_Boxes_narrow_40 kc ks (l0 :: l1 :: l2 :: some (.int x) :: l) (st) h = wps rm K Q c_Boxes_narrow_41 kc ks (l0 :: l1 :: l2 :: some (.int x) :: l) (.int x :: st) h := rfl
theorem s_Boxes_narrow_41 {x : Int32} {l0 l1 : Option Value} {l : eg_Lo} : wps rm K Q c_Boxes_narrow_41 kc ks (l0 :: l1 :: some (.int x) :: l) (st) h = wps rm K Q c_Boxes_narrow_42 kc ks (l0 :: l1 :: some (.int x) :: l) (.int x :: st) h := rfl
theorem s_Boxes_narrow_42 {x y : Int32} : wps rm K Q c_Boxes_narrow_42 kc ks loc (.int y :: .int x :: st) h = ((x ≤ y → K 57 kc ks loc st h) ∧ (¬ x ≤ y → wps rm K Q c_Boxes_narrow_45 kc ks loc (st) h)) := rfl
theorem s_Boxes_narrow_45 {x : Nat} {l : eg_Lo} : wps rm K Q c_Boxes_narrow_45 kc ks (some (.ref x) :: l) (st) h = wps rm K Q c_Boxes_narrow_46 kc ks (some (.ref x) :: l) (.ref x :: st) h := rfl
theorem s_Boxes_narrow_46 {x : Nat} : wps rm K Q c_Boxes_narrow_46 kc ks loc (.ref (x + 1) :: st) h = eg_gf h x 0 1 (fun v => wps rm K Q c_Boxes_narrow_49 kc ks loc (v :: st) h) := rfl
theorem s_Boxes_narrow_49 {x : Int32} {l0 : Option Value} {l : eg_Lo} : wps rm K Q c_Boxes_narrow_49 kc ks (l0 :: some (.int x) :: l) (st) h = wps rm K Q c_Boxes_narrow_50 kc ks (l0 :: some (.int x) :: l) (.int x :: st) h := rfl
theorem s_Boxes_narrow_50 {x : Nat} {i : Int32} : wps rm K Q c_Boxes_narrow_50 kc ks loc (.int i :: .ref (x + 1) :: st) h = eg_ia h x i (fun v => wps rm K Q c_Boxes_narrow_51 kc ks loc (.int v :: st) h) := rfl
theorem s_Boxes_narrow_51 {x : Int32} {l0 l1 : Option Value} {l : eg_Lo} : wps rm K Q c_Boxes_narrow_51 kc ks (l0 :: l1 :: some (.int x) :: l) (st) h = wps rm K Q c_Boxes_narrow_52 kc ks (l0 :: l1 :: some (.int x) :: l) (.int x :: st) h := rfl
theorem s_Boxes_narrow_52 {x y : Int32} : wps rm K Q c_Boxes_narrow_52 kc ks loc (.int y :: .int x :: st) h = wps rm K Q c_Boxes_narrow_53 kc ks loc (.int (x - y) :: st) h := rfl
theorem s_Boxes_narrow_53 {x : Int32} : wps rm K Q c_Boxes_narrow_53 kc ks loc (.int x :: st) h = wps rm K Q c_Boxes_narrow_54 kc ks loc (.long (x.toInt64) :: st) h := rfl
theorem s_Boxes_narrow_54  : wps rm K Q c_Boxes_narrow_54 kc ks loc (st) h = K 66 kc ks loc st h := rfl
theorem s_Boxes_narrow_57 {x : Int32} {l0 l1 : Option Value} {l : eg_Lo} : wps rm K Q c_Boxes_narrow_57 kc ks (l0 :: l1 :: some (.int x) :: l) (st) h = wps rm K Q c_Boxes_narrow_58 kc ks (l0 :: l1 :: some (.int x) :: l) (.int x :: st) h := rfl
theorem s_Boxes_narrow_58 {x : Nat} {l : eg_Lo} : wps rm K Q c_Boxes_narrow_58 kc ks (some (.ref x) :: l) (st) h = wps rm K Q c_Boxes_narrow_59 kc ks (some (.ref x) :: l) (.ref x :: st) h := rfl
theorem s_Boxes_narrow_59 {x : Nat} : wps rm K Q c_Boxes_narrow_59 kc ks loc (.ref (x + 1) :: st) h = eg_gf h x 0 2 (fun v => wps rm K Q c_Boxes_narrow_62 kc ks loc (v :: st) h) := rfl
theorem s_Boxes_narrow_62 {x : Int32} {l0 : Option Value} {l : eg_Lo} : wps rm K Q c_Boxes_narrow_62 kc ks (l0 :: some (.int x) :: l) (st) h = wps rm K Q c_Boxes_narrow_63 kc ks (l0 :: some (.int x) :: l) (.int x :: st) h := rfl
theorem s_Boxes_narrow_63 {x : Nat} {i : Int32} : wps rm K Q c_Boxes_narrow_63 kc ks loc (.int i :: .ref (x + 1) :: st) h = eg_ia h x i (fun v => wps rm K Q c_Boxes_narrow_64 kc ks loc (.int v :: st) h) := rfl
theorem s_Boxes_narrow_64 {x y : Int32} : wps rm K Q c_Boxes_narrow_64 kc ks loc (.int y :: .int x :: st) h = wps rm K Q c_Boxes_narrow_65 kc ks loc (.int (x - y) :: st) h := rfl
theorem s_Boxes_narrow_65 {x : Int32} : wps rm K Q c_Boxes_narrow_65 kc ks loc (.int x :: st) h = wps rm K Q c_Boxes_narrow_66 kc ks loc (.long (x.toInt64) :: st) h := rfl
theorem s_Boxes_narrow_66 {x : Int64} : wps rm K Q c_Boxes_narrow_66 kc ks loc (.long x :: st) h = wps rm K Q c_Boxes_narrow_68 kc ks (eg_set2 loc 6 (.long x)) (st) h := rfl
theorem s_Boxes_narrow_68 {x : Int32} {l0 l1 l2 : Option Value} {l : eg_Lo} : wps rm K Q c_Boxes_narrow_68 kc ks (l0 :: l1 :: l2 :: some (.int x) :: l) (st) h = wps rm K Q c_Boxes_narrow_69 kc ks (l0 :: l1 :: l2 :: some (.int x) :: l) (.int x :: st) h := rfl
theorem s_Boxes_narrow_69 {x : Int32} {l0 l1 : Option Value} {l : eg_Lo} : wps rm K Q c_Boxes_narrow_69 kc ks (l0 :: l1 :: some (.int x) :: l) (st) h = wps rm K Q c_Boxes_narrow_70 kc ks (l0 :: l1 :: some (.int x) :: l) (.int x :: st) h := rfl
theorem s_Boxes_narrow_70 {x y : Int32} : wps rm K Q c_Boxes_narrow_70 kc ks loc (.int y :: .int x :: st) h = ((x ≤ y → K 85 kc ks loc st h) ∧ (¬ x ≤ y → wps rm K Q c_Boxes_narrow_73 kc ks loc (st) h)) := rfl
theorem s_Boxes_narrow_73 {x : Nat} {l : eg_Lo} : wps rm K Q c_Boxes_narrow_73 kc ks (some (.ref x) :: l) (st) h = wps rm K Q c_Boxes_narrow_74 kc ks (some (.ref x) :: l) (.ref x :: st) h := rfl
theorem s_Boxes_narrow_74 {x : Nat} : wps rm K Q c_Boxes_narrow_74 kc ks loc (.ref (x + 1) :: st) h = eg_gf h x 0 2 (fun v => wps rm K Q c_Boxes_narrow_77 kc ks loc (v :: st) h) := rfl
theorem s_Boxes_narrow_77 {x : Int32} {l0 : Option Value} {l : eg_Lo} : wps rm K Q c_Boxes_narrow_77 kc ks (l0 :: some (.int x) :: l) (st) h = wps rm K Q c_Boxes_narrow_78 kc ks (l0 :: some (.int x) :: l) (.int x :: st) h := rfl
theorem s_Boxes_narrow_78 {x : Nat} {i : Int32} : wps rm K Q c_Boxes_narrow_78 kc ks loc (.int i :: .ref (x + 1) :: st) h = eg_ia h x i (fun v => wps rm K Q c_Boxes_narrow_79 kc ks loc (.int v :: st) h) := rfl
theorem s_Boxes_narrow_79 {x : Int32} {l0 l1 : Option Value} {l : eg_Lo} : wps rm K Q c_Boxes_narrow_79 kc ks (l0 :: l1 :: some (.int x) :: l) (st) h = wps rm K Q c_Boxes_narrow_80 kc ks (l0 :: l1 :: some (.int x) :: l) (.int x :: st) h := rfl
theorem s_Boxes_narrow_80 {x y : Int32} : wps rm K Q c_Boxes_narrow_80 kc ks loc (.int y :: .int x :: st) h = wps rm K Q c_Boxes_narrow_81 kc ks loc (.int (x - y) :: st) h := rfl
theorem s_Boxes_narrow_81 {x : Int32} : wps rm K Q c_Boxes_narrow_81 kc ks loc (.int x :: st) h = wps rm K Q c_Boxes_narrow_82 kc ks loc (.long (x.toInt64) :: st) h := rfl
theorem s_Boxes_narrow_82  : wps rm K Q c_Boxes_narrow_82 kc ks loc (st) h = K 94 kc ks loc st h := rfl
theorem s_Boxes_narrow_85 {x : Int32} {l0 l1 : Option Value} {l : eg_Lo} : wps rm K Q c_Boxes_narrow_85 kc ks (l0 :: l1 :: some (.int x) :: l) (st) h = wps rm K Q c_Boxes_narrow_86 kc ks (l0 :: l1 :: some (.int x) :: l) (.int x :: st) h := rfl
theorem s_Boxes_narrow_86 {x : Nat} {l : eg_Lo} : wps rm K Q c_Boxes_narrow_86 kc ks (some (.ref x) :: l) (st) h = wps rm K Q c_Boxes_narrow_87 kc ks (some (.ref x) :: l) (.ref x :: st) h := rfl
theorem s_Boxes_narrow_87 {x : Nat} : wps rm K Q c_Boxes_narrow_87 kc ks loc (.ref (x + 1) :: st) h = eg_gf h x 0 1 (fun v => wps rm K Q c_Boxes_narrow_90 kc ks loc (v :: st) h) := rfl
theorem s_Boxes_narrow_90 {x : Int32} {l0 : Option Value} {l : eg_Lo} : wps rm K Q c_Boxes_narrow_90 kc ks (l0 :: some (.int x) :: l) (st) h = wps rm K Q c_Boxes_narrow_91 kc ks (l0 :: some (.int x) :: l) (.int x :: st) h := rfl
theorem s_Boxes_narrow_91 {x : Nat} {i : Int32} : wps rm K Q c_Boxes_narrow_91 kc ks loc (.int i :: .ref (x + 1) :: st) h = eg_ia h x i (fun v => wps rm K Q c_Boxes_narrow_92 kc ks loc (.int v :: st) h) := rfl
theorem s_Boxes_narrow_92 {x y : Int32} : wps rm K Q c_Boxes_narrow_92 kc ks loc (.int y :: .int x :: st) h = wps rm K Q c_Boxes_narrow_93 kc ks loc (.int (x - y) :: st) h := rfl
theorem s_Boxes_narrow_93 {x : Int32} : wps rm K Q c_Boxes_narrow_93 kc ks loc (.int x :: st) h = wps rm K Q c_Boxes_narrow_94 kc ks loc (.long (x.toInt64) :: st) h := rfl
theorem s_Boxes_narrow_94 {x : Int64} : wps rm K Q c_Boxes_narrow_94 kc ks loc (.long x :: st) h = wps rm K Q c_Boxes_narrow_96 kc ks (eg_set2 loc 8 (.long x)) (st) h := rfl
theorem s_Boxes_narrow_96 {x : Int64} {l0 l1 l2 l3 l4 l5 : Option Value} {l : eg_Lo} : wps rm K Q c_Boxes_narrow_96 kc ks (l0 :: l1 :: l2 :: l3 :: l4 :: l5 :: some (.long x) :: l) (st) h = wps rm K Q c_Boxes_narrow_98 kc ks (l0 :: l1 :: l2 :: l3 :: l4 :: l5 :: some (.long x) :: l) (.long x :: st) h := rfl
theorem s_Boxes_narrow_98 {x : Nat} {l : eg_Lo} : wps rm K Q c_Boxes_narrow_98 kc ks (some (.ref x) :: l) (st) h = wps rm K Q c_Boxes_narrow_99 kc ks (some (.ref x) :: l) (.ref x :: st) h := rfl
theorem s_Boxes_narrow_99 {x : Nat} : wps rm K Q c_Boxes_narrow_99 kc ks loc (.ref (x + 1) :: st) h = eg_gf h x 0 4 (fun v => wps rm K Q c_Boxes_narrow_102 kc ks loc (v :: st) h) := rfl
theorem s_Boxes_narrow_102 {x y : Int64} : wps rm K Q c_Boxes_narrow_102 kc ks loc (.long y :: .long x :: st) h = wps rm K Q c_Boxes_narrow_103 kc ks loc (.long (x * y) :: st) h := rfl
theorem s_Boxes_narrow_103 {x : Nat} {l : eg_Lo} : wps rm K Q c_Boxes_narrow_103 kc ks (some (.ref x) :: l) (st) h = wps rm K Q c_Boxes_narrow_104 kc ks (some (.ref x) :: l) (.ref x :: st) h := rfl
theorem s_Boxes_narrow_104 {x : Nat} : wps rm K Q c_Boxes_narrow_104 kc ks loc (.ref (x + 1) :: st) h = eg_gf h x 0 3 (fun v => wps rm K Q c_Boxes_narrow_107 kc ks loc (v :: st) h) := rfl
theorem s_Boxes_narrow_107 {x : Int64} {l0 l1 l2 l3 : Option Value} {l : eg_Lo} : wps rm K Q c_Boxes_narrow_107 kc ks (l0 :: l1 :: l2 :: l3 :: some (.long x) :: l) (st) h = wps rm K Q c_Boxes_narrow_109 kc ks (l0 :: l1 :: l2 :: l3 :: some (.long x) :: l) (.long x :: st) h := rfl
theorem s_Boxes_narrow_109 {x y : Int64} : wps rm K Q c_Boxes_narrow_109 kc ks loc (.long y :: .long x :: st) h = wps rm K Q c_Boxes_narrow_110 kc ks loc (.long (x * y) :: st) h := rfl
theorem s_Boxes_narrow_110 {x y : Int64} : wps rm K Q c_Boxes_narrow_110 kc ks loc (.long y :: .long x :: st) h = wps rm K Q c_Boxes_narrow_111 kc ks loc (.int (lg_cmp x y) :: st) h := rfl
theorem s_Boxes_narrow_111 {x : Int32} : wps rm K Q c_Boxes_narrow_111 kc ks loc (.int x :: st) h = ((x ≤ 0 → K 126 kc ks loc st h) ∧ (¬ x ≤ 0 → wps rm K Q c_Boxes_narrow_114 kc ks loc (st) h)) := rfl
theorem s_Boxes_narrow_114 {x : Nat} {l : eg_Lo} : wps rm K Q c_Boxes_narrow_114 kc ks (some (.ref x) :: l) (st) h = wps rm K Q c_Boxes_narrow_115 kc ks (some (.ref x) :: l) (.ref x :: st) h := rfl
theorem s_Boxes_narrow_115 {x : Int64} {l0 l1 l2 l3 l4 l5 : Option Value} {l : eg_Lo} : wps rm K Q c_Boxes_narrow_115 kc ks (l0 :: l1 :: l2 :: l3 :: l4 :: l5 :: some (.long x) :: l) (st) h = wps rm K Q c_Boxes_narrow_117 kc ks (l0 :: l1 :: l2 :: l3 :: l4 :: l5 :: some (.long x) :: l) (.long x :: st) h := rfl
theorem s_Boxes_narrow_117 {x : Nat} {v : Value} : wps rm K Q c_Boxes_narrow_117 kc ks loc (v :: .ref (x + 1) :: st) h = eg_pf h x 0 3 v (fun h9 => wps rm K Q c_Boxes_narrow_120 kc ks loc (st) h9) := rfl
theorem s_Boxes_narrow_120 {x : Nat} {l : eg_Lo} : wps rm K Q c_Boxes_narrow_120 kc ks (some (.ref x) :: l) (st) h = wps rm K Q c_Boxes_narrow_121 kc ks (some (.ref x) :: l) (.ref x :: st) h := rfl
theorem s_Boxes_narrow_121 {x : Int64} {l0 l1 l2 l3 : Option Value} {l : eg_Lo} : wps rm K Q c_Boxes_narrow_121 kc ks (l0 :: l1 :: l2 :: l3 :: some (.long x) :: l) (st) h = wps rm K Q c_Boxes_narrow_123 kc ks (l0 :: l1 :: l2 :: l3 :: some (.long x) :: l) (.long x :: st) h := rfl
theorem s_Boxes_narrow_123 {x : Nat} {v : Value} : wps rm K Q c_Boxes_narrow_123 kc ks loc (v :: .ref (x + 1) :: st) h = eg_pf h x 0 4 v (fun h9 => wps rm K Q c_Boxes_narrow_126 kc ks loc (st) h9) := rfl
theorem s_Boxes_narrow_126 {x : Int64} {l0 l1 l2 l3 l4 l5 l6 l7 : Option Value} {l : eg_Lo} : wps rm K Q c_Boxes_narrow_126 kc ks (l0 :: l1 :: l2 :: l3 :: l4 :: l5 :: l6 :: l7 :: some (.long x) :: l) (st) h = wps rm K Q c_Boxes_narrow_128 kc ks (l0 :: l1 :: l2 :: l3 :: l4 :: l5 :: l6 :: l7 :: some (.long x) :: l) (.long x :: st) h := rfl
theorem s_Boxes_narrow_128 {x : Nat} {l : eg_Lo} : wps rm K Q c_Boxes_narrow_128 kc ks (some (.ref x) :: l) (st) h = wps rm K Q c_Boxes_narrow_129 kc ks (some (.ref x) :: l) (.ref x :: st) h := rfl
theorem s_Boxes_narrow_129 {x : Nat} : wps rm K Q c_Boxes_narrow_129 kc ks loc (.ref (x + 1) :: st) h = eg_gf h x 0 6 (fun v => wps rm K Q c_Boxes_narrow_132 kc ks loc (v :: st) h) := rfl
theorem s_Boxes_narrow_132 {x y : Int64} : wps rm K Q c_Boxes_narrow_132 kc ks loc (.long y :: .long x :: st) h = wps rm K Q c_Boxes_narrow_133 kc ks loc (.long (x * y) :: st) h := rfl
theorem s_Boxes_narrow_133 {x : Nat} {l : eg_Lo} : wps rm K Q c_Boxes_narrow_133 kc ks (some (.ref x) :: l) (st) h = wps rm K Q c_Boxes_narrow_134 kc ks (some (.ref x) :: l) (.ref x :: st) h := rfl
theorem s_Boxes_narrow_134 {x : Nat} : wps rm K Q c_Boxes_narrow_134 kc ks loc (.ref (x + 1) :: st) h = eg_gf h x 0 5 (fun v => wps rm K Q c_Boxes_narrow_137 kc ks loc (v :: st) h) := rfl
theorem s_Boxes_narrow_137 {x : Int64} {l0 l1 l2 l3 : Option Value} {l : eg_Lo} : wps rm K Q c_Boxes_narrow_137 kc ks (l0 :: l1 :: l2 :: l3 :: some (.long x) :: l) (st) h = wps rm K Q c_Boxes_narrow_139 kc ks (l0 :: l1 :: l2 :: l3 :: some (.long x) :: l) (.long x :: st) h := rfl
theorem s_Boxes_narrow_139 {x y : Int64} : wps rm K Q c_Boxes_narrow_139 kc ks loc (.long y :: .long x :: st) h = wps rm K Q c_Boxes_narrow_140 kc ks loc (.long (x * y) :: st) h := rfl
theorem s_Boxes_narrow_140 {x y : Int64} : wps rm K Q c_Boxes_narrow_140 kc ks loc (.long y :: .long x :: st) h = wps rm K Q c_Boxes_narrow_141 kc ks loc (.int (lg_cmp x y) :: st) h := rfl
theorem s_Boxes_narrow_141 {x : Int32} : wps rm K Q c_Boxes_narrow_141 kc ks loc (.int x :: st) h = ((0 ≤ x → K 156 kc ks loc st h) ∧ (¬ 0 ≤ x → wps rm K Q c_Boxes_narrow_144 kc ks loc (st) h)) := rfl
theorem s_Boxes_narrow_144 {x : Nat} {l : eg_Lo} : wps rm K Q c_Boxes_narrow_144 kc ks (some (.ref x) :: l) (st) h = wps rm K Q c_Boxes_narrow_145 kc ks (some (.ref x) :: l) (.ref x :: st) h := rfl
theorem s_Boxes_narrow_145 {x : Int64} {l0 l1 l2 l3 l4 l5 l6 l7 : Option Value} {l : eg_Lo} : wps rm K Q c_Boxes_narrow_145 kc ks (l0 :: l1 :: l2 :: l3 :: l4 :: l5 :: l6 :: l7 :: some (.long x) :: l) (st) h = wps rm K Q c_Boxes_narrow_147 kc ks (l0 :: l1 :: l2 :: l3 :: l4 :: l5 :: l6 :: l7 :: some (.long x) :: l) (.long x :: st) h := rfl
theorem s_Boxes_narrow_147 {x : Nat} {v : Value} : wps rm K Q c_Boxes_narrow_147 kc ks loc (v :: .ref (x + 1) :: st) h = eg_pf h x 0 5 v (fun h9 => wps rm K Q c_Boxes_narrow_150 kc ks loc (st) h9) := rfl
theorem s_Boxes_narrow_150 {x : Nat} {l : eg_Lo} : wps rm K Q c_Boxes_narrow_150 kc ks (some (.ref x) :: l) (st) h = wps rm K Q c_Boxes_narrow_151 kc ks (some (.ref x) :: l) (.ref x :: st) h := rfl
theorem s_Boxes_narrow_151 {x : Int64} {l0 l1 l2 l3 : Option Value} {l : eg_Lo} : wps rm K Q c_Boxes_narrow_151 kc ks (l0 :: l1 :: l2 :: l3 :: some (.long x) :: l) (st) h = wps rm K Q c_Boxes_narrow_153 kc ks (l0 :: l1 :: l2 :: l3 :: some (.long x) :: l) (.long x :: st) h := rfl
theorem s_Boxes_narrow_153 {x : Nat} {v : Value} : wps rm K Q c_Boxes_narrow_153 kc ks loc (v :: .ref (x + 1) :: st) h = eg_pf h x 0 6 v (fun h9 => wps rm K Q c_Boxes_narrow_156 kc ks loc (st) h9) := rfl
theorem s_Boxes_narrow_156  : wps rm K Q c_Boxes_narrow_156 kc ks loc (st) h = wps rm K Q c_Boxes_narrow_157 kc ks loc (.int (1) :: st) h := rfl
theorem s_Boxes_narrow_157 {x : Int32} : wps rm K Q c_Boxes_narrow_157 kc ks loc ([.int x]) h = (kc = rm.cells ∧ ((1 : Nat) = 1 → x = 0 ∨ x = 1) ∧ Q (some (.int x)) h) := rfl
def T_Boxes_narrow : List (Nat × List eg_I) := [(29, c_Boxes_narrow_29), (30, c_Boxes_narrow_30), (31, c_Boxes_narrow_31), (57, c_Boxes_narrow_57), (66, c_Boxes_narrow_66), (85, c_Boxes_narrow_85), (94, c_Boxes_narrow_94), (126, c_Boxes_narrow_126), (156, c_Boxes_narrow_156)]
theorem j_Boxes_narrow_29 {R : Nat → Nat → Nat → eg_Lo → List Value → List eg_E → Prop} {f pc0 : Nat} : eg_run rm R Q T_Boxes_narrow (f + 1) 29 kc ks loc st h = wps rm (eg_run rm R Q T_Boxes_narrow f) Q c_Boxes_narrow_29 kc ks loc st h := rfl
theorem j_Boxes_narrow_30 {R : Nat → Nat → Nat → eg_Lo → List Value → List eg_E → Prop} {f pc0 : Nat} : eg_run rm R Q T_Boxes_narrow (f + 1) 30 kc ks loc st h = wps rm (eg_run rm R Q T_Boxes_narrow f) Q c_Boxes_narrow_30 kc ks loc st h := rfl
theorem j_Boxes_narrow_31 {R : Nat → Nat → Nat → eg_Lo → List Value → List eg_E → Prop} {f pc0 : Nat} : eg_run rm R Q T_Boxes_narrow (f + 1) 31 kc ks loc st h = wps rm (eg_run rm R Q T_Boxes_narrow f) Q c_Boxes_narrow_31 kc ks loc st h := rfl
theorem j_Boxes_narrow_57 {R : Nat → Nat → Nat → eg_Lo → List Value → List eg_E → Prop} {f pc0 : Nat} : eg_run rm R Q T_Boxes_narrow (f + 1) 57 kc ks loc st h = wps rm (eg_run rm R Q T_Boxes_narrow f) Q c_Boxes_narrow_57 kc ks loc st h := rfl
theorem j_Boxes_narrow_66 {R : Nat → Nat → Nat → eg_Lo → List Value → List eg_E → Prop} {f pc0 : Nat} : eg_run rm R Q T_Boxes_narrow (f + 1) 66 kc ks loc st h = wps rm (eg_run rm R Q T_Boxes_narrow f) Q c_Boxes_narrow_66 kc ks loc st h := rfl
theorem j_Boxes_narrow_85 {R : Nat → Nat → Nat → eg_Lo → List Value → List eg_E → Prop} {f pc0 : Nat} : eg_run rm R Q T_Boxes_narrow (f + 1) 85 kc ks loc st h = wps rm (eg_run rm R Q T_Boxes_narrow f) Q c_Boxes_narrow_85 kc ks loc st h := rfl
theorem j_Boxes_narrow_94 {R : Nat → Nat → Nat → eg_Lo → List Value → List eg_E → Prop} {f pc0 : Nat} : eg_run rm R Q T_Boxes_narrow (f + 1) 94 kc ks loc st h = wps rm (eg_run rm R Q T_Boxes_narrow f) Q c_Boxes_narrow_94 kc ks loc st h := rfl
theorem j_Boxes_narrow_126 {R : Nat → Nat → Nat → eg_Lo → List Value → List eg_E → Prop} {f pc0 : Nat} : eg_run rm R Q T_Boxes_narrow (f + 1) 126 kc ks loc st h = wps rm (eg_run rm R Q T_Boxes_narrow f) Q c_Boxes_narrow_126 kc ks loc st h := rfl
theorem j_Boxes_narrow_156 {R : Nat → Nat → Nat → eg_Lo → List Value → List eg_E → Prop} {f pc0 : Nat} : eg_run rm R Q T_Boxes_narrow (f + 1) 156 kc ks loc st h = wps rm (eg_run rm R Q T_Boxes_narrow f) Q c_Boxes_narrow_156 kc ks loc st h := rfl
end
theorem q_Boxes_narrow : (T_Boxes_narrow.all fun q => eg_seq m_Boxes_narrow q.1 q.2) = true := by decide +kernel
theorem b_Boxes_narrow {as : List Value} {h : List eg_E} {Q : Option Value → List eg_E → Prop} (hf : (eg_fl as).length ≤ 10) (hw : wps (eg_rm m_Boxes_narrow) (eg_run (eg_rm m_Boxes_narrow) (eg_R m_Boxes_narrow Q (h.length + 0)) Q T_Boxes_narrow 11) Q c_Boxes_narrow_0 0 0 (eg_entry 10 as) [] h) : eg_Runs n_Boxes_narrow as h Q := eg_begin (d := m_Boxes_narrow) rfl (by decide) (by decide +kernel) q_Boxes_narrow hf hw
/-! ===== Circ_init ===== -/
def c_Circ_init_15 : List eg_I := .inl (15, 1, .return_, 0, 0) :: []
def c_Circ_init_12 : List eg_I := .inl (12, 3, .putfield 12, 1, 0) :: c_Circ_init_15
def c_Circ_init_9 : List eg_I := .inr (9, 3, 11, n_Tou_init, 0, 10, 4, 64) :: c_Circ_init_12
def c_Circ_init_8 : List eg_I := .inl (8, 1, .dup, 0, 0) :: c_Circ_init_9
def c_Circ_init_5 : List eg_I := .inl (5, 3, .new 9, 10, 5) :: c_Circ_init_8
def c_Circ_init_4 : List eg_I := .inl (4, 1, .aload 0, 0, 0) :: c_Circ_init_5
def c_Circ_init_1 : List eg_I := .inl (1, 3, .athrow, 3, 0) :: c_Circ_init_4
def c_Circ_init_0 : List eg_I := .inl (0, 1, .aload 0, 0, 0) :: c_Circ_init_1
section
variable {rm : Room} {K : Nat → Nat → Nat → eg_Lo → List Value → List eg_E → Prop} {Q : Option Value → List eg_E → Prop} {kc ks : Nat} {loc : eg_Lo} {st : List Value} {h : List eg_E}
theorem s_Circ_init_0 {x : Nat} {l : eg_Lo} : wps rm K Q c_Circ_init_0 kc ks (some (.ref x) :: l) (st) h = wps rm K Q c_Circ_init_1 kc ks (some (.ref x) :: l) (.ref x :: st) h := rfl
theorem s_Circ_init_1 {x : Nat} : wps rm K Q c_Circ_init_1 kc ks loc (.ref (x + 1) :: st) h = (st.length ≤ 4 ∧ wps rm K Q c_Circ_init_4 kc ks loc (st) h) := rfl
theorem s_Circ_init_4 {x : Nat} {l : eg_Lo} : wps rm K Q c_Circ_init_4 kc ks (some (.ref x) :: l) (st) h = wps rm K Q c_Circ_init_5 kc ks (some (.ref x) :: l) (.ref x :: st) h := rfl
theorem s_Circ_init_5  : wps rm K Q c_Circ_init_5 kc ks loc (st) h = (kc + 1 ≤ rm.cells ∧ ks + 5 ≤ rm.slots ∧ wps rm K Q c_Circ_init_8 (kc + 1) (ks + 5) loc (.ref (h.length + 1) :: st) (h ++ [.inr (10, eg_df 10)])) := rfl
theorem s_Circ_init_8 {x : Nat} : wps rm K Q c_Circ_init_8 kc ks loc (.ref x :: st) h = wps rm K Q c_Circ_init_9 kc ks loc (.ref x :: .ref x :: st) h := rfl
theorem s_Circ_init_9  {x : Nat} : wps rm K Q c_Circ_init_9 kc ks loc (.ref (x + 1) :: st) h = (st.length ≤ 4 ∧ kc + 4 ≤ rm.cells ∧ ks + 64 ≤ rm.slots ∧ eg_Cs n_Tou_init [.ref (x + 1)] h (fun v h9 => wps rm K Q c_Circ_init_12 (kc + 4) (ks + 64) loc (v.toList ++ st) h9)) := eg_c3_0
theorem s_Circ_init_12 {x : Nat} {v : Value} : wps rm K Q c_Circ_init_12 kc ks loc (v :: .ref (x + 1) :: st) h = eg_pf h x 1 0 v (fun h9 => wps rm K Q c_Circ_init_15 kc ks loc (st) h9) := rfl
theorem s_Circ_init_15  : wps rm K Q c_Circ_init_15 kc ks loc ([]) h = (kc = rm.cells ∧ Q none h) := rfl
def T_Circ_init : List (Nat × List eg_I) := []
end
theorem q_Circ_init : (T_Circ_init.all fun q => eg_seq m_Circ_init q.1 q.2) = true := by decide +kernel
theorem b_Circ_init {as : List Value} {h : List eg_E} {Q : Option Value → List eg_E → Prop} (hf : (eg_fl as).length ≤ 1) (hw : wps (eg_rm m_Circ_init) (eg_run (eg_rm m_Circ_init) (eg_R m_Circ_init Q (h.length + 5)) Q T_Circ_init 2) Q c_Circ_init_0 0 0 (eg_entry 1 as) [] h) : eg_Runs n_Circ_init as h Q := eg_begin (d := m_Circ_init) rfl (by decide) (by decide +kernel) q_Circ_init hf hw
/-! ===== Circ_fitCircle ===== -/
def c_Circ_fitCircle_49 : List eg_I := .inl (49, 1, .ireturn, 0, 1) :: []
def c_Circ_fitCircle_48 : List eg_I := .inl (48, 1, .iconst (0), 0, 0) :: c_Circ_fitCircle_49
def c_Circ_fitCircle_45 : List eg_I := .inl (45, 3, .goto (4), 49, 0) :: []
def c_Circ_fitCircle_44 : List eg_I := .inl (44, 1, .iconst (1), 0, 0) :: c_Circ_fitCircle_45
def c_Circ_fitCircle_41 : List eg_I := .inl (41, 3, .ifCond .eq (7), 48, 0) :: c_Circ_fitCircle_44
def c_Circ_fitCircle_38 : List eg_I := .inr (38, 1, 33, n_Circ_holdThree, 1, 1, 0, 0) :: c_Circ_fitCircle_41
def c_Circ_fitCircle_37 : List eg_I := .inl (37, 1, .aload 2, 0, 0) :: c_Circ_fitCircle_38
def c_Circ_fitCircle_36 : List eg_I := .inl (36, 1, .aload 0, 0, 0) :: c_Circ_fitCircle_37
def c_Circ_fitCircle_33 : List eg_I := .inl (33, 3, .ifCond .ne (11), 44, 0) :: c_Circ_fitCircle_36
def c_Circ_fitCircle_30 : List eg_I := .inr (30, 1, 30, n_Circ_holdPair, 1, 1, 0, 0) :: c_Circ_fitCircle_33
def c_Circ_fitCircle_29 : List eg_I := .inl (29, 1, .aload 2, 0, 0) :: c_Circ_fitCircle_30
def c_Circ_fitCircle_28 : List eg_I := .inl (28, 1, .aload 0, 0, 0) :: c_Circ_fitCircle_29
def c_Circ_fitCircle_25 : List eg_I := .inl (25, 3, .ifCond .ne (19), 44, 0) :: c_Circ_fitCircle_28
def c_Circ_fitCircle_22 : List eg_I := .inr (22, 1, 26, n_Circ_holdOnePlace, 1, 1, 0, 0) :: c_Circ_fitCircle_25
def c_Circ_fitCircle_21 : List eg_I := .inl (21, 1, .aload 2, 0, 0) :: c_Circ_fitCircle_22
def c_Circ_fitCircle_20 : List eg_I := .inl (20, 1, .aload 0, 0, 0) :: c_Circ_fitCircle_21
def c_Circ_fitCircle_19 : List eg_I := .inl (19, 1, .ireturn, 0, 1) :: []
def c_Circ_fitCircle_18 : List eg_I := .inl (18, 1, .iconst (0), 0, 0) :: c_Circ_fitCircle_19
def c_Circ_fitCircle_15 : List eg_I := .inl (15, 3, .ifCond .ne (5), 20, 0) :: c_Circ_fitCircle_18
def c_Circ_fitCircle_12 : List eg_I := .inl (12, 3, .getfield 22, 10, 4) :: c_Circ_fitCircle_15
def c_Circ_fitCircle_9 : List eg_I := .inl (9, 3, .getfield 12, 1, 0) :: c_Circ_fitCircle_12
def c_Circ_fitCircle_8 : List eg_I := .inl (8, 1, .aload 0, 0, 0) :: c_Circ_fitCircle_9
def c_Circ_fitCircle_5 : List eg_I := .inr (5, 1, 18, n_Tou_gather, 1, 10, 0, 0) :: c_Circ_fitCircle_8
def c_Circ_fitCircle_4 : List eg_I := .inl (4, 1, .aload 1, 0, 0) :: c_Circ_fitCircle_5
def c_Circ_fitCircle_1 : List eg_I := .inl (1, 3, .getfield 12, 1, 0) :: c_Circ_fitCircle_4
def c_Circ_fitCircle_0 : List eg_I := .inl (0, 1, .aload 0, 0, 0) :: c_Circ_fitCircle_1
section
variable {rm : Room} {K : Nat → Nat → Nat → eg_Lo → List Value → List eg_E → Prop} {Q : Option Value → List eg_E → Prop} {kc ks : Nat} {loc : eg_Lo} {st : List Value} {h : List eg_E}
theorem s_Circ_fitCircle_0 {x : Nat} {l : eg_Lo} : wps rm K Q c_Circ_fitCircle_0 kc ks (some (.ref x) :: l) (st) h = wps rm K Q c_Circ_fitCircle_1 kc ks (some (.ref x) :: l) (.ref x :: st) h := rfl
theorem s_Circ_fitCircle_1 {x : Nat} : wps rm K Q c_Circ_fitCircle_1 kc ks loc (.ref (x + 1) :: st) h = eg_gf h x 1 0 (fun v => wps rm K Q c_Circ_fitCircle_4 kc ks loc (v :: st) h) := rfl
theorem s_Circ_fitCircle_4 {x : Nat} {l0 : Option Value} {l : eg_Lo} : wps rm K Q c_Circ_fitCircle_4 kc ks (l0 :: some (.ref x) :: l) (st) h = wps rm K Q c_Circ_fitCircle_5 kc ks (l0 :: some (.ref x) :: l) (.ref x :: st) h := rfl
theorem s_Circ_fitCircle_5  {a1 : Value} {x : Nat} : wps rm K Q c_Circ_fitCircle_5 kc ks loc (a1 :: .ref (x + 1) :: st) h = (eg_cls h x 10 ∧ st.length ≤ 4 ∧ eg_Cs n_Tou_gather (.ref (x + 1) :: [a1]) h (fun v h9 => wps rm K Q c_Circ_fitCircle_8 kc ks loc (v.toList ++ st) h9)) := eg_c1_1
theorem s_Circ_fitCircle_8 {x : Nat} {l : eg_Lo} : wps rm K Q c_Circ_fitCircle_8 kc ks (some (.ref x) :: l) (st) h = wps rm K Q c_Circ_fitCircle_9 kc ks (some (.ref x) :: l) (.ref x :: st) h := rfl
theorem s_Circ_fitCircle_9 {x : Nat} : wps rm K Q c_Circ_fitCircle_9 kc ks loc (.ref (x + 1) :: st) h = eg_gf h x 1 0 (fun v => wps rm K Q c_Circ_fitCircle_12 kc ks loc (v :: st) h) := rfl
theorem s_Circ_fitCircle_12 {x : Nat} : wps rm K Q c_Circ_fitCircle_12 kc ks loc (.ref (x + 1) :: st) h = eg_gf h x 10 4 (fun v => wps rm K Q c_Circ_fitCircle_15 kc ks loc (v :: st) h) := rfl
theorem s_Circ_fitCircle_15 {x : Int32} : wps rm K Q c_Circ_fitCircle_15 kc ks loc (.int x :: st) h = ((¬ x = 0 → K 20 kc ks loc st h) ∧ (x = 0 → wps rm K Q c_Circ_fitCircle_18 kc ks loc (st) h)) := rfl
theorem s_Circ_fitCircle_18  : wps rm K Q c_Circ_fitCircle_18 kc ks loc (st) h = wps rm K Q c_Circ_fitCircle_19 kc ks loc (.int (0) :: st) h := rfl
theorem s_Circ_fitCircle_19 {x : Int32} : wps rm K Q c_Circ_fitCircle_19 kc ks loc ([.int x]) h = (kc = rm.cells ∧ ((1 : Nat) = 1 → x = 0 ∨ x = 1) ∧ Q (some (.int x)) h) := rfl
theorem s_Circ_fitCircle_20 {x : Nat} {l : eg_Lo} : wps rm K Q c_Circ_fitCircle_20 kc ks (some (.ref x) :: l) (st) h = wps rm K Q c_Circ_fitCircle_21 kc ks (some (.ref x) :: l) (.ref x :: st) h := rfl
theorem s_Circ_fitCircle_21 {x : Nat} {l0 l1 : Option Value} {l : eg_Lo} : wps rm K Q c_Circ_fitCircle_21 kc ks (l0 :: l1 :: some (.ref x) :: l) (st) h = wps rm K Q c_Circ_fitCircle_22 kc ks (l0 :: l1 :: some (.ref x) :: l) (.ref x :: st) h := rfl
theorem s_Circ_fitCircle_22  {a1 : Value} {x : Nat} : wps rm K Q c_Circ_fitCircle_22 kc ks loc (a1 :: .ref (x + 1) :: st) h = (eg_cls h x 1 ∧ st.length ≤ 4 ∧ eg_Cs n_Circ_holdOnePlace (.ref (x + 1) :: [a1]) h (fun v h9 => wps rm K Q c_Circ_fitCircle_25 kc ks loc (v.toList ++ st) h9)) := eg_c1_1
theorem s_Circ_fitCircle_25 {x : Int32} : wps rm K Q c_Circ_fitCircle_25 kc ks loc (.int x :: st) h = ((¬ x = 0 → K 44 kc ks loc st h) ∧ (x = 0 → wps rm K Q c_Circ_fitCircle_28 kc ks loc (st) h)) := rfl
theorem s_Circ_fitCircle_28 {x : Nat} {l : eg_Lo} : wps rm K Q c_Circ_fitCircle_28 kc ks (some (.ref x) :: l) (st) h = wps rm K Q c_Circ_fitCircle_29 kc ks (some (.ref x) :: l) (.ref x :: st) h := rfl
theorem s_Circ_fitCircle_29 {x : Nat} {l0 l1 : Option Value} {l : eg_Lo} : wps rm K Q c_Circ_fitCircle_29 kc ks (l0 :: l1 :: some (.ref x) :: l) (st) h = wps rm K Q c_Circ_fitCircle_30 kc ks (l0 :: l1 :: some (.ref x) :: l) (.ref x :: st) h := rfl
theorem s_Circ_fitCircle_30  {a1 : Value} {x : Nat} : wps rm K Q c_Circ_fitCircle_30 kc ks loc (a1 :: .ref (x + 1) :: st) h = (eg_cls h x 1 ∧ st.length ≤ 4 ∧ eg_Cs n_Circ_holdPair (.ref (x + 1) :: [a1]) h (fun v h9 => wps rm K Q c_Circ_fitCircle_33 kc ks loc (v.toList ++ st) h9)) := eg_c1_1
theorem s_Circ_fitCircle_33 {x : Int32} : wps rm K Q c_Circ_fitCircle_33 kc ks loc (.int x :: st) h = ((¬ x = 0 → K 44 kc ks loc st h) ∧ (x = 0 → wps rm K Q c_Circ_fitCircle_36 kc ks loc (st) h)) := rfl
theorem s_Circ_fitCircle_36 {x : Nat} {l : eg_Lo} : wps rm K Q c_Circ_fitCircle_36 kc ks (some (.ref x) :: l) (st) h = wps rm K Q c_Circ_fitCircle_37 kc ks (some (.ref x) :: l) (.ref x :: st) h := rfl
theorem s_Circ_fitCircle_37 {x : Nat} {l0 l1 : Option Value} {l : eg_Lo} : wps rm K Q c_Circ_fitCircle_37 kc ks (l0 :: l1 :: some (.ref x) :: l) (st) h = wps rm K Q c_Circ_fitCircle_38 kc ks (l0 :: l1 :: some (.ref x) :: l) (.ref x :: st) h := rfl
theorem s_Circ_fitCircle_38  {a1 : Value} {x : Nat} : wps rm K Q c_Circ_fitCircle_38 kc ks loc (a1 :: .ref (x + 1) :: st) h = (eg_cls h x 1 ∧ st.length ≤ 4 ∧ eg_Cs n_Circ_holdThree (.ref (x + 1) :: [a1]) h (fun v h9 => wps rm K Q c_Circ_fitCircle_41 kc ks loc (v.toList ++ st) h9)) := eg_c1_1
theorem s_Circ_fitCircle_41 {x : Int32} : wps rm K Q c_Circ_fitCircle_41 kc ks loc (.int x :: st) h = ((x = 0 → K 48 kc ks loc st h) ∧ (¬ x = 0 → wps rm K Q c_Circ_fitCircle_44 kc ks loc (st) h)) := rfl
theorem s_Circ_fitCircle_44  : wps rm K Q c_Circ_fitCircle_44 kc ks loc (st) h = wps rm K Q c_Circ_fitCircle_45 kc ks loc (.int (1) :: st) h := rfl
theorem s_Circ_fitCircle_45  : wps rm K Q c_Circ_fitCircle_45 kc ks loc (st) h = K 49 kc ks loc st h := rfl
theorem s_Circ_fitCircle_48  : wps rm K Q c_Circ_fitCircle_48 kc ks loc (st) h = wps rm K Q c_Circ_fitCircle_49 kc ks loc (.int (0) :: st) h := rfl
theorem s_Circ_fitCircle_49 {x : Int32} : wps rm K Q c_Circ_fitCircle_49 kc ks loc ([.int x]) h = (kc = rm.cells ∧ ((1 : Nat) = 1 → x = 0 ∨ x = 1) ∧ Q (some (.int x)) h) := rfl
def T_Circ_fitCircle : List (Nat × List eg_I) := [(20, c_Circ_fitCircle_20), (44, c_Circ_fitCircle_44), (48, c_Circ_fitCircle_48), (49, c_Circ_fitCircle_49)]
theorem j_Circ_fitCircle_20 {R : Nat → Nat → Nat → eg_Lo → List Value → List eg_E → Prop} {f pc0 : Nat} : eg_run rm R Q T_Circ_fitCircle (f + 1) 20 kc ks loc st h = wps rm (eg_run rm R Q T_Circ_fitCircle f) Q c_Circ_fitCircle_20 kc ks loc st h := rfl
theorem j_Circ_fitCircle_44 {R : Nat → Nat → Nat → eg_Lo → List Value → List eg_E → Prop} {f pc0 : Nat} : eg_run rm R Q T_Circ_fitCircle (f + 1) 44 kc ks loc st h = wps rm (eg_run rm R Q T_Circ_fitCircle f) Q c_Circ_fitCircle_44 kc ks loc st h := rfl
theorem j_Circ_fitCircle_48 {R : Nat → Nat → Nat → eg_Lo → List Value → List eg_E → Prop} {f pc0 : Nat} : eg_run rm R Q T_Circ_fitCircle (f + 1) 48 kc ks loc st h = wps rm (eg_run rm R Q T_Circ_fitCircle f) Q c_Circ_fitCircle_48 kc ks loc st h := rfl
theorem j_Circ_fitCircle_49 {R : Nat → Nat → Nat → eg_Lo → List Value → List eg_E → Prop} {f pc0 : Nat} : eg_run rm R Q T_Circ_fitCircle (f + 1) 49 kc ks loc st h = wps rm (eg_run rm R Q T_Circ_fitCircle f) Q c_Circ_fitCircle_49 kc ks loc st h := rfl
end
theorem q_Circ_fitCircle : (T_Circ_fitCircle.all fun q => eg_seq m_Circ_fitCircle q.1 q.2) = true := by decide +kernel
theorem b_Circ_fitCircle {as : List Value} {h : List eg_E} {Q : Option Value → List eg_E → Prop} (hf : (eg_fl as).length ≤ 3) (hw : wps (eg_rm m_Circ_fitCircle) (eg_run (eg_rm m_Circ_fitCircle) (eg_R m_Circ_fitCircle Q (h.length + 0)) Q T_Circ_fitCircle 6) Q c_Circ_fitCircle_0 0 0 (eg_entry 3 as) [] h) : eg_Runs n_Circ_fitCircle as h Q := eg_begin (d := m_Circ_fitCircle) rfl (by decide) (by decide +kernel) q_Circ_fitCircle hf hw
/-! ===== Circ_holdOnePlace ===== -/
def c_Circ_holdOnePlace_63 : List eg_I := .inl (63, 1, .ireturn, 0, 1) :: []
def c_Circ_holdOnePlace_62 : List eg_I := .inl (62, 1, .iconst (1), 0, 0) :: c_Circ_holdOnePlace_63
def c_Circ_holdOnePlace_59 : List eg_I := .inr (59, 1, 53, n_Circ_finish, 2, 1, 0, 0) :: c_Circ_holdOnePlace_62
def c_Circ_holdOnePlace_58 : List eg_I := .inl (58, 1, .iconst (1), 0, 0) :: c_Circ_holdOnePlace_59
def c_Circ_holdOnePlace_57 : List eg_I := .inl (57, 1, .aload 1, 0, 0) :: c_Circ_holdOnePlace_58
def c_Circ_holdOnePlace_56 : List eg_I := .inl (56, 1, .aload 0, 0, 0) :: c_Circ_holdOnePlace_57
def c_Circ_holdOnePlace_55 : List eg_I := .inl (55, 1, .iastore, 0, 0) :: c_Circ_holdOnePlace_56
def c_Circ_holdOnePlace_54 : List eg_I := .inl (54, 1, .iaload, 0, 0) :: c_Circ_holdOnePlace_55
def c_Circ_holdOnePlace_53 : List eg_I := .inl (53, 1, .iconst (0), 0, 0) :: c_Circ_holdOnePlace_54
def c_Circ_holdOnePlace_50 : List eg_I := .inl (50, 3, .getfield 50, 10, 3) :: c_Circ_holdOnePlace_53
def c_Circ_holdOnePlace_47 : List eg_I := .inl (47, 3, .getfield 12, 1, 0) :: c_Circ_holdOnePlace_50
def c_Circ_holdOnePlace_46 : List eg_I := .inl (46, 1, .aload 0, 0, 0) :: c_Circ_holdOnePlace_47
def c_Circ_holdOnePlace_45 : List eg_I := .inl (45, 1, .iconst (0), 0, 0) :: c_Circ_holdOnePlace_46
def c_Circ_holdOnePlace_42 : List eg_I := .inl (42, 3, .getfield 44, 2, 0) :: c_Circ_holdOnePlace_45
def c_Circ_holdOnePlace_41 : List eg_I := .inl (41, 1, .aload 1, 0, 0) :: c_Circ_holdOnePlace_42
def c_Circ_holdOnePlace_38 : List eg_I := .inr (38, 1, 40, n_Circ_setCircle, 4, 1, 0, 0) :: c_Circ_holdOnePlace_41
def c_Circ_holdOnePlace_37 : List eg_I := .inl (37, 1, .sipush (1), 0, 0) :: c_Circ_holdOnePlace_38
def c_Circ_holdOnePlace_36 : List eg_I := .inl (36, 1, .sipush (0), 0, 0) :: c_Circ_holdOnePlace_37
def c_Circ_holdOnePlace_35 : List eg_I := .inl (35, 1, .sipush (0), 0, 0) :: c_Circ_holdOnePlace_36
def c_Circ_holdOnePlace_34 : List eg_I := .inl (34, 1, .iconst (0), 0, 0) :: c_Circ_holdOnePlace_35
def c_Circ_holdOnePlace_33 : List eg_I := .inl (33, 1, .aload 0, 0, 0) :: c_Circ_holdOnePlace_34
def c_Circ_holdOnePlace_30 : List eg_I := .inl (30, 3, .goto (-28), 2, 0) :: []
def c_Circ_holdOnePlace_27 : List eg_I := .inl (27, 3, .iinc 2 (1), 0, 0) :: c_Circ_holdOnePlace_30
def c_Circ_holdOnePlace_26 : List eg_I := .inl (26, 1, .ireturn, 0, 1) :: []
def c_Circ_holdOnePlace_25 : List eg_I := .inl (25, 1, .iconst (0), 0, 0) :: c_Circ_holdOnePlace_26
def c_Circ_holdOnePlace_22 : List eg_I := .inl (22, 3, .ifCond .ne (5), 27, 0) :: c_Circ_holdOnePlace_25
def c_Circ_holdOnePlace_19 : List eg_I := .inr (19, 1, 36, n_Tou_isOnePlace, 2, 10, 0, 0) :: c_Circ_holdOnePlace_22
def c_Circ_holdOnePlace_18 : List eg_I := .inl (18, 1, .iload 2, 0, 0) :: c_Circ_holdOnePlace_19
def c_Circ_holdOnePlace_17 : List eg_I := .inl (17, 1, .iconst (0), 0, 0) :: c_Circ_holdOnePlace_18
def c_Circ_holdOnePlace_14 : List eg_I := .inl (14, 3, .getfield 12, 1, 0) :: c_Circ_holdOnePlace_17
def c_Circ_holdOnePlace_13 : List eg_I := .inl (13, 1, .aload 0, 0, 0) :: c_Circ_holdOnePlace_14
def c_Circ_holdOnePlace_10 : List eg_I := .inl (10, 3, .if_icmp .ge (23), 33, 0) :: c_Circ_holdOnePlace_13
def c_Circ_holdOnePlace_7 : List eg_I := .inl (7, 3, .getfield 22, 10, 4) :: c_Circ_holdOnePlace_10
def c_Circ_holdOnePlace_4 : List eg_I := .inl (4, 3, .getfield 12, 1, 0) :: c_Circ_holdOnePlace_7
def c_Circ_holdOnePlace_3 : List eg_I := .inl (3, 1, .aload 0, 0, 0) :: c_Circ_holdOnePlace_4
def c_Circ_holdOnePlace_2 : List eg_I := .inl (2, 1, .iload 2, 0, 0) :: c_Circ_holdOnePlace_3
def c_Circ_holdOnePlace_1 : List eg_I := .inl (1, 1, .istore 2, 0, 0) :: [.inl (2, 0, .nop, 0, 0)]
def c_Circ_holdOnePlace_0 : List eg_I := .inl (0, 1, .iconst (1), 0, 0) :: c_Circ_holdOnePlace_1
section
variable {rm : Room} {K : Nat → Nat → Nat → eg_Lo → List Value → List eg_E → Prop} {Q : Option Value → List eg_E → Prop} {kc ks : Nat} {loc : eg_Lo} {st : List Value} {h : List eg_E}
theorem s_Circ_holdOnePlace_0  : wps rm K Q c_Circ_holdOnePlace_0 kc ks loc (st) h = wps rm K Q c_Circ_holdOnePlace_1 kc ks loc (.int (1) :: st) h := rfl
theorem s_Circ_holdOnePlace_1 {x : Int32} : wps rm K Q c_Circ_holdOnePlace_1 kc ks loc (.int x :: st) h = K 2 kc ks (eg_set1 loc 2 (.int x)) (st) h := rfl
theorem s_Circ_holdOnePlace_2 {x : Int32} {l0 l1 : Option Value} {l : eg_Lo} : wps rm K Q c_Circ_holdOnePlace_2 kc ks (l0 :: l1 :: some (.int x) :: l) (st) h = wps rm K Q c_Circ_holdOnePlace_3 kc ks (l0 :: l1 :: some (.int x) :: l) (.int x :: st) h := rfl
theorem s_Circ_holdOnePlace_3 {x : Nat} {l : eg_Lo} : wps rm K Q c_Circ_holdOnePlace_3 kc ks (some (.ref x) :: l) (st) h = wps rm K Q c_Circ_holdOnePlace_4 kc ks (some (.ref x) :: l) (.ref x :: st) h := rfl
theorem s_Circ_holdOnePlace_4 {x : Nat} : wps rm K Q c_Circ_holdOnePlace_4 kc ks loc (.ref (x + 1) :: st) h = eg_gf h x 1 0 (fun v => wps rm K Q c_Circ_holdOnePlace_7 kc ks loc (v :: st) h) := rfl
theorem s_Circ_holdOnePlace_7 {x : Nat} : wps rm K Q c_Circ_holdOnePlace_7 kc ks loc (.ref (x + 1) :: st) h = eg_gf h x 10 4 (fun v => wps rm K Q c_Circ_holdOnePlace_10 kc ks loc (v :: st) h) := rfl
theorem s_Circ_holdOnePlace_10 {x y : Int32} : wps rm K Q c_Circ_holdOnePlace_10 kc ks loc (.int y :: .int x :: st) h = ((y ≤ x → K 33 kc ks loc st h) ∧ (¬ y ≤ x → wps rm K Q c_Circ_holdOnePlace_13 kc ks loc (st) h)) := rfl
theorem s_Circ_holdOnePlace_13 {x : Nat} {l : eg_Lo} : wps rm K Q c_Circ_holdOnePlace_13 kc ks (some (.ref x) :: l) (st) h = wps rm K Q c_Circ_holdOnePlace_14 kc ks (some (.ref x) :: l) (.ref x :: st) h := rfl
theorem s_Circ_holdOnePlace_14 {x : Nat} : wps rm K Q c_Circ_holdOnePlace_14 kc ks loc (.ref (x + 1) :: st) h = eg_gf h x 1 0 (fun v => wps rm K Q c_Circ_holdOnePlace_17 kc ks loc (v :: st) h) := rfl
theorem s_Circ_holdOnePlace_17  : wps rm K Q c_Circ_holdOnePlace_17 kc ks loc (st) h = wps rm K Q c_Circ_holdOnePlace_18 kc ks loc (.int (0) :: st) h := rfl
theorem s_Circ_holdOnePlace_18 {x : Int32} {l0 l1 : Option Value} {l : eg_Lo} : wps rm K Q c_Circ_holdOnePlace_18 kc ks (l0 :: l1 :: some (.int x) :: l) (st) h = wps rm K Q c_Circ_holdOnePlace_19 kc ks (l0 :: l1 :: some (.int x) :: l) (.int x :: st) h := rfl
theorem s_Circ_holdOnePlace_19  {a1 : Value} {a2 : Value} {x : Nat} : wps rm K Q c_Circ_holdOnePlace_19 kc ks loc (a2 :: a1 :: .ref (x + 1) :: st) h = (eg_cls h x 10 ∧ st.length ≤ 4 ∧ eg_Cs n_Tou_isOnePlace (.ref (x + 1) :: [a1, a2]) h (fun v h9 => wps rm K Q c_Circ_holdOnePlace_22 kc ks loc (v.toList ++ st) h9)) := eg_c1_2
theorem s_Circ_holdOnePlace_22 {x : Int32} : wps rm K Q c_Circ_holdOnePlace_22 kc ks loc (.int x :: st) h = ((¬ x = 0 → K 27 kc ks loc st h) ∧ (x = 0 → wps rm K Q c_Circ_holdOnePlace_25 kc ks loc (st) h)) := rfl
theorem s_Circ_holdOnePlace_25  : wps rm K Q c_Circ_holdOnePlace_25 kc ks loc (st) h = wps rm K Q c_Circ_holdOnePlace_26 kc ks loc (.int (0) :: st) h := rfl
theorem s_Circ_holdOnePlace_26 {x : Int32} : wps rm K Q c_Circ_holdOnePlace_26 kc ks loc ([.int x]) h = (kc = rm.cells ∧ ((1 : Nat) = 1 → x = 0 ∨ x = 1) ∧ Q (some (.int x)) h) := rfl
theorem s_Circ_holdOnePlace_27 {x : Int32} {l0 l1 : Option Value} {l9 : eg_Lo} : wps rm K Q c_Circ_holdOnePlace_27 kc ks (l0 :: l1 :: some (.int x) :: l9) (st) h = wps rm K Q c_Circ_holdOnePlace_30 kc ks (eg_set1 (l0 :: l1 :: some (.int x) :: l9) 2 (.int (x + (1)))) (st) h := rfl
theorem s_Circ_holdOnePlace_30  : wps rm K Q c_Circ_holdOnePlace_30 kc ks loc (st) h = K 2 kc ks loc st h := rfl
theorem s_Circ_holdOnePlace_33 {x : Nat} {l : eg_Lo} : wps rm K Q c_Circ_holdOnePlace_33 kc ks (some (.ref x) :: l) (st) h = wps rm K Q c_Circ_holdOnePlace_34 kc ks (some (.ref x) :: l) (.ref x :: st) h := rfl
theorem s_Circ_holdOnePlace_34  : wps rm K Q c_Circ_holdOnePlace_34 kc ks loc (st) h = wps rm K Q c_Circ_holdOnePlace_35 kc ks loc (.int (0) :: st) h := rfl
theorem s_Circ_holdOnePlace_35  : wps rm K Q c_Circ_holdOnePlace_35 kc ks loc (st) h = wps rm K Q c_Circ_holdOnePlace_36 kc ks loc (.long (0) :: st) h := rfl
theorem s_Circ_holdOnePlace_36  : wps rm K Q c_Circ_holdOnePlace_36 kc ks loc (st) h = wps rm K Q c_Circ_holdOnePlace_37 kc ks loc (.long (0) :: st) h := rfl
theorem s_Circ_holdOnePlace_37  : wps rm K Q c_Circ_holdOnePlace_37 kc ks loc (st) h = wps rm K Q c_Circ_holdOnePlace_38 kc ks loc (.long (1) :: st) h := rfl
theorem s_Circ_holdOnePlace_38  {a1 : Value} {a2 : Value} {a3 : Value} {a4 : Value} {x : Nat} : wps rm K Q c_Circ_holdOnePlace_38 kc ks loc (a4 :: a3 :: a2 :: a1 :: .ref (x + 1) :: st) h = (eg_cls h x 1 ∧ st.length ≤ 4 ∧ eg_Cs n_Circ_setCircle (.ref (x + 1) :: [a1, a2, a3, a4]) h (fun v h9 => wps rm K Q c_Circ_holdOnePlace_41 kc ks loc (v.toList ++ st) h9)) := eg_c1_4
theorem s_Circ_holdOnePlace_41 {x : Nat} {l0 : Option Value} {l : eg_Lo} : wps rm K Q c_Circ_holdOnePlace_41 kc ks (l0 :: some (.ref x) :: l) (st) h = wps rm K Q c_Circ_holdOnePlace_42 kc ks (l0 :: some (.ref x) :: l) (.ref x :: st) h := rfl
theorem s_Circ_holdOnePlace_42 {x : Nat} : wps rm K Q c_Circ_holdOnePlace_42 kc ks loc (.ref (x + 1) :: st) h = eg_gf h x 2 0 (fun v => wps rm K Q c_Circ_holdOnePlace_45 kc ks loc (v :: st) h) := rfl
theorem s_Circ_holdOnePlace_45  : wps rm K Q c_Circ_holdOnePlace_45 kc ks loc (st) h = wps rm K Q c_Circ_holdOnePlace_46 kc ks loc (.int (0) :: st) h := rfl
theorem s_Circ_holdOnePlace_46 {x : Nat} {l : eg_Lo} : wps rm K Q c_Circ_holdOnePlace_46 kc ks (some (.ref x) :: l) (st) h = wps rm K Q c_Circ_holdOnePlace_47 kc ks (some (.ref x) :: l) (.ref x :: st) h := rfl
theorem s_Circ_holdOnePlace_47 {x : Nat} : wps rm K Q c_Circ_holdOnePlace_47 kc ks loc (.ref (x + 1) :: st) h = eg_gf h x 1 0 (fun v => wps rm K Q c_Circ_holdOnePlace_50 kc ks loc (v :: st) h) := rfl
theorem s_Circ_holdOnePlace_50 {x : Nat} : wps rm K Q c_Circ_holdOnePlace_50 kc ks loc (.ref (x + 1) :: st) h = eg_gf h x 10 3 (fun v => wps rm K Q c_Circ_holdOnePlace_53 kc ks loc (v :: st) h) := rfl
theorem s_Circ_holdOnePlace_53  : wps rm K Q c_Circ_holdOnePlace_53 kc ks loc (st) h = wps rm K Q c_Circ_holdOnePlace_54 kc ks loc (.int (0) :: st) h := rfl
theorem s_Circ_holdOnePlace_54 {x : Nat} {i : Int32} : wps rm K Q c_Circ_holdOnePlace_54 kc ks loc (.int i :: .ref (x + 1) :: st) h = eg_ia h x i (fun v => wps rm K Q c_Circ_holdOnePlace_55 kc ks loc (.int v :: st) h) := rfl
theorem s_Circ_holdOnePlace_55 {x : Nat} {i : Int32} {v : Int32} : wps rm K Q c_Circ_holdOnePlace_55 kc ks loc (.int v :: .int i :: .ref (x + 1) :: st) h = eg_is h x i v (fun h9 => wps rm K Q c_Circ_holdOnePlace_56 kc ks loc (st) h9) := rfl
theorem s_Circ_holdOnePlace_56 {x : Nat} {l : eg_Lo} : wps rm K Q c_Circ_holdOnePlace_56 kc ks (some (.ref x) :: l) (st) h = wps rm K Q c_Circ_holdOnePlace_57 kc ks (some (.ref x) :: l) (.ref x :: st) h := rfl
theorem s_Circ_holdOnePlace_57 {x : Nat} {l0 : Option Value} {l : eg_Lo} : wps rm K Q c_Circ_holdOnePlace_57 kc ks (l0 :: some (.ref x) :: l) (st) h = wps rm K Q c_Circ_holdOnePlace_58 kc ks (l0 :: some (.ref x) :: l) (.ref x :: st) h := rfl
theorem s_Circ_holdOnePlace_58  : wps rm K Q c_Circ_holdOnePlace_58 kc ks loc (st) h = wps rm K Q c_Circ_holdOnePlace_59 kc ks loc (.int (1) :: st) h := rfl
theorem s_Circ_holdOnePlace_59  {a1 : Value} {a2 : Value} {x : Nat} : wps rm K Q c_Circ_holdOnePlace_59 kc ks loc (a2 :: a1 :: .ref (x + 1) :: st) h = (eg_cls h x 1 ∧ st.length ≤ 4 ∧ eg_Cs n_Circ_finish (.ref (x + 1) :: [a1, a2]) h (fun v h9 => wps rm K Q c_Circ_holdOnePlace_62 kc ks loc (v.toList ++ st) h9)) := eg_c1_2
theorem s_Circ_holdOnePlace_62  : wps rm K Q c_Circ_holdOnePlace_62 kc ks loc (st) h = wps rm K Q c_Circ_holdOnePlace_63 kc ks loc (.int (1) :: st) h := rfl
theorem s_Circ_holdOnePlace_63 {x : Int32} : wps rm K Q c_Circ_holdOnePlace_63 kc ks loc ([.int x]) h = (kc = rm.cells ∧ ((1 : Nat) = 1 → x = 0 ∨ x = 1) ∧ Q (some (.int x)) h) := rfl
def T_Circ_holdOnePlace : List (Nat × List eg_I) := [(27, c_Circ_holdOnePlace_27), (33, c_Circ_holdOnePlace_33)]
theorem j_Circ_holdOnePlace_27 {R : Nat → Nat → Nat → eg_Lo → List Value → List eg_E → Prop} {f pc0 : Nat} : eg_run rm R Q T_Circ_holdOnePlace (f + 1) 27 kc ks loc st h = wps rm (eg_run rm R Q T_Circ_holdOnePlace f) Q c_Circ_holdOnePlace_27 kc ks loc st h := rfl
theorem j_Circ_holdOnePlace_33 {R : Nat → Nat → Nat → eg_Lo → List Value → List eg_E → Prop} {f pc0 : Nat} : eg_run rm R Q T_Circ_holdOnePlace (f + 1) 33 kc ks loc st h = wps rm (eg_run rm R Q T_Circ_holdOnePlace f) Q c_Circ_holdOnePlace_33 kc ks loc st h := rfl
theorem j_Circ_holdOnePlace_2 {R : Nat → Nat → Nat → eg_Lo → List Value → List eg_E → Prop} {f pc0 : Nat} : eg_run rm R Q T_Circ_holdOnePlace (f + 1) 2 kc ks loc st h = R 2 kc ks loc st h := rfl
end
theorem q_Circ_holdOnePlace : (T_Circ_holdOnePlace.all fun q => eg_seq m_Circ_holdOnePlace q.1 q.2) = true := by decide +kernel
theorem b_Circ_holdOnePlace {as : List Value} {h : List eg_E} {Q : Option Value → List eg_E → Prop} (hf : (eg_fl as).length ≤ 3) (hw : wps (eg_rm m_Circ_holdOnePlace) (eg_run (eg_rm m_Circ_holdOnePlace) (eg_R m_Circ_holdOnePlace Q (h.length + 0)) Q T_Circ_holdOnePlace 4) Q c_Circ_holdOnePlace_0 0 0 (eg_entry 3 as) [] h) : eg_Runs n_Circ_holdOnePlace as h Q := eg_begin (d := m_Circ_holdOnePlace) rfl (by decide) (by decide +kernel) q_Circ_holdOnePlace hf hw
theorem p_Circ_holdOnePlace_2 {Q : Option Value → List eg_E → Prop} {n0 kc ks : Nat} {loc : eg_Lo} {st : List Value} {h : List eg_E} (hw : wps (eg_rm m_Circ_holdOnePlace) (eg_run (eg_rm m_Circ_holdOnePlace) (eg_R m_Circ_holdOnePlace Q n0) Q T_Circ_holdOnePlace 4) Q c_Circ_holdOnePlace_2 kc ks loc st h) : eg_R m_Circ_holdOnePlace Q n0 2 kc ks loc st h := eg_go (by decide +kernel) q_Circ_holdOnePlace hw
/-! ===== Circ_holdPair ===== -/
def c_Circ_holdPair_134 : List eg_I := .inl (134, 1, .ireturn, 0, 1) :: []
def c_Circ_holdPair_133 : List eg_I := .inl (133, 1, .iconst (0), 0, 0) :: c_Circ_holdPair_134
def c_Circ_holdPair_130 : List eg_I := .inl (130, 3, .goto (-128), 2, 0) :: []
def c_Circ_holdPair_127 : List eg_I := .inl (127, 3, .iinc 2 (1), 0, 0) :: c_Circ_holdPair_130
def c_Circ_holdPair_124 : List eg_I := .inl (124, 3, .goto (-107), 17, 0) :: []
def c_Circ_holdPair_121 : List eg_I := .inl (121, 3, .iinc 3 (1), 0, 0) :: c_Circ_holdPair_124
def c_Circ_holdPair_120 : List eg_I := .inl (120, 1, .ireturn, 0, 1) :: []
def c_Circ_holdPair_119 : List eg_I := .inl (119, 1, .iconst (1), 0, 0) :: c_Circ_holdPair_120
def c_Circ_holdPair_116 : List eg_I := .inr (116, 1, 53, n_Circ_finish, 2, 1, 0, 0) :: c_Circ_holdPair_119
def c_Circ_holdPair_115 : List eg_I := .inl (115, 1, .iconst (2), 0, 0) :: c_Circ_holdPair_116
def c_Circ_holdPair_114 : List eg_I := .inl (114, 1, .aload 1, 0, 0) :: c_Circ_holdPair_115
def c_Circ_holdPair_113 : List eg_I := .inl (113, 1, .aload 0, 0, 0) :: c_Circ_holdPair_114
def c_Circ_holdPair_112 : List eg_I := .inl (112, 1, .iastore, 0, 0) :: c_Circ_holdPair_113
def c_Circ_holdPair_111 : List eg_I := .inl (111, 1, .iaload, 0, 0) :: c_Circ_holdPair_112
def c_Circ_holdPair_110 : List eg_I := .inl (110, 1, .iload 3, 0, 0) :: c_Circ_holdPair_111
def c_Circ_holdPair_107 : List eg_I := .inl (107, 3, .getfield 50, 10, 3) :: c_Circ_holdPair_110
def c_Circ_holdPair_104 : List eg_I := .inl (104, 3, .getfield 12, 1, 0) :: c_Circ_holdPair_107
def c_Circ_holdPair_103 : List eg_I := .inl (103, 1, .aload 0, 0, 0) :: c_Circ_holdPair_104
def c_Circ_holdPair_102 : List eg_I := .inl (102, 1, .iconst (1), 0, 0) :: c_Circ_holdPair_103
def c_Circ_holdPair_99 : List eg_I := .inl (99, 3, .getfield 44, 2, 0) :: c_Circ_holdPair_102
def c_Circ_holdPair_98 : List eg_I := .inl (98, 1, .aload 1, 0, 0) :: c_Circ_holdPair_99
def c_Circ_holdPair_97 : List eg_I := .inl (97, 1, .iastore, 0, 0) :: c_Circ_holdPair_98
def c_Circ_holdPair_96 : List eg_I := .inl (96, 1, .iaload, 0, 0) :: c_Circ_holdPair_97
def c_Circ_holdPair_95 : List eg_I := .inl (95, 1, .iload 2, 0, 0) :: c_Circ_holdPair_96
def c_Circ_holdPair_92 : List eg_I := .inl (92, 3, .getfield 50, 10, 3) :: c_Circ_holdPair_95
def c_Circ_holdPair_89 : List eg_I := .inl (89, 3, .getfield 12, 1, 0) :: c_Circ_holdPair_92
def c_Circ_holdPair_88 : List eg_I := .inl (88, 1, .aload 0, 0, 0) :: c_Circ_holdPair_89
def c_Circ_holdPair_87 : List eg_I := .inl (87, 1, .iconst (0), 0, 0) :: c_Circ_holdPair_88
def c_Circ_holdPair_84 : List eg_I := .inl (84, 3, .getfield 44, 2, 0) :: c_Circ_holdPair_87
def c_Circ_holdPair_83 : List eg_I := .inl (83, 1, .aload 1, 0, 0) :: c_Circ_holdPair_84
def c_Circ_holdPair_80 : List eg_I := .inl (80, 3, .ifCond .eq (41), 121, 0) :: c_Circ_holdPair_83
def c_Circ_holdPair_77 : List eg_I := .inr (77, 1, 65, n_Circ_hasNoneOutside, 0, 1, 0, 0) :: c_Circ_holdPair_80
def c_Circ_holdPair_76 : List eg_I := .inl (76, 1, .aload 0, 0, 0) :: c_Circ_holdPair_77
def c_Circ_holdPair_73 : List eg_I := .inr (73, 1, 40, n_Circ_setCircle, 4, 1, 0, 0) :: c_Circ_holdPair_76
def c_Circ_holdPair_70 : List eg_I := .inl (70, 3, .sipush (2), 63, 0) :: c_Circ_holdPair_73
def c_Circ_holdPair_69 : List eg_I := .inl (69, 1, .i2l, 0, 0) :: c_Circ_holdPair_70
def c_Circ_holdPair_68 : List eg_I := .inl (68, 1, .isub, 0, 0) :: c_Circ_holdPair_69
def c_Circ_holdPair_67 : List eg_I := .inl (67, 1, .iaload, 0, 0) :: c_Circ_holdPair_68
def c_Circ_holdPair_66 : List eg_I := .inl (66, 1, .iload 2, 0, 0) :: c_Circ_holdPair_67
def c_Circ_holdPair_63 : List eg_I := .inl (63, 3, .getfield 60, 10, 1) :: c_Circ_holdPair_66
def c_Circ_holdPair_60 : List eg_I := .inl (60, 3, .getfield 12, 1, 0) :: c_Circ_holdPair_63
def c_Circ_holdPair_59 : List eg_I := .inl (59, 1, .aload 0, 0, 0) :: c_Circ_holdPair_60
def c_Circ_holdPair_58 : List eg_I := .inl (58, 1, .iaload, 0, 0) :: c_Circ_holdPair_59
def c_Circ_holdPair_57 : List eg_I := .inl (57, 1, .iload 3, 0, 0) :: c_Circ_holdPair_58
def c_Circ_holdPair_54 : List eg_I := .inl (54, 3, .getfield 60, 10, 1) :: c_Circ_holdPair_57
def c_Circ_holdPair_51 : List eg_I := .inl (51, 3, .getfield 12, 1, 0) :: c_Circ_holdPair_54
def c_Circ_holdPair_50 : List eg_I := .inl (50, 1, .aload 0, 0, 0) :: c_Circ_holdPair_51
def c_Circ_holdPair_49 : List eg_I := .inl (49, 1, .i2l, 0, 0) :: c_Circ_holdPair_50
def c_Circ_holdPair_48 : List eg_I := .inl (48, 1, .isub, 0, 0) :: c_Circ_holdPair_49
def c_Circ_holdPair_47 : List eg_I := .inl (47, 1, .iaload, 0, 0) :: c_Circ_holdPair_48
def c_Circ_holdPair_46 : List eg_I := .inl (46, 1, .iload 2, 0, 0) :: c_Circ_holdPair_47
def c_Circ_holdPair_43 : List eg_I := .inl (43, 3, .getfield 57, 10, 0) :: c_Circ_holdPair_46
def c_Circ_holdPair_40 : List eg_I := .inl (40, 3, .getfield 12, 1, 0) :: c_Circ_holdPair_43
def c_Circ_holdPair_39 : List eg_I := .inl (39, 1, .aload 0, 0, 0) :: c_Circ_holdPair_40
def c_Circ_holdPair_38 : List eg_I := .inl (38, 1, .iaload, 0, 0) :: c_Circ_holdPair_39
def c_Circ_holdPair_37 : List eg_I := .inl (37, 1, .iload 3, 0, 0) :: c_Circ_holdPair_38
def c_Circ_holdPair_34 : List eg_I := .inl (34, 3, .getfield 57, 10, 0) :: c_Circ_holdPair_37
def c_Circ_holdPair_31 : List eg_I := .inl (31, 3, .getfield 12, 1, 0) :: c_Circ_holdPair_34
def c_Circ_holdPair_30 : List eg_I := .inl (30, 1, .aload 0, 0, 0) :: c_Circ_holdPair_31
def c_Circ_holdPair_29 : List eg_I := .inl (29, 1, .iload 2, 0, 0) :: c_Circ_holdPair_30
def c_Circ_holdPair_28 : List eg_I := .inl (28, 1, .aload 0, 0, 0) :: c_Circ_holdPair_29
def c_Circ_holdPair_25 : List eg_I := .inl (25, 3, .if_icmp .ge (102), 127, 0) :: c_Circ_holdPair_28
def c_Circ_holdPair_22 : List eg_I := .inl (22, 3, .getfield 22, 10, 4) :: c_Circ_holdPair_25
def c_Circ_holdPair_19 : List eg_I := .inl (19, 3, .getfield 12, 1, 0) :: c_Circ_holdPair_22
def c_Circ_holdPair_18 : List eg_I := .inl (18, 1, .aload 0, 0, 0) :: c_Circ_holdPair_19
def c_Circ_holdPair_17 : List eg_I := .inl (17, 1, .iload 3, 0, 0) :: c_Circ_holdPair_18
def c_Circ_holdPair_16 : List eg_I := .inl (16, 1, .istore 3, 0, 0) :: [.inl (17, 0, .nop, 0, 0)]
def c_Circ_holdPair_15 : List eg_I := .inl (15, 1, .iadd, 0, 0) :: c_Circ_holdPair_16
def c_Circ_holdPair_14 : List eg_I := .inl (14, 1, .iconst (1), 0, 0) :: c_Circ_holdPair_15
def c_Circ_holdPair_13 : List eg_I := .inl (13, 1, .iload 2, 0, 0) :: c_Circ_holdPair_14
def c_Circ_holdPair_10 : List eg_I := .inl (10, 3, .if_icmp .ge (123), 133, 0) :: c_Circ_holdPair_13
def c_Circ_holdPair_7 : List eg_I := .inl (7, 3, .getfield 22, 10, 4) :: c_Circ_holdPair_10
def c_Circ_holdPair_4 : List eg_I := .inl (4, 3, .getfield 12, 1, 0) :: c_Circ_holdPair_7
def c_Circ_holdPair_3 : List eg_I := .inl (3, 1, .aload 0, 0, 0) :: c_Circ_holdPair_4
def c_Circ_holdPair_2 : List eg_I := .inl (2, 1, .iload 2, 0, 0) :: c_Circ_holdPair_3
def c_Circ_holdPair_1 : List eg_I := .inl (1, 1, .istore 2, 0, 0) :: [.inl (2, 0, .nop, 0, 0)]
def c_Circ_holdPair_0 : List eg_I := .inl (0, 1, .iconst (0), 0, 0) :: c_Circ_holdPair_1
section
variable {rm : Room} {K : Nat → Nat → Nat → eg_Lo → List Value → List eg_E → Prop} {Q : Option Value → List eg_E → Prop} {kc ks : Nat} {loc : eg_Lo} {st : List Value} {h : List eg_E}
theorem s_Circ_holdPair_0  : wps rm K Q c_Circ_holdPair_0 kc ks loc (st) h = wps rm K Q c_Circ_holdPair_1 kc ks loc (.int (0) :: st) h := rfl
theorem s_Circ_holdPair_1 {x : Int32} : wps rm K Q c_Circ_holdPair_1 kc ks loc (.int x :: st) h = K 2 kc ks (eg_set1 loc 2 (.int x)) (st) h := rfl
theorem s_Circ_holdPair_2 {x : Int32} {l0 l1 : Option Value} {l : eg_Lo} : wps rm K Q c_Circ_holdPair_2 kc ks (l0 :: l1 :: some (.int x) :: l) (st) h = wps rm K Q c_Circ_holdPair_3 kc ks (l0 :: l1 :: some (.int x) :: l) (.int x :: st) h := rfl
theorem s_Circ_holdPair_3 {x : Nat} {l : eg_Lo} : wps rm K Q c_Circ_holdPair_3 kc ks (some (.ref x) :: l) (st) h = wps rm K Q c_Circ_holdPair_4 kc ks (some (.ref x) :: l) (.ref x :: st) h := rfl
theorem s_Circ_holdPair_4 {x : Nat} : wps rm K Q c_Circ_holdPair_4 kc ks loc (.ref (x + 1) :: st) h = eg_gf h x 1 0 (fun v => wps rm K Q c_Circ_holdPair_7 kc ks loc (v :: st) h) := rfl
theorem s_Circ_holdPair_7 {x : Nat} : wps rm K Q c_Circ_holdPair_7 kc ks loc (.ref (x + 1) :: st) h = eg_gf h x 10 4 (fun v => wps rm K Q c_Circ_holdPair_10 kc ks loc (v :: st) h) := rfl
theorem s_Circ_holdPair_10 {x y : Int32} : wps rm K Q c_Circ_holdPair_10 kc ks loc (.int y :: .int x :: st) h = ((y ≤ x → K 133 kc ks loc st h) ∧ (¬ y ≤ x → wps rm K Q c_Circ_holdPair_13 kc ks loc (st) h)) := rfl
theorem s_Circ_holdPair_13 {x : Int32} {l0 l1 : Option Value} {l : eg_Lo} : wps rm K Q c_Circ_holdPair_13 kc ks (l0 :: l1 :: some (.int x) :: l) (st) h = wps rm K Q c_Circ_holdPair_14 kc ks (l0 :: l1 :: some (.int x) :: l) (.int x :: st) h := rfl
theorem s_Circ_holdPair_14  : wps rm K Q c_Circ_holdPair_14 kc ks loc (st) h = wps rm K Q c_Circ_holdPair_15 kc ks loc (.int (1) :: st) h := rfl
theorem s_Circ_holdPair_15 {x y : Int32} : wps rm K Q c_Circ_holdPair_15 kc ks loc (.int y :: .int x :: st) h = wps rm K Q c_Circ_holdPair_16 kc ks loc (.int (x + y) :: st) h := rfl
theorem s_Circ_holdPair_16 {x : Int32} : wps rm K Q c_Circ_holdPair_16 kc ks loc (.int x :: st) h = K 17 kc ks (eg_set1 loc 3 (.int x)) (st) h := rfl
theorem s_Circ_holdPair_17 {x : Int32} {l0 l1 l2 : Option Value} {l : eg_Lo} : wps rm K Q c_Circ_holdPair_17 kc ks (l0 :: l1 :: l2 :: some (.int x) :: l) (st) h = wps rm K Q c_Circ_holdPair_18 kc ks (l0 :: l1 :: l2 :: some (.int x) :: l) (.int x :: st) h := rfl
theorem s_Circ_holdPair_18 {x : Nat} {l : eg_Lo} : wps rm K Q c_Circ_holdPair_18 kc ks (some (.ref x) :: l) (st) h = wps rm K Q c_Circ_holdPair_19 kc ks (some (.ref x) :: l) (.ref x :: st) h := rfl
theorem s_Circ_holdPair_19 {x : Nat} : wps rm K Q c_Circ_holdPair_19 kc ks loc (.ref (x + 1) :: st) h = eg_gf h x 1 0 (fun v => wps rm K Q c_Circ_holdPair_22 kc ks loc (v :: st) h) := rfl
theorem s_Circ_holdPair_22 {x : Nat} : wps rm K Q c_Circ_holdPair_22 kc ks loc (.ref (x + 1) :: st) h = eg_gf h x 10 4 (fun v => wps rm K Q c_Circ_holdPair_25 kc ks loc (v :: st) h) := rfl
theorem s_Circ_holdPair_25 {x y : Int32} : wps rm K Q c_Circ_holdPair_25 kc ks loc (.int y :: .int x :: st) h = ((y ≤ x → K 127 kc ks loc st h) ∧ (¬ y ≤ x → wps rm K Q c_Circ_holdPair_28 kc ks loc (st) h)) := rfl
theorem s_Circ_holdPair_28 {x : Nat} {l : eg_Lo} : wps rm K Q c_Circ_holdPair_28 kc ks (some (.ref x) :: l) (st) h = wps rm K Q c_Circ_holdPair_29 kc ks (some (.ref x) :: l) (.ref x :: st) h := rfl
theorem s_Circ_holdPair_29 {x : Int32} {l0 l1 : Option Value} {l : eg_Lo} : wps rm K Q c_Circ_holdPair_29 kc ks (l0 :: l1 :: some (.int x) :: l) (st) h = wps rm K Q c_Circ_holdPair_30 kc ks (l0 :: l1 :: some (.int x) :: l) (.int x :: st) h := rfl
theorem s_Circ_holdPair_30 {x : Nat} {l : eg_Lo} : wps rm K Q c_Circ_holdPair_30 kc ks (some (.ref x) :: l) (st) h = wps rm K Q c_Circ_holdPair_31 kc ks (some (.ref x) :: l) (.ref x :: st) h := rfl
theorem s_Circ_holdPair_31 {x : Nat} : wps rm K Q c_Circ_holdPair_31 kc ks loc (.ref (x + 1) :: st) h = eg_gf h x 1 0 (fun v => wps rm K Q c_Circ_holdPair_34 kc ks loc (v :: st) h) := rfl
theorem s_Circ_holdPair_34 {x : Nat} : wps rm K Q c_Circ_holdPair_34 kc ks loc (.ref (x + 1) :: st) h = eg_gf h x 10 0 (fun v => wps rm K Q c_Circ_holdPair_37 kc ks loc (v :: st) h) := rfl
theorem s_Circ_holdPair_37 {x : Int32} {l0 l1 l2 : Option Value} {l : eg_Lo} : wps rm K Q c_Circ_holdPair_37 kc ks (l0 :: l1 :: l2 :: some (.int x) :: l) (st) h = wps rm K Q c_Circ_holdPair_38 kc ks (l0 :: l1 :: l2 :: some (.int x) :: l) (.int x :: st) h := rfl
theorem s_Circ_holdPair_38 {x : Nat} {i : Int32} : wps rm K Q c_Circ_holdPair_38 kc ks loc (.int i :: .ref (x + 1) :: st) h = eg_ia h x i (fun v => wps rm K Q c_Circ_holdPair_39 kc ks loc (.int v :: st) h) := rfl
theorem s_Circ_holdPair_39 {x : Nat} {l : eg_Lo} : wps rm K Q c_Circ_holdPair_39 kc ks (some (.ref x) :: l) (st) h = wps rm K Q c_Circ_holdPair_40 kc ks (some (.ref x) :: l) (.ref x :: st) h := rfl
theorem s_Circ_holdPair_40 {x : Nat} : wps rm K Q c_Circ_holdPair_40 kc ks loc (.ref (x + 1) :: st) h = eg_gf h x 1 0 (fun v => wps rm K Q c_Circ_holdPair_43 kc ks loc (v :: st) h) := rfl
theorem s_Circ_holdPair_43 {x : Nat} : wps rm K Q c_Circ_holdPair_43 kc ks loc (.ref (x + 1) :: st) h = eg_gf h x 10 0 (fun v => wps rm K Q c_Circ_holdPair_46 kc ks loc (v :: st) h) := rfl
theorem s_Circ_holdPair_46 {x : Int32} {l0 l1 : Option Value} {l : eg_Lo} : wps rm K Q c_Circ_holdPair_46 kc ks (l0 :: l1 :: some (.int x) :: l) (st) h = wps rm K Q c_Circ_holdPair_47 kc ks (l0 :: l1 :: some (.int x) :: l) (.int x :: st) h := rfl
theorem s_Circ_holdPair_47 {x : Nat} {i : Int32} : wps rm K Q c_Circ_holdPair_47 kc ks loc (.int i :: .ref (x + 1) :: st) h = eg_ia h x i (fun v => wps rm K Q c_Circ_holdPair_48 kc ks loc (.int v :: st) h) := rfl
theorem s_Circ_holdPair_48 {x y : Int32} : wps rm K Q c_Circ_holdPair_48 kc ks loc (.int y :: .int x :: st) h = wps rm K Q c_Circ_holdPair_49 kc ks loc (.int (x - y) :: st) h := rfl
theorem s_Circ_holdPair_49 {x : Int32} : wps rm K Q c_Circ_holdPair_49 kc ks loc (.int x :: st) h = wps rm K Q c_Circ_holdPair_50 kc ks loc (.long (x.toInt64) :: st) h := rfl
theorem s_Circ_holdPair_50 {x : Nat} {l : eg_Lo} : wps rm K Q c_Circ_holdPair_50 kc ks (some (.ref x) :: l) (st) h = wps rm K Q c_Circ_holdPair_51 kc ks (some (.ref x) :: l) (.ref x :: st) h := rfl
theorem s_Circ_holdPair_51 {x : Nat} : wps rm K Q c_Circ_holdPair_51 kc ks loc (.ref (x + 1) :: st) h = eg_gf h x 1 0 (fun v => wps rm K Q c_Circ_holdPair_54 kc ks loc (v :: st) h) := rfl
theorem s_Circ_holdPair_54 {x : Nat} : wps rm K Q c_Circ_holdPair_54 kc ks loc (.ref (x + 1) :: st) h = eg_gf h x 10 1 (fun v => wps rm K Q c_Circ_holdPair_57 kc ks loc (v :: st) h) := rfl
theorem s_Circ_holdPair_57 {x : Int32} {l0 l1 l2 : Option Value} {l : eg_Lo} : wps rm K Q c_Circ_holdPair_57 kc ks (l0 :: l1 :: l2 :: some (.int x) :: l) (st) h = wps rm K Q c_Circ_holdPair_58 kc ks (l0 :: l1 :: l2 :: some (.int x) :: l) (.int x :: st) h := rfl
theorem s_Circ_holdPair_58 {x : Nat} {i : Int32} : wps rm K Q c_Circ_holdPair_58 kc ks loc (.int i :: .ref (x + 1) :: st) h = eg_ia h x i (fun v => wps rm K Q c_Circ_holdPair_59 kc ks loc (.int v :: st) h) := rfl
theorem s_Circ_holdPair_59 {x : Nat} {l : eg_Lo} : wps rm K Q c_Circ_holdPair_59 kc ks (some (.ref x) :: l) (st) h = wps rm K Q c_Circ_holdPair_60 kc ks (some (.ref x) :: l) (.ref x :: st) h := rfl
theorem s_Circ_holdPair_60 {x : Nat} : wps rm K Q c_Circ_holdPair_60 kc ks loc (.ref (x + 1) :: st) h = eg_gf h x 1 0 (fun v => wps rm K Q c_Circ_holdPair_63 kc ks loc (v :: st) h) := rfl
theorem s_Circ_holdPair_63 {x : Nat} : wps rm K Q c_Circ_holdPair_63 kc ks loc (.ref (x + 1) :: st) h = eg_gf h x 10 1 (fun v => wps rm K Q c_Circ_holdPair_66 kc ks loc (v :: st) h) := rfl
theorem s_Circ_holdPair_66 {x : Int32} {l0 l1 : Option Value} {l : eg_Lo} : wps rm K Q c_Circ_holdPair_66 kc ks (l0 :: l1 :: some (.int x) :: l) (st) h = wps rm K Q c_Circ_holdPair_67 kc ks (l0 :: l1 :: some (.int x) :: l) (.int x :: st) h := rfl
theorem s_Circ_holdPair_67 {x : Nat} {i : Int32} : wps rm K Q c_Circ_holdPair_67 kc ks loc (.int i :: .ref (x + 1) :: st) h = eg_ia h x i (fun v => wps rm K Q c_Circ_holdPair_68 kc ks loc (.int v :: st) h) := rfl
theorem s_Circ_holdPair_68 {x y : Int32} : wps rm K Q c_Circ_holdPair_68 kc ks loc (.int y :: .int x :: st) h = wps rm K Q c_Circ_holdPair_69 kc ks loc (.int (x - y) :: st) h := rfl
theorem s_Circ_holdPair_69 {x : Int32} : wps rm K Q c_Circ_holdPair_69 kc ks loc (.int x :: st) h = wps rm K Q c_Circ_holdPair_70 kc ks loc (.long (x.toInt64) :: st) h := rfl
theorem s_Circ_holdPair_70  : wps rm K Q c_Circ_holdPair_70 kc ks loc (st) h = wps rm K Q c_Circ_holdPair_73 kc ks loc (.long (2) :: st) h := rfl
theorem s_Circ_holdPair_73  {a1 : Value} {a2 : Value} {a3 : Value} {a4 : Value} {x : Nat} : wps rm K Q c_Circ_holdPair_73 kc ks loc (a4 :: a3 :: a2 :: a1 :: .ref (x + 1) :: st) h = (eg_cls h x 1 ∧ st.length ≤ 4 ∧ eg_Cs n_Circ_setCircle (.ref (x + 1) :: [a1, a2, a3, a4]) h (fun v h9 => wps rm K Q c_Circ_holdPair_76 kc ks loc (v.toList ++ st) h9)) := eg_c1_4
theorem s_Circ_holdPair_76 {x : Nat} {l : eg_Lo} : wps rm K Q c_Circ_holdPair_76 kc ks (some (.ref x) :: l) (st) h = wps rm K Q c_Circ_holdPair_77 kc ks (some (.ref x) :: l) (.ref x :: st) h := rfl
theorem s_Circ_holdPair_77  {x : Nat} : wps rm K Q c_Circ_holdPair_77 kc ks loc (.ref (x + 1) :: st) h = (eg_cls h x 1 ∧ st.length ≤ 4 ∧ eg_Cs n_Circ_hasNoneOutside (.ref (x + 1) :: []) h (fun v h9 => wps rm K Q c_Circ_holdPair_80 kc ks loc (v.toList ++ st) h9)) := eg_c1_0
theorem s_Circ_holdPair_80 {x : Int32} : wps rm K Q c_Circ_holdPair_80 kc ks loc (.int x :: st) h = ((x = 0 → K 121 kc ks loc st h) ∧ (¬ x = 0 → wps rm K Q c_Circ_holdPair_83 kc ks loc (st) h)) := rfl
theorem s_Circ_holdPair_83 {x : Nat} {l0 : Option Value} {l : eg_Lo} : wps rm K Q c_Circ_holdPair_83 kc ks (l0 :: some (.ref x) :: l) (st) h = wps rm K Q c_Circ_holdPair_84 kc ks (l0 :: some (.ref x) :: l) (.ref x :: st) h := rfl
theorem s_Circ_holdPair_84 {x : Nat} : wps rm K Q c_Circ_holdPair_84 kc ks loc (.ref (x + 1) :: st) h = eg_gf h x 2 0 (fun v => wps rm K Q c_Circ_holdPair_87 kc ks loc (v :: st) h) := rfl
theorem s_Circ_holdPair_87  : wps rm K Q c_Circ_holdPair_87 kc ks loc (st) h = wps rm K Q c_Circ_holdPair_88 kc ks loc (.int (0) :: st) h := rfl
theorem s_Circ_holdPair_88 {x : Nat} {l : eg_Lo} : wps rm K Q c_Circ_holdPair_88 kc ks (some (.ref x) :: l) (st) h = wps rm K Q c_Circ_holdPair_89 kc ks (some (.ref x) :: l) (.ref x :: st) h := rfl
theorem s_Circ_holdPair_89 {x : Nat} : wps rm K Q c_Circ_holdPair_89 kc ks loc (.ref (x + 1) :: st) h = eg_gf h x 1 0 (fun v => wps rm K Q c_Circ_holdPair_92 kc ks loc (v :: st) h) := rfl
theorem s_Circ_holdPair_92 {x : Nat} : wps rm K Q c_Circ_holdPair_92 kc ks loc (.ref (x + 1) :: st) h = eg_gf h x 10 3 (fun v => wps rm K Q c_Circ_holdPair_95 kc ks loc (v :: st) h) := rfl
theorem s_Circ_holdPair_95 {x : Int32} {l0 l1 : Option Value} {l : eg_Lo} : wps rm K Q c_Circ_holdPair_95 kc ks (l0 :: l1 :: some (.int x) :: l) (st) h = wps rm K Q c_Circ_holdPair_96 kc ks (l0 :: l1 :: some (.int x) :: l) (.int x :: st) h := rfl
theorem s_Circ_holdPair_96 {x : Nat} {i : Int32} : wps rm K Q c_Circ_holdPair_96 kc ks loc (.int i :: .ref (x + 1) :: st) h = eg_ia h x i (fun v => wps rm K Q c_Circ_holdPair_97 kc ks loc (.int v :: st) h) := rfl
theorem s_Circ_holdPair_97 {x : Nat} {i : Int32} {v : Int32} : wps rm K Q c_Circ_holdPair_97 kc ks loc (.int v :: .int i :: .ref (x + 1) :: st) h = eg_is h x i v (fun h9 => wps rm K Q c_Circ_holdPair_98 kc ks loc (st) h9) := rfl
theorem s_Circ_holdPair_98 {x : Nat} {l0 : Option Value} {l : eg_Lo} : wps rm K Q c_Circ_holdPair_98 kc ks (l0 :: some (.ref x) :: l) (st) h = wps rm K Q c_Circ_holdPair_99 kc ks (l0 :: some (.ref x) :: l) (.ref x :: st) h := rfl
theorem s_Circ_holdPair_99 {x : Nat} : wps rm K Q c_Circ_holdPair_99 kc ks loc (.ref (x + 1) :: st) h = eg_gf h x 2 0 (fun v => wps rm K Q c_Circ_holdPair_102 kc ks loc (v :: st) h) := rfl
theorem s_Circ_holdPair_102  : wps rm K Q c_Circ_holdPair_102 kc ks loc (st) h = wps rm K Q c_Circ_holdPair_103 kc ks loc (.int (1) :: st) h := rfl
theorem s_Circ_holdPair_103 {x : Nat} {l : eg_Lo} : wps rm K Q c_Circ_holdPair_103 kc ks (some (.ref x) :: l) (st) h = wps rm K Q c_Circ_holdPair_104 kc ks (some (.ref x) :: l) (.ref x :: st) h := rfl
theorem s_Circ_holdPair_104 {x : Nat} : wps rm K Q c_Circ_holdPair_104 kc ks loc (.ref (x + 1) :: st) h = eg_gf h x 1 0 (fun v => wps rm K Q c_Circ_holdPair_107 kc ks loc (v :: st) h) := rfl
theorem s_Circ_holdPair_107 {x : Nat} : wps rm K Q c_Circ_holdPair_107 kc ks loc (.ref (x + 1) :: st) h = eg_gf h x 10 3 (fun v => wps rm K Q c_Circ_holdPair_110 kc ks loc (v :: st) h) := rfl
theorem s_Circ_holdPair_110 {x : Int32} {l0 l1 l2 : Option Value} {l : eg_Lo} : wps rm K Q c_Circ_holdPair_110 kc ks (l0 :: l1 :: l2 :: some (.int x) :: l) (st) h = wps rm K Q c_Circ_holdPair_111 kc ks (l0 :: l1 :: l2 :: some (.int x) :: l) (.int x :: st) h := rfl
theorem s_Circ_holdPair_111 {x : Nat} {i : Int32} : wps rm K Q c_Circ_holdPair_111 kc ks loc (.int i :: .ref (x + 1) :: st) h = eg_ia h x i (fun v => wps rm K Q c_Circ_holdPair_112 kc ks loc (.int v :: st) h) := rfl
theorem s_Circ_holdPair_112 {x : Nat} {i : Int32} {v : Int32} : wps rm K Q c_Circ_holdPair_112 kc ks loc (.int v :: .int i :: .ref (x + 1) :: st) h = eg_is h x i v (fun h9 => wps rm K Q c_Circ_holdPair_113 kc ks loc (st) h9) := rfl
theorem s_Circ_holdPair_113 {x : Nat} {l : eg_Lo} : wps rm K Q c_Circ_holdPair_113 kc ks (some (.ref x) :: l) (st) h = wps rm K Q c_Circ_holdPair_114 kc ks (some (.ref x) :: l) (.ref x :: st) h := rfl
theorem s_Circ_holdPair_114 {x : Nat} {l0 : Option Value} {l : eg_Lo} : wps rm K Q c_Circ_holdPair_114 kc ks (l0 :: some (.ref x) :: l) (st) h = wps rm K Q c_Circ_holdPair_115 kc ks (l0 :: some (.ref x) :: l) (.ref x :: st) h := rfl
theorem s_Circ_holdPair_115  : wps rm K Q c_Circ_holdPair_115 kc ks loc (st) h = wps rm K Q c_Circ_holdPair_116 kc ks loc (.int (2) :: st) h := rfl
theorem s_Circ_holdPair_116  {a1 : Value} {a2 : Value} {x : Nat} : wps rm K Q c_Circ_holdPair_116 kc ks loc (a2 :: a1 :: .ref (x + 1) :: st) h = (eg_cls h x 1 ∧ st.length ≤ 4 ∧ eg_Cs n_Circ_finish (.ref (x + 1) :: [a1, a2]) h (fun v h9 => wps rm K Q c_Circ_holdPair_119 kc ks loc (v.toList ++ st) h9)) := eg_c1_2
theorem s_Circ_holdPair_119  : wps rm K Q c_Circ_holdPair_119 kc ks loc (st) h = wps rm K Q c_Circ_holdPair_120 kc ks loc (.int (1) :: st) h := rfl
theorem s_Circ_holdPair_120 {x : Int32} : wps rm K Q c_Circ_holdPair_120 kc ks loc ([.int x]) h = (kc = rm.cells ∧ ((1 : Nat) = 1 → x = 0 ∨ x = 1) ∧ Q (some (.int x)) h) := rfl
theorem s_Circ_holdPair_121 {x : Int32} {l0 l1 l2 : Option Value} {l9 : eg_Lo} : wps rm K Q c_Circ_holdPair_121 kc ks (l0 :: l1 :: l2 :: some (.int x) :: l9) (st) h = wps rm K Q c_Circ_holdPair_124 kc ks (eg_set1 (l0 :: l1 :: l2 :: some (.int x) :: l9) 3 (.int (x + (1)))) (st) h := rfl
theorem s_Circ_holdPair_124  : wps rm K Q c_Circ_holdPair_124 kc ks loc (st) h = K 17 kc ks loc st h := rfl
theorem s_Circ_holdPair_127 {x : Int32} {l0 l1 : Option Value} {l9 : eg_Lo} : wps rm K Q c_Circ_holdPair_127 kc ks (l0 :: l1 :: some (.int x) :: l9) (st) h = wps rm K Q c_Circ_holdPair_130 kc ks (eg_set1 (l0 :: l1 :: some (.int x) :: l9) 2 (.int (x + (1)))) (st) h := rfl
theorem s_Circ_holdPair_130  : wps rm K Q c_Circ_holdPair_130 kc ks loc (st) h = K 2 kc ks loc st h := rfl
theorem s_Circ_holdPair_133  : wps rm K Q c_Circ_holdPair_133 kc ks loc (st) h = wps rm K Q c_Circ_holdPair_134 kc ks loc (.int (0) :: st) h := rfl
theorem s_Circ_holdPair_134 {x : Int32} : wps rm K Q c_Circ_holdPair_134 kc ks loc ([.int x]) h = (kc = rm.cells ∧ ((1 : Nat) = 1 → x = 0 ∨ x = 1) ∧ Q (some (.int x)) h) := rfl
def T_Circ_holdPair : List (Nat × List eg_I) := [(121, c_Circ_holdPair_121), (127, c_Circ_holdPair_127), (133, c_Circ_holdPair_133)]
theorem j_Circ_holdPair_121 {R : Nat → Nat → Nat → eg_Lo → List Value → List eg_E → Prop} {f pc0 : Nat} : eg_run rm R Q T_Circ_holdPair (f + 1) 121 kc ks loc st h = wps rm (eg_run rm R Q T_Circ_holdPair f) Q c_Circ_holdPair_121 kc ks loc st h := rfl
theorem j_Circ_holdPair_127 {R : Nat → Nat → Nat → eg_Lo → List Value → List eg_E → Prop} {f pc0 : Nat} : eg_run rm R Q T_Circ_holdPair (f + 1) 127 kc ks loc st h = wps rm (eg_run rm R Q T_Circ_holdPair f) Q c_Circ_holdPair_127 kc ks loc st h := rfl
theorem j_Circ_holdPair_133 {R : Nat → Nat → Nat → eg_Lo → List Value → List eg_E → Prop} {f pc0 : Nat} : eg_run rm R Q T_Circ_holdPair (f + 1) 133 kc ks loc st h = wps rm (eg_run rm R Q T_Circ_holdPair f) Q c_Circ_holdPair_133 kc ks loc st h := rfl
theorem j_Circ_holdPair_2 {R : Nat → Nat → Nat → eg_Lo → List Value → List eg_E → Prop} {f pc0 : Nat} : eg_run rm R Q T_Circ_holdPair (f + 1) 2 kc ks loc st h = R 2 kc ks loc st h := rfl
theorem j_Circ_holdPair_17 {R : Nat → Nat → Nat → eg_Lo → List Value → List eg_E → Prop} {f pc0 : Nat} : eg_run rm R Q T_Circ_holdPair (f + 1) 17 kc ks loc st h = R 17 kc ks loc st h := rfl
end
theorem q_Circ_holdPair : (T_Circ_holdPair.all fun q => eg_seq m_Circ_holdPair q.1 q.2) = true := by decide +kernel
theorem b_Circ_holdPair {as : List Value} {h : List eg_E} {Q : Option Value → List eg_E → Prop} (hf : (eg_fl as).length ≤ 4) (hw : wps (eg_rm m_Circ_holdPair) (eg_run (eg_rm m_Circ_holdPair) (eg_R m_Circ_holdPair Q (h.length + 0)) Q T_Circ_holdPair 5) Q c_Circ_holdPair_0 0 0 (eg_entry 4 as) [] h) : eg_Runs n_Circ_holdPair as h Q := eg_begin (d := m_Circ_holdPair) rfl (by decide) (by decide +kernel) q_Circ_holdPair hf hw
theorem p_Circ_holdPair_2 {Q : Option Value → List eg_E → Prop} {n0 kc ks : Nat} {loc : eg_Lo} {st : List Value} {h : List eg_E} (hw : wps (eg_rm m_Circ_holdPair) (eg_run (eg_rm m_Circ_holdPair) (eg_R m_Circ_holdPair Q n0) Q T_Circ_holdPair 5) Q c_Circ_holdPair_2 kc ks loc st h) : eg_R m_Circ_holdPair Q n0 2 kc ks loc st h := eg_go (by decide +kernel) q_Circ_holdPair hw
theorem p_Circ_holdPair_17 {Q : Option Value → List eg_E → Prop} {n0 kc ks : Nat} {loc : eg_Lo} {st : List Value} {h : List eg_E} (hw : wps (eg_rm m_Circ_holdPair) (eg_run (eg_rm m_Circ_holdPair) (eg_R m_Circ_holdPair Q n0) Q T_Circ_holdPair 5) Q c_Circ_holdPair_17 kc ks loc st h) : eg_R m_Circ_holdPair Q n0 17 kc ks loc st h := eg_go (by decide +kernel) q_Circ_holdPair hw
/-! ===== Circ_holdThree ===== -/
def c_Circ_holdThree_78 : List eg_I := .inl (78, 1, .ireturn, 0, 1) :: []
def c_Circ_holdThree_77 : List eg_I := .inl (77, 1, .iconst (1), 0, 0) :: c_Circ_holdThree_78
def c_Circ_holdThree_74 : List eg_I := .inr (74, 1, 53, n_Circ_finish, 2, 1, 0, 0) :: c_Circ_holdThree_77
def c_Circ_holdThree_73 : List eg_I := .inl (73, 1, .iload 2, 0, 0) :: c_Circ_holdThree_74
def c_Circ_holdThree_72 : List eg_I := .inl (72, 1, .aload 1, 0, 0) :: c_Circ_holdThree_73
def c_Circ_holdThree_71 : List eg_I := .inl (71, 1, .aload 0, 0, 0) :: c_Circ_holdThree_72
def c_Circ_holdThree_68 : List eg_I := .inl (68, 3, .goto (-55), 13, 0) :: []
def c_Circ_holdThree_65 : List eg_I := .inl (65, 3, .iinc 3 (1), 0, 0) :: c_Circ_holdThree_68
def c_Circ_holdThree_62 : List eg_I := .inl (62, 3, .iinc 2 (1), 0, 0) :: c_Circ_holdThree_65
def c_Circ_holdThree_61 : List eg_I := .inl (61, 1, .iastore, 0, 0) :: c_Circ_holdThree_62
def c_Circ_holdThree_60 : List eg_I := .inl (60, 1, .iaload, 0, 0) :: c_Circ_holdThree_61
def c_Circ_holdThree_59 : List eg_I := .inl (59, 1, .iload 3, 0, 0) :: c_Circ_holdThree_60
def c_Circ_holdThree_56 : List eg_I := .inl (56, 3, .getfield 50, 10, 3) :: c_Circ_holdThree_59
def c_Circ_holdThree_53 : List eg_I := .inl (53, 3, .getfield 12, 1, 0) :: c_Circ_holdThree_56
def c_Circ_holdThree_52 : List eg_I := .inl (52, 1, .aload 0, 0, 0) :: c_Circ_holdThree_53
def c_Circ_holdThree_51 : List eg_I := .inl (51, 1, .iload 2, 0, 0) :: c_Circ_holdThree_52
def c_Circ_holdThree_48 : List eg_I := .inl (48, 3, .getfield 44, 2, 0) :: c_Circ_holdThree_51
def c_Circ_holdThree_47 : List eg_I := .inl (47, 1, .aload 1, 0, 0) :: c_Circ_holdThree_48
def c_Circ_holdThree_44 : List eg_I := .inl (44, 3, .ifCond .eq (21), 65, 0) :: c_Circ_holdThree_47
def c_Circ_holdThree_41 : List eg_I := .inr (41, 1, 76, n_Circ_isNewPlace, 1, 1, 0, 0) :: c_Circ_holdThree_44
def c_Circ_holdThree_40 : List eg_I := .inl (40, 1, .iload 3, 0, 0) :: c_Circ_holdThree_41
def c_Circ_holdThree_39 : List eg_I := .inl (39, 1, .aload 0, 0, 0) :: c_Circ_holdThree_40
def c_Circ_holdThree_36 : List eg_I := .inl (36, 3, .ifCond .ne (29), 65, 0) :: c_Circ_holdThree_39
def c_Circ_holdThree_35 : List eg_I := .inl (35, 1, .lcmp, 0, 0) :: c_Circ_holdThree_36
def c_Circ_holdThree_34 : List eg_I := .inl (34, 1, .sipush (0), 0, 0) :: c_Circ_holdThree_35
def c_Circ_holdThree_31 : List eg_I := .inr (31, 1, 72, n_Circ_outside, 1, 1, 0, 0) :: c_Circ_holdThree_34
def c_Circ_holdThree_30 : List eg_I := .inl (30, 1, .iload 3, 0, 0) :: c_Circ_holdThree_31
def c_Circ_holdThree_29 : List eg_I := .inl (29, 1, .aload 0, 0, 0) :: c_Circ_holdThree_30
def c_Circ_holdThree_26 : List eg_I := .inl (26, 3, .if_icmp .ge (45), 71, 0) :: c_Circ_holdThree_29
def c_Circ_holdThree_25 : List eg_I := .inl (25, 1, .iconst (3), 0, 0) :: c_Circ_holdThree_26
def c_Circ_holdThree_24 : List eg_I := .inl (24, 1, .iload 2, 0, 0) :: c_Circ_holdThree_25
def c_Circ_holdThree_21 : List eg_I := .inl (21, 3, .if_icmp .ge (50), 71, 0) :: c_Circ_holdThree_24
def c_Circ_holdThree_18 : List eg_I := .inl (18, 3, .getfield 22, 10, 4) :: c_Circ_holdThree_21
def c_Circ_holdThree_15 : List eg_I := .inl (15, 3, .getfield 12, 1, 0) :: c_Circ_holdThree_18
def c_Circ_holdThree_14 : List eg_I := .inl (14, 1, .aload 0, 0, 0) :: c_Circ_holdThree_15
def c_Circ_holdThree_13 : List eg_I := .inl (13, 1, .iload 3, 0, 0) :: c_Circ_holdThree_14
def c_Circ_holdThree_12 : List eg_I := .inl (12, 1, .istore 3, 0, 0) :: [.inl (13, 0, .nop, 0, 0)]
def c_Circ_holdThree_11 : List eg_I := .inl (11, 1, .iconst (0), 0, 0) :: c_Circ_holdThree_12
def c_Circ_holdThree_10 : List eg_I := .inl (10, 1, .istore 2, 0, 0) :: c_Circ_holdThree_11
def c_Circ_holdThree_9 : List eg_I := .inl (9, 1, .iconst (0), 0, 0) :: c_Circ_holdThree_10
def c_Circ_holdThree_8 : List eg_I := .inl (8, 1, .ireturn, 0, 1) :: []
def c_Circ_holdThree_7 : List eg_I := .inl (7, 1, .iconst (0), 0, 0) :: c_Circ_holdThree_8
def c_Circ_holdThree_4 : List eg_I := .inl (4, 3, .ifCond .ne (5), 9, 0) :: c_Circ_holdThree_7
def c_Circ_holdThree_1 : List eg_I := .inr (1, 1, 69, n_Circ_findSharpThree, 0, 1, 0, 0) :: c_Circ_holdThree_4
def c_Circ_holdThree_0 : List eg_I := .inl (0, 1, .aload 0, 0, 0) :: c_Circ_holdThree_1
section
variable {rm : Room} {K : Nat → Nat → Nat → eg_Lo → List Value → List eg_E → Prop} {Q : Option Value → List eg_E → Prop} {kc ks : Nat} {loc : eg_Lo} {st : List Value} {h : List eg_E}
theorem s_Circ_holdThree_0 {x : Nat} {l : eg_Lo} : wps rm K Q c_Circ_holdThree_0 kc ks (some (.ref x) :: l) (st) h = wps rm K Q c_Circ_holdThree_1 kc ks (some (.ref x) :: l) (.ref x :: st) h := rfl
theorem s_Circ_holdThree_1  {x : Nat} : wps rm K Q c_Circ_holdThree_1 kc ks loc (.ref (x + 1) :: st) h = (eg_cls h x 1 ∧ st.length ≤ 4 ∧ eg_Cs n_Circ_findSharpThree (.ref (x + 1) :: []) h (fun v h9 => wps rm K Q c_Circ_holdThree_4 kc ks loc (v.toList ++ st) h9)) := eg_c1_0
theorem s_Circ_holdThree_4 {x : Int32} : wps rm K Q c_Circ_holdThree_4 kc ks loc (.int x :: st) h = ((¬ x = 0 → K 9 kc ks loc st h) ∧ (x = 0 → wps rm K Q c_Circ_holdThree_7 kc ks loc (st) h)) := rfl
theorem s_Circ_holdThree_7  : wps rm K Q c_Circ_holdThree_7 kc ks loc (st) h = wps rm K Q c_Circ_holdThree_8 kc ks loc (.int (0) :: st) h := rfl
theorem s_Circ_holdThree_8 {x : Int32} : wps rm K Q c_Circ_holdThree_8 kc ks loc ([.int x]) h = (kc = rm.cells ∧ ((1 : Nat) = 1 → x = 0 ∨ x = 1) ∧ Q (some (.int x)) h) := rfl
theorem s_Circ_holdThree_9  : wps rm K Q c_Circ_holdThree_9 kc ks loc (st) h = wps rm K Q c_Circ_holdThree_10 kc ks loc (.int (0) :: st) h := rfl
theorem s_Circ_holdThree_10 {x : Int32} : wps rm K Q c_Circ_holdThree_10 kc ks loc (.int x :: st) h = wps rm K Q c_Circ_holdThree_11 kc ks (eg_set1 loc 2 (.int x)) (st) h := rfl
theorem s_Circ_holdThree_11  : wps rm K Q c_Circ_holdThree_11 kc ks loc (st) h = wps rm K Q c_Circ_holdThree_12 kc ks loc (.int (0) :: st) h := rfl
theorem s_Circ_holdThree_12 {x : Int32} : wps rm K Q c_Circ_holdThree_12 kc ks loc (.int x :: st) h = K 13 kc ks (eg_set1 loc 3 (.int x)) (st) h := rfl
theorem s_Circ_holdThree_13 {x : Int32} {l0 l1 l2 : Option Value} {l : eg_Lo} : wps rm K Q c_Circ_holdThree_13 kc ks (l0 :: l1 :: l2 :: some (.int x) :: l) (st) h = wps rm K Q c_Circ_holdThree_14 kc ks (l0 :: l1 :: l2 :: some (.int x) :: l) (.int x :: st) h := rfl
theorem s_Circ_holdThree_14 {x : Nat} {l : eg_Lo} : wps rm K Q c_Circ_holdThree_14 kc ks (some (.ref x) :: l) (st) h = wps rm K Q c_Circ_holdThree_15 kc ks (some (.ref x) :: l) (.ref x :: st) h := rfl
theorem s_Circ_holdThree_15 {x : Nat} : wps rm K Q c_Circ_holdThree_15 kc ks loc (.ref (x + 1) :: st) h = eg_gf h x 1 0 (fun v => wps rm K Q c_Circ_holdThree_18 kc ks loc (v :: st) h) := rfl
theorem s_Circ_holdThree_18 {x : Nat} : wps rm K Q c_Circ_holdThree_18 kc ks loc (.ref (x + 1) :: st) h = eg_gf h x 10 4 (fun v => wps rm K Q c_Circ_holdThree_21 kc ks loc (v :: st) h) := rfl
theorem s_Circ_holdThree_21 {x y : Int32} : wps rm K Q c_Circ_holdThree_21 kc ks loc (.int y :: .int x :: st) h = ((y ≤ x → K 71 kc ks loc st h) ∧ (¬ y ≤ x → wps rm K Q c_Circ_holdThree_24 kc ks loc (st) h)) := rfl
theorem s_Circ_holdThree_24 {x : Int32} {l0 l1 : Option Value} {l : eg_Lo} : wps rm K Q c_Circ_holdThree_24 kc ks (l0 :: l1 :: some (.int x) :: l) (st) h = wps rm K Q c_Circ_holdThree_25 kc ks (l0 :: l1 :: some (.int x) :: l) (.int x :: st) h := rfl
theorem s_Circ_holdThree_25  : wps rm K Q c_Circ_holdThree_25 kc ks loc (st) h = wps rm K Q c_Circ_holdThree_26 kc ks loc (.int (3) :: st) h := rfl
theorem s_Circ_holdThree_26 {x y : Int32} : wps rm K Q c_Circ_holdThree_26 kc ks loc (.int y :: .int x :: st) h = ((y ≤ x → K 71 kc ks loc st h) ∧ (¬ y ≤ x → wps rm K Q c_Circ_holdThree_29 kc ks loc (st) h)) := rfl
theorem s_Circ_holdThree_29 {x : Nat} {l : eg_Lo} : wps rm K Q c_Circ_holdThree_29 kc ks (some (.ref x) :: l) (st) h = wps rm K Q c_Circ_holdThree_30 kc ks (some (.ref x) :: l) (.ref x :: st) h := rfl
theorem s_Circ_holdThree_30 {x : Int32} {l0 l1 l2 : Option Value} {l : eg_Lo} : wps rm K Q c_Circ_holdThree_30 kc ks (l0 :: l1 :: l2 :: some (.int x) :: l) (st) h = wps rm K Q c_Circ_holdThree_31 kc ks (l0 :: l1 :: l2 :: some (.int x) :: l) (.int x :: st) h := rfl
theorem s_Circ_holdThree_31  {a1 : Value} {x : Nat} : wps rm K Q c_Circ_holdThree_31 kc ks loc (a1 :: .ref (x + 1) :: st) h = (eg_cls h x 1 ∧ st.length ≤ 4 ∧ eg_Cs n_Circ_outside (.ref (x + 1) :: [a1]) h (fun v h9 => wps rm K Q c_Circ_holdThree_34 kc ks loc (v.toList ++ st) h9)) := eg_c1_1
theorem s_Circ_holdThree_34  : wps rm K Q c_Circ_holdThree_34 kc ks loc (st) h = wps rm K Q c_Circ_holdThree_35 kc ks loc (.long (0) :: st) h := rfl
theorem s_Circ_holdThree_35 {x y : Int64} : wps rm K Q c_Circ_holdThree_35 kc ks loc (.long y :: .long x :: st) h = wps rm K Q c_Circ_holdThree_36 kc ks loc (.int (lg_cmp x y) :: st) h := rfl
theorem s_Circ_holdThree_36 {x : Int32} : wps rm K Q c_Circ_holdThree_36 kc ks loc (.int x :: st) h = ((¬ x = 0 → K 65 kc ks loc st h) ∧ (x = 0 → wps rm K Q c_Circ_holdThree_39 kc ks loc (st) h)) := rfl
theorem s_Circ_holdThree_39 {x : Nat} {l : eg_Lo} : wps rm K Q c_Circ_holdThree_39 kc ks (some (.ref x) :: l) (st) h = wps rm K Q c_Circ_holdThree_40 kc ks (some (.ref x) :: l) (.ref x :: st) h := rfl
theorem s_Circ_holdThree_40 {x : Int32} {l0 l1 l2 : Option Value} {l : eg_Lo} : wps rm K Q c_Circ_holdThree_40 kc ks (l0 :: l1 :: l2 :: some (.int x) :: l) (st) h = wps rm K Q c_Circ_holdThree_41 kc ks (l0 :: l1 :: l2 :: some (.int x) :: l) (.int x :: st) h := rfl
theorem s_Circ_holdThree_41  {a1 : Value} {x : Nat} : wps rm K Q c_Circ_holdThree_41 kc ks loc (a1 :: .ref (x + 1) :: st) h = (eg_cls h x 1 ∧ st.length ≤ 4 ∧ eg_Cs n_Circ_isNewPlace (.ref (x + 1) :: [a1]) h (fun v h9 => wps rm K Q c_Circ_holdThree_44 kc ks loc (v.toList ++ st) h9)) := eg_c1_1
theorem s_Circ_holdThree_44 {x : Int32} : wps rm K Q c_Circ_holdThree_44 kc ks loc (.int x :: st) h = ((x = 0 → K 65 kc ks loc st h) ∧ (¬ x = 0 → wps rm K Q c_Circ_holdThree_47 kc ks loc (st) h)) := rfl
theorem s_Circ_holdThree_47 {x : Nat} {l0 : Option Value} {l : eg_Lo} : wps rm K Q c_Circ_holdThree_47 kc ks (l0 :: some (.ref x) :: l) (st) h = wps rm K Q c_Circ_holdThree_48 kc ks (l0 :: some (.ref x) :: l) (.ref x :: st) h := rfl
theorem s_Circ_holdThree_48 {x : Nat} : wps rm K Q c_Circ_holdThree_48 kc ks loc (.ref (x + 1) :: st) h = eg_gf h x 2 0 (fun v => wps rm K Q c_Circ_holdThree_51 kc ks loc (v :: st) h) := rfl
theorem s_Circ_holdThree_51 {x : Int32} {l0 l1 : Option Value} {l : eg_Lo} : wps rm K Q c_Circ_holdThree_51 kc ks (l0 :: l1 :: some (.int x) :: l) (st) h = wps rm K Q c_Circ_holdThree_52 kc ks (l0 :: l1 :: some (.int x) :: l) (.int x :: st) h := rfl
theorem s_Circ_holdThree_52 {x : Nat} {l : eg_Lo} : wps rm K Q c_Circ_holdThree_52 kc ks (some (.ref x) :: l) (st) h = wps rm K Q c_Circ_holdThree_53 kc ks (some (.ref x) :: l) (.ref x :: st) h := rfl
theorem s_Circ_holdThree_53 {x : Nat} : wps rm K Q c_Circ_holdThree_53 kc ks loc (.ref (x + 1) :: st) h = eg_gf h x 1 0 (fun v => wps rm K Q c_Circ_holdThree_56 kc ks loc (v :: st) h) := rfl
theorem s_Circ_holdThree_56 {x : Nat} : wps rm K Q c_Circ_holdThree_56 kc ks loc (.ref (x + 1) :: st) h = eg_gf h x 10 3 (fun v => wps rm K Q c_Circ_holdThree_59 kc ks loc (v :: st) h) := rfl
theorem s_Circ_holdThree_59 {x : Int32} {l0 l1 l2 : Option Value} {l : eg_Lo} : wps rm K Q c_Circ_holdThree_59 kc ks (l0 :: l1 :: l2 :: some (.int x) :: l) (st) h = wps rm K Q c_Circ_holdThree_60 kc ks (l0 :: l1 :: l2 :: some (.int x) :: l) (.int x :: st) h := rfl
theorem s_Circ_holdThree_60 {x : Nat} {i : Int32} : wps rm K Q c_Circ_holdThree_60 kc ks loc (.int i :: .ref (x + 1) :: st) h = eg_ia h x i (fun v => wps rm K Q c_Circ_holdThree_61 kc ks loc (.int v :: st) h) := rfl
theorem s_Circ_holdThree_61 {x : Nat} {i : Int32} {v : Int32} : wps rm K Q c_Circ_holdThree_61 kc ks loc (.int v :: .int i :: .ref (x + 1) :: st) h = eg_is h x i v (fun h9 => wps rm K Q c_Circ_holdThree_62 kc ks loc (st) h9) := rfl
theorem s_Circ_holdThree_62 {x : Int32} {l0 l1 : Option Value} {l9 : eg_Lo} : wps rm K Q c_Circ_holdThree_62 kc ks (l0 :: l1 :: some (.int x) :: l9) (st) h = wps rm K Q c_Circ_holdThree_65 kc ks (eg_set1 (l0 :: l1 :: some (.int x) :: l9) 2 (.int (x + (1)))) (st) h := rfl
theorem s_Circ_holdThree_65 {x : Int32} {l0 l1 l2 : Option Value} {l9 : eg_Lo} : wps rm K Q c_Circ_holdThree_65 kc ks (l0 :: l1 :: l2 :: some (.int x) :: l9) (st) h = wps rm K Q c_Circ_holdThree_68 kc ks (eg_set1 (l0 :: l1 :: l2 :: some (.int x) :: l9) 3 (.int (x + (1)))) (st) h := rfl
theorem s_Circ_holdThree_68  : wps rm K Q c_Circ_holdThree_68 kc ks loc (st) h = K 13 kc ks loc st h := rfl
theorem s_Circ_holdThree_71 {x : Nat} {l : eg_Lo} : wps rm K Q c_Circ_holdThree_71 kc ks (some (.ref x) :: l) (st) h = wps rm K Q c_Circ_holdThree_72 kc ks (some (.ref x) :: l) (.ref x :: st) h := rfl
theorem s_Circ_holdThree_72 {x : Nat} {l0 : Option Value} {l : eg_Lo} : wps rm K Q c_Circ_holdThree_72 kc ks (l0 :: some (.ref x) :: l) (st) h = wps rm K Q c_Circ_holdThree_73 kc ks (l0 :: some (.ref x) :: l) (.ref x :: st) h := rfl
theorem s_Circ_holdThree_73 {x : Int32} {l0 l1 : Option Value} {l : eg_Lo} : wps rm K Q c_Circ_holdThree_73 kc ks (l0 :: l1 :: some (.int x) :: l) (st) h = wps rm K Q c_Circ_holdThree_74 kc ks (l0 :: l1 :: some (.int x) :: l) (.int x :: st) h := rfl
theorem s_Circ_holdThree_74  {a1 : Value} {a2 : Value} {x : Nat} : wps rm K Q c_Circ_holdThree_74 kc ks loc (a2 :: a1 :: .ref (x + 1) :: st) h = (eg_cls h x 1 ∧ st.length ≤ 4 ∧ eg_Cs n_Circ_finish (.ref (x + 1) :: [a1, a2]) h (fun v h9 => wps rm K Q c_Circ_holdThree_77 kc ks loc (v.toList ++ st) h9)) := eg_c1_2
theorem s_Circ_holdThree_77  : wps rm K Q c_Circ_holdThree_77 kc ks loc (st) h = wps rm K Q c_Circ_holdThree_78 kc ks loc (.int (1) :: st) h := rfl
theorem s_Circ_holdThree_78 {x : Int32} : wps rm K Q c_Circ_holdThree_78 kc ks loc ([.int x]) h = (kc = rm.cells ∧ ((1 : Nat) = 1 → x = 0 ∨ x = 1) ∧ Q (some (.int x)) h) := rfl
def T_Circ_holdThree : List (Nat × List eg_I) := [(9, c_Circ_holdThree_9), (65, c_Circ_holdThree_65), (71, c_Circ_holdThree_71)]
theorem j_Circ_holdThree_9 {R : Nat → Nat → Nat → eg_Lo → List Value → List eg_E → Prop} {f pc0 : Nat} : eg_run rm R Q T_Circ_holdThree (f + 1) 9 kc ks loc st h = wps rm (eg_run rm R Q T_Circ_holdThree f) Q c_Circ_holdThree_9 kc ks loc st h := rfl
theorem j_Circ_holdThree_65 {R : Nat → Nat → Nat → eg_Lo → List Value → List eg_E → Prop} {f pc0 : Nat} : eg_run rm R Q T_Circ_holdThree (f + 1) 65 kc ks loc st h = wps rm (eg_run rm R Q T_Circ_holdThree f) Q c_Circ_holdThree_65 kc ks loc st h := rfl
theorem j_Circ_holdThree_71 {R : Nat → Nat → Nat → eg_Lo → List Value → List eg_E → Prop} {f pc0 : Nat} : eg_run rm R Q T_Circ_holdThree (f + 1) 71 kc ks loc st h = wps rm (eg_run rm R Q T_Circ_holdThree f) Q c_Circ_holdThree_71 kc ks loc st h := rfl
theorem j_Circ_holdThree_13 {R : Nat → Nat → Nat → eg_Lo → List Value → List eg_E → Prop} {f pc0 : Nat} : eg_run rm R Q T_Circ_holdThree (f + 1) 13 kc ks loc st h = R 13 kc ks loc st h := rfl
end
theorem q_Circ_holdThree : (T_Circ_holdThree.all fun q => eg_seq m_Circ_holdThree q.1 q.2) = true := by decide +kernel
theorem b_Circ_holdThree {as : List Value} {h : List eg_E} {Q : Option Value → List eg_E → Prop} (hf : (eg_fl as).length ≤ 4) (hw : wps (eg_rm m_Circ_holdThree) (eg_run (eg_rm m_Circ_holdThree) (eg_R m_Circ_holdThree Q (h.length + 0)) Q T_Circ_holdThree 5) Q c_Circ_holdThree_0 0 0 (eg_entry 4 as) [] h) : eg_Runs n_Circ_holdThree as h Q := eg_begin (d := m_Circ_holdThree) rfl (by decide) (by decide +kernel) q_Circ_holdThree hf hw
theorem p_Circ_holdThree_13 {Q : Option Value → List eg_E → Prop} {n0 kc ks : Nat} {loc : eg_Lo} {st : List Value} {h : List eg_E} (hw : wps (eg_rm m_Circ_holdThree) (eg_run (eg_rm m_Circ_holdThree) (eg_R m_Circ_holdThree Q n0) Q T_Circ_holdThree 5) Q c_Circ_holdThree_13 kc ks loc st h) : eg_R m_Circ_holdThree Q n0 13 kc ks loc st h := eg_go (by decide +kernel) q_Circ_holdThree hw
/-! ===== Circ_findSharpThree ===== -/
def c_Circ_findSharpThree_108 : List eg_I := .inl (108, 1, .ireturn, 0, 1) :: []
def c_Circ_findSharpThree_107 : List eg_I := .inl (107, 1, .iconst (0), 0, 0) :: c_Circ_findSharpThree_108
def c_Circ_findSharpThree_104 : List eg_I := .inl (104, 3, .goto (-102), 2, 0) :: []
def c_Circ_findSharpThree_101 : List eg_I := .inl (101, 3, .iinc 1 (1), 0, 0) :: c_Circ_findSharpThree_104
def c_Circ_findSharpThree_98 : List eg_I := .inl (98, 3, .goto (-81), 17, 0) :: []
def c_Circ_findSharpThree_95 : List eg_I := .inl (95, 3, .iinc 2 (1), 0, 0) :: c_Circ_findSharpThree_98
def c_Circ_findSharpThree_92 : List eg_I := .inl (92, 3, .goto (-60), 32, 0) :: []
def c_Circ_findSharpThree_89 : List eg_I := .inl (89, 3, .iinc 3 (1), 0, 0) :: c_Circ_findSharpThree_92
def c_Circ_findSharpThree_88 : List eg_I := .inl (88, 1, .ireturn, 0, 1) :: []
def c_Circ_findSharpThree_87 : List eg_I := .inl (87, 1, .iconst (1), 0, 0) :: c_Circ_findSharpThree_88
def c_Circ_findSharpThree_84 : List eg_I := .inl (84, 3, .ifCond .eq (5), 89, 0) :: c_Circ_findSharpThree_87
def c_Circ_findSharpThree_81 : List eg_I := .inr (81, 1, 65, n_Circ_hasNoneOutside, 0, 1, 0, 0) :: c_Circ_findSharpThree_84
def c_Circ_findSharpThree_80 : List eg_I := .inl (80, 1, .aload 0, 0, 0) :: c_Circ_findSharpThree_81
def c_Circ_findSharpThree_77 : List eg_I := .inr (77, 1, 84, n_Circ_setCircleOfThree, 3, 1, 0, 0) :: c_Circ_findSharpThree_80
def c_Circ_findSharpThree_76 : List eg_I := .inl (76, 1, .iload 3, 0, 0) :: c_Circ_findSharpThree_77
def c_Circ_findSharpThree_75 : List eg_I := .inl (75, 1, .iload 2, 0, 0) :: c_Circ_findSharpThree_76
def c_Circ_findSharpThree_74 : List eg_I := .inl (74, 1, .iload 1, 0, 0) :: c_Circ_findSharpThree_75
def c_Circ_findSharpThree_73 : List eg_I := .inl (73, 1, .aload 0, 0, 0) :: c_Circ_findSharpThree_74
def c_Circ_findSharpThree_70 : List eg_I := .inl (70, 3, .ifCond .eq (19), 89, 0) :: c_Circ_findSharpThree_73
def c_Circ_findSharpThree_67 : List eg_I := .inr (67, 1, 80, n_Circ_isSharp, 3, 1, 0, 0) :: c_Circ_findSharpThree_70
def c_Circ_findSharpThree_66 : List eg_I := .inl (66, 1, .iload 2, 0, 0) :: c_Circ_findSharpThree_67
def c_Circ_findSharpThree_65 : List eg_I := .inl (65, 1, .iload 1, 0, 0) :: c_Circ_findSharpThree_66
def c_Circ_findSharpThree_64 : List eg_I := .inl (64, 1, .iload 3, 0, 0) :: c_Circ_findSharpThree_65
def c_Circ_findSharpThree_63 : List eg_I := .inl (63, 1, .aload 0, 0, 0) :: c_Circ_findSharpThree_64
def c_Circ_findSharpThree_60 : List eg_I := .inl (60, 3, .ifCond .eq (29), 89, 0) :: c_Circ_findSharpThree_63
def c_Circ_findSharpThree_57 : List eg_I := .inr (57, 1, 80, n_Circ_isSharp, 3, 1, 0, 0) :: c_Circ_findSharpThree_60
def c_Circ_findSharpThree_56 : List eg_I := .inl (56, 1, .iload 1, 0, 0) :: c_Circ_findSharpThree_57
def c_Circ_findSharpThree_55 : List eg_I := .inl (55, 1, .iload 3, 0, 0) :: c_Circ_findSharpThree_56
def c_Circ_findSharpThree_54 : List eg_I := .inl (54, 1, .iload 2, 0, 0) :: c_Circ_findSharpThree_55
def c_Circ_findSharpThree_53 : List eg_I := .inl (53, 1, .aload 0, 0, 0) :: c_Circ_findSharpThree_54
def c_Circ_findSharpThree_50 : List eg_I := .inl (50, 3, .ifCond .eq (39), 89, 0) :: c_Circ_findSharpThree_53
def c_Circ_findSharpThree_47 : List eg_I := .inr (47, 1, 80, n_Circ_isSharp, 3, 1, 0, 0) :: c_Circ_findSharpThree_50
def c_Circ_findSharpThree_46 : List eg_I := .inl (46, 1, .iload 3, 0, 0) :: c_Circ_findSharpThree_47
def c_Circ_findSharpThree_45 : List eg_I := .inl (45, 1, .iload 2, 0, 0) :: c_Circ_findSharpThree_46
def c_Circ_findSharpThree_44 : List eg_I := .inl (44, 1, .iload 1, 0, 0) :: c_Circ_findSharpThree_45
def c_Circ_findSharpThree_43 : List eg_I := .inl (43, 1, .aload 0, 0, 0) :: c_Circ_findSharpThree_44
def c_Circ_findSharpThree_40 : List eg_I := .inl (40, 3, .if_icmp .ge (55), 95, 0) :: c_Circ_findSharpThree_43
def c_Circ_findSharpThree_37 : List eg_I := .inl (37, 3, .getfield 22, 10, 4) :: c_Circ_findSharpThree_40
def c_Circ_findSharpThree_34 : List eg_I := .inl (34, 3, .getfield 12, 1, 0) :: c_Circ_findSharpThree_37
def c_Circ_findSharpThree_33 : List eg_I := .inl (33, 1, .aload 0, 0, 0) :: c_Circ_findSharpThree_34
def c_Circ_findSharpThree_32 : List eg_I := .inl (32, 1, .iload 3, 0, 0) :: c_Circ_findSharpThree_33
def c_Circ_findSharpThree_31 : List eg_I := .inl (31, 1, .istore 3, 0, 0) :: [.inl (32, 0, .nop, 0, 0)]
def c_Circ_findSharpThree_30 : List eg_I := .inl (30, 1, .iadd, 0, 0) :: c_Circ_findSharpThree_31
def c_Circ_findSharpThree_29 : List eg_I := .inl (29, 1, .iconst (1), 0, 0) :: c_Circ_findSharpThree_30
def c_Circ_findSharpThree_28 : List eg_I := .inl (28, 1, .iload 2, 0, 0) :: c_Circ_findSharpThree_29
def c_Circ_findSharpThree_25 : List eg_I := .inl (25, 3, .if_icmp .ge (76), 101, 0) :: c_Circ_findSharpThree_28
def c_Circ_findSharpThree_22 : List eg_I := .inl (22, 3, .getfield 22, 10, 4) :: c_Circ_findSharpThree_25
def c_Circ_findSharpThree_19 : List eg_I := .inl (19, 3, .getfield 12, 1, 0) :: c_Circ_findSharpThree_22
def c_Circ_findSharpThree_18 : List eg_I := .inl (18, 1, .aload 0, 0, 0) :: c_Circ_findSharpThree_19
def c_Circ_findSharpThree_17 : List eg_I := .inl (17, 1, .iload 2, 0, 0) :: c_Circ_findSharpThree_18
def c_Circ_findSharpThree_16 : List eg_I := .inl (16, 1, .istore 2, 0, 0) :: [.inl (17, 0, .nop, 0, 0)]
def c_Circ_findSharpThree_15 : List eg_I := .inl (15, 1, .iadd, 0, 0) :: c_Circ_findSharpThree_16
def c_Circ_findSharpThree_14 : List eg_I := .inl (14, 1, .iconst (1), 0, 0) :: c_Circ_findSharpThree_15
def c_Circ_findSharpThree_13 : List eg_I := .inl (13, 1, .iload 1, 0, 0) :: c_Circ_findSharpThree_14
def c_Circ_findSharpThree_10 : List eg_I := .inl (10, 3, .if_icmp .ge (97), 107, 0) :: c_Circ_findSharpThree_13
def c_Circ_findSharpThree_7 : List eg_I := .inl (7, 3, .getfield 22, 10, 4) :: c_Circ_findSharpThree_10
def c_Circ_findSharpThree_4 : List eg_I := .inl (4, 3, .getfield 12, 1, 0) :: c_Circ_findSharpThree_7
def c_Circ_findSharpThree_3 : List eg_I := .inl (3, 1, .aload 0, 0, 0) :: c_Circ_findSharpThree_4
def c_Circ_findSharpThree_2 : List eg_I := .inl (2, 1, .iload 1, 0, 0) :: c_Circ_findSharpThree_3
def c_Circ_findSharpThree_1 : List eg_I := .inl (1, 1, .istore 1, 0, 0) :: [.inl (2, 0, .nop, 0, 0)]
def c_Circ_findSharpThree_0 : List eg_I := .inl (0, 1, .iconst (0), 0, 0) :: c_Circ_findSharpThree_1
section
variable {rm : Room} {K : Nat → Nat → Nat → eg_Lo → List Value → List eg_E → Prop} {Q : Option Value → List eg_E → Prop} {kc ks : Nat} {loc : eg_Lo} {st : List Value} {h : List eg_E}
theorem s_Circ_findSharpThree_0  : wps rm K Q c_Circ_findSharpThree_0 kc ks loc (st) h = wps rm K Q c_Circ_findSharpThree_1 kc ks loc (.int (0) :: st) h := rfl
theorem s_Circ_findSharpThree_1 {x : Int32} : wps rm K Q c_Circ_findSharpThree_1 kc ks loc (.int x :: st) h = K 2 kc ks (eg_set1 loc 1 (.int x)) (st) h := rfl
theorem s_Circ_findSharpThree_2 {x : Int32} {l0 : Option Value} {l : eg_Lo} : wps rm K Q c_Circ_findSharpThree_2 kc ks (l0 :: some (.int x) :: l) (st) h = wps rm K Q c_Circ_findSharpThree_3 kc ks (l0 :: some (.int x) :: l) (.int x :: st) h := rfl
theorem s_Circ_findSharpThree_3 {x : Nat} {l : eg_Lo} : wps rm K Q c_Circ_findSharpThree_3 kc ks (some (.ref x) :: l) (st) h = wps rm K Q c_Circ_findSharpThree_4 kc ks (some (.ref x) :: l) (.ref x :: st) h := rfl
theorem s_Circ_findSharpThree_4 {x : Nat} : wps rm K Q c_Circ_findSharpThree_4 kc ks loc (.ref (x + 1) :: st) h = eg_gf h x 1 0 (fun v => wps rm K Q c_Circ_findSharpThree_7 kc ks loc (v :: st) h) := rfl
theorem s_Circ_findSharpThree_7 {x : Nat} : wps rm K Q c_Circ_findSharpThree_7 kc ks loc (.ref (x + 1) :: st) h = eg_gf h x 10 4 (fun v => wps rm K Q c_Circ_findSharpThree_10 kc ks loc (v :: st) h) := rfl
theorem s_Circ_findSharpThree_10 {x y : Int32} : wps rm K Q c_Circ_findSharpThree_10 kc ks loc (.int y :: .int x :: st) h = ((y ≤ x → K 107 kc ks loc st h) ∧ (¬ y ≤ x → wps rm K Q c_Circ_findSharpThree_13 kc ks loc (st) h)) := rfl
theorem s_Circ_findSharpThree_13 {x : Int32} {l0 : Option Value} {l : eg_Lo} : wps rm K Q c_Circ_findSharpThree_13 kc ks (l0 :: some (.int x) :: l) (st) h = wps rm K Q c_Circ_findSharpThree_14 kc ks (l0 :: some (.int x) :: l) (.int x :: st) h := rfl
theorem s_Circ_findSharpThree_14  : wps rm K Q c_Circ_findSharpThree_14 kc ks loc (st) h = wps rm K Q c_Circ_findSharpThree_15 kc ks loc (.int (1) :: st) h := rfl
theorem s_Circ_findSharpThree_15 {x y : Int32} : wps rm K Q c_Circ_findSharpThree_15 kc ks loc (.int y :: .int x :: st) h = wps rm K Q c_Circ_findSharpThree_16 kc ks loc (.int (x + y) :: st) h := rfl
theorem s_Circ_findSharpThree_16 {x : Int32} : wps rm K Q c_Circ_findSharpThree_16 kc ks loc (.int x :: st) h = K 17 kc ks (eg_set1 loc 2 (.int x)) (st) h := rfl
theorem s_Circ_findSharpThree_17 {x : Int32} {l0 l1 : Option Value} {l : eg_Lo} : wps rm K Q c_Circ_findSharpThree_17 kc ks (l0 :: l1 :: some (.int x) :: l) (st) h = wps rm K Q c_Circ_findSharpThree_18 kc ks (l0 :: l1 :: some (.int x) :: l) (.int x :: st) h := rfl
theorem s_Circ_findSharpThree_18 {x : Nat} {l : eg_Lo} : wps rm K Q c_Circ_findSharpThree_18 kc ks (some (.ref x) :: l) (st) h = wps rm K Q c_Circ_findSharpThree_19 kc ks (some (.ref x) :: l) (.ref x :: st) h := rfl
theorem s_Circ_findSharpThree_19 {x : Nat} : wps rm K Q c_Circ_findSharpThree_19 kc ks loc (.ref (x + 1) :: st) h = eg_gf h x 1 0 (fun v => wps rm K Q c_Circ_findSharpThree_22 kc ks loc (v :: st) h) := rfl
theorem s_Circ_findSharpThree_22 {x : Nat} : wps rm K Q c_Circ_findSharpThree_22 kc ks loc (.ref (x + 1) :: st) h = eg_gf h x 10 4 (fun v => wps rm K Q c_Circ_findSharpThree_25 kc ks loc (v :: st) h) := rfl
theorem s_Circ_findSharpThree_25 {x y : Int32} : wps rm K Q c_Circ_findSharpThree_25 kc ks loc (.int y :: .int x :: st) h = ((y ≤ x → K 101 kc ks loc st h) ∧ (¬ y ≤ x → wps rm K Q c_Circ_findSharpThree_28 kc ks loc (st) h)) := rfl
theorem s_Circ_findSharpThree_28 {x : Int32} {l0 l1 : Option Value} {l : eg_Lo} : wps rm K Q c_Circ_findSharpThree_28 kc ks (l0 :: l1 :: some (.int x) :: l) (st) h = wps rm K Q c_Circ_findSharpThree_29 kc ks (l0 :: l1 :: some (.int x) :: l) (.int x :: st) h := rfl
theorem s_Circ_findSharpThree_29  : wps rm K Q c_Circ_findSharpThree_29 kc ks loc (st) h = wps rm K Q c_Circ_findSharpThree_30 kc ks loc (.int (1) :: st) h := rfl
theorem s_Circ_findSharpThree_30 {x y : Int32} : wps rm K Q c_Circ_findSharpThree_30 kc ks loc (.int y :: .int x :: st) h = wps rm K Q c_Circ_findSharpThree_31 kc ks loc (.int (x + y) :: st) h := rfl
theorem s_Circ_findSharpThree_31 {x : Int32} : wps rm K Q c_Circ_findSharpThree_31 kc ks loc (.int x :: st) h = K 32 kc ks (eg_set1 loc 3 (.int x)) (st) h := rfl
theorem s_Circ_findSharpThree_32 {x : Int32} {l0 l1 l2 : Option Value} {l : eg_Lo} : wps rm K Q c_Circ_findSharpThree_32 kc ks (l0 :: l1 :: l2 :: some (.int x) :: l) (st) h = wps rm K Q c_Circ_findSharpThree_33 kc ks (l0 :: l1 :: l2 :: some (.int x) :: l) (.int x :: st) h := rfl
theorem s_Circ_findSharpThree_33 {x : Nat} {l : eg_Lo} : wps rm K Q c_Circ_findSharpThree_33 kc ks (some (.ref x) :: l) (st) h = wps rm K Q c_Circ_findSharpThree_34 kc ks (some (.ref x) :: l) (.ref x :: st) h := rfl
theorem s_Circ_findSharpThree_34 {x : Nat} : wps rm K Q c_Circ_findSharpThree_34 kc ks loc (.ref (x + 1) :: st) h = eg_gf h x 1 0 (fun v => wps rm K Q c_Circ_findSharpThree_37 kc ks loc (v :: st) h) := rfl
theorem s_Circ_findSharpThree_37 {x : Nat} : wps rm K Q c_Circ_findSharpThree_37 kc ks loc (.ref (x + 1) :: st) h = eg_gf h x 10 4 (fun v => wps rm K Q c_Circ_findSharpThree_40 kc ks loc (v :: st) h) := rfl
theorem s_Circ_findSharpThree_40 {x y : Int32} : wps rm K Q c_Circ_findSharpThree_40 kc ks loc (.int y :: .int x :: st) h = ((y ≤ x → K 95 kc ks loc st h) ∧ (¬ y ≤ x → wps rm K Q c_Circ_findSharpThree_43 kc ks loc (st) h)) := rfl
theorem s_Circ_findSharpThree_43 {x : Nat} {l : eg_Lo} : wps rm K Q c_Circ_findSharpThree_43 kc ks (some (.ref x) :: l) (st) h = wps rm K Q c_Circ_findSharpThree_44 kc ks (some (.ref x) :: l) (.ref x :: st) h := rfl
theorem s_Circ_findSharpThree_44 {x : Int32} {l0 : Option Value} {l : eg_Lo} : wps rm K Q c_Circ_findSharpThree_44 kc ks (l0 :: some (.int x) :: l) (st) h = wps rm K Q c_Circ_findSharpThree_45 kc ks (l0 :: some (.int x) :: l) (.int x :: st) h := rfl
theorem s_Circ_findSharpThree_45 {x : Int32} {l0 l1 : Option Value} {l : eg_Lo} : wps rm K Q c_Circ_findSharpThree_45 kc ks (l0 :: l1 :: some (.int x) :: l) (st) h = wps rm K Q c_Circ_findSharpThree_46 kc ks (l0 :: l1 :: some (.int x) :: l) (.int x :: st) h := rfl
theorem s_Circ_findSharpThree_46 {x : Int32} {l0 l1 l2 : Option Value} {l : eg_Lo} : wps rm K Q c_Circ_findSharpThree_46 kc ks (l0 :: l1 :: l2 :: some (.int x) :: l) (st) h = wps rm K Q c_Circ_findSharpThree_47 kc ks (l0 :: l1 :: l2 :: some (.int x) :: l) (.int x :: st) h := rfl
theorem s_Circ_findSharpThree_47  {a1 : Value} {a2 : Value} {a3 : Value} {x : Nat} : wps rm K Q c_Circ_findSharpThree_47 kc ks loc (a3 :: a2 :: a1 :: .ref (x + 1) :: st) h = (eg_cls h x 1 ∧ st.length ≤ 4 ∧ eg_Cs n_Circ_isSharp (.ref (x + 1) :: [a1, a2, a3]) h (fun v h9 => wps rm K Q c_Circ_findSharpThree_50 kc ks loc (v.toList ++ st) h9)) := eg_c1_3
theorem s_Circ_findSharpThree_50 {x : Int32} : wps rm K Q c_Circ_findSharpThree_50 kc ks loc (.int x :: st) h = ((x = 0 → K 89 kc ks loc st h) ∧ (¬ x = 0 → wps rm K Q c_Circ_findSharpThree_53 kc ks loc (st) h)) := rfl
theorem s_Circ_findSharpThree_53 {x : Nat} {l : eg_Lo} : wps rm K Q c_Circ_findSharpThree_53 kc ks (some (.ref x) :: l) (st) h = wps rm K Q c_Circ_findSharpThree_54 kc ks (some (.ref x) :: l) (.ref x :: st) h := rfl
theorem s_Circ_findSharpThree_54 {x : Int32} {l0 l1 : Option Value} {l : eg_Lo} : wps rm K Q c_Circ_findSharpThree_54 kc ks (l0 :: l1 :: some (.int x) :: l) (st) h = wps rm K Q c_Circ_findSharpThree_55 kc ks (l0 :: l1 :: some (.int x) :: l) (.int x :: st) h := rfl
theorem s_Circ_findSharpThree_55 {x : Int32} {l0 l1 l2 : Option Value} {l : eg_Lo} : wps rm K Q c_Circ_findSharpThree_55 kc ks (l0 :: l1 :: l2 :: some (.int x) :: l) (st) h = wps rm K Q c_Circ_findSharpThree_56 kc ks (l0 :: l1 :: l2 :: some (.int x) :: l) (.int x :: st) h := rfl
theorem s_Circ_findSharpThree_56 {x : Int32} {l0 : Option Value} {l : eg_Lo} : wps rm K Q c_Circ_findSharpThree_56 kc ks (l0 :: some (.int x) :: l) (st) h = wps rm K Q c_Circ_findSharpThree_57 kc ks (l0 :: some (.int x) :: l) (.int x :: st) h := rfl
theorem s_Circ_findSharpThree_57  {a1 : Value} {a2 : Value} {a3 : Value} {x : Nat} : wps rm K Q c_Circ_findSharpThree_57 kc ks loc (a3 :: a2 :: a1 :: .ref (x + 1) :: st) h = (eg_cls h x 1 ∧ st.length ≤ 4 ∧ eg_Cs n_Circ_isSharp (.ref (x + 1) :: [a1, a2, a3]) h (fun v h9 => wps rm K Q c_Circ_findSharpThree_60 kc ks loc (v.toList ++ st) h9)) := eg_c1_3
theorem s_Circ_findSharpThree_60 {x : Int32} : wps rm K Q c_Circ_findSharpThree_60 kc ks loc (.int x :: st) h = ((x = 0 → K 89 kc ks loc st h) ∧ (¬ x = 0 → wps rm K Q c_Circ_findSharpThree_63 kc ks loc (st) h)) := rfl
theorem s_Circ_findSharpThree_63 {x : Nat} {l : eg_Lo} : wps rm K Q c_Circ_findSharpThree_63 kc ks (some (.ref x) :: l) (st) h = wps rm K Q c_Circ_findSharpThree_64 kc ks (some (.ref x) :: l) (.ref x :: st) h := rfl
theorem s_Circ_findSharpThree_64 {x : Int32} {l0 l1 l2 : Option Value} {l : eg_Lo} : wps rm K Q c_Circ_findSharpThree_64 kc ks (l0 :: l1 :: l2 :: some (.int x) :: l) (st) h = wps rm K Q c_Circ_findSharpThree_65 kc ks (l0 :: l1 :: l2 :: some (.int x) :: l) (.int x :: st) h := rfl
theorem s_Circ_findSharpThree_65 {x : Int32} {l0 : Option Value} {l : eg_Lo} : wps rm K Q c_Circ_findSharpThree_65 kc ks (l0 :: some (.int x) :: l) (st) h = wps rm K Q c_Circ_findSharpThree_66 kc ks (l0 :: some (.int x) :: l) (.int x :: st) h := rfl
theorem s_Circ_findSharpThree_66 {x : Int32} {l0 l1 : Option Value} {l : eg_Lo} : wps rm K Q c_Circ_findSharpThree_66 kc ks (l0 :: l1 :: some (.int x) :: l) (st) h = wps rm K Q c_Circ_findSharpThree_67 kc ks (l0 :: l1 :: some (.int x) :: l) (.int x :: st) h := rfl
theorem s_Circ_findSharpThree_67  {a1 : Value} {a2 : Value} {a3 : Value} {x : Nat} : wps rm K Q c_Circ_findSharpThree_67 kc ks loc (a3 :: a2 :: a1 :: .ref (x + 1) :: st) h = (eg_cls h x 1 ∧ st.length ≤ 4 ∧ eg_Cs n_Circ_isSharp (.ref (x + 1) :: [a1, a2, a3]) h (fun v h9 => wps rm K Q c_Circ_findSharpThree_70 kc ks loc (v.toList ++ st) h9)) := eg_c1_3
theorem s_Circ_findSharpThree_70 {x : Int32} : wps rm K Q c_Circ_findSharpThree_70 kc ks loc (.int x :: st) h = ((x = 0 → K 89 kc ks loc st h) ∧ (¬ x = 0 → wps rm K Q c_Circ_findSharpThree_73 kc ks loc (st) h)) := rfl
theorem s_Circ_findSharpThree_73 {x : Nat} {l : eg_Lo} : wps rm K Q c_Circ_findSharpThree_73 kc ks (some (.ref x) :: l) (st) h = wps rm K Q c_Circ_findSharpThree_74 kc ks (some (.ref x) :: l) (.ref x :: st) h := rfl
theorem s_Circ_findSharpThree_74 {x : Int32} {l0 : Option Value} {l : eg_Lo} : wps rm K Q c_Circ_findSharpThree_74 kc ks (l0 :: some (.int x) :: l) (st) h = wps rm K Q c_Circ_findSharpThree_75 kc ks (l0 :: some (.int x) :: l) (.int x :: st) h := rfl
theorem s_Circ_findSharpThree_75 {x : Int32} {l0 l1 : Option Value} {l : eg_Lo} : wps rm K Q c_Circ_findSharpThree_75 kc ks (l0 :: l1 :: some (.int x) :: l) (st) h = wps rm K Q c_Circ_findSharpThree_76 kc ks (l0 :: l1 :: some (.int x) :: l) (.int x :: st) h := rfl
theorem s_Circ_findSharpThree_76 {x : Int32} {l0 l1 l2 : Option Value} {l : eg_Lo} : wps rm K Q c_Circ_findSharpThree_76 kc ks (l0 :: l1 :: l2 :: some (.int x) :: l) (st) h = wps rm K Q c_Circ_findSharpThree_77 kc ks (l0 :: l1 :: l2 :: some (.int x) :: l) (.int x :: st) h := rfl
theorem s_Circ_findSharpThree_77  {a1 : Value} {a2 : Value} {a3 : Value} {x : Nat} : wps rm K Q c_Circ_findSharpThree_77 kc ks loc (a3 :: a2 :: a1 :: .ref (x + 1) :: st) h = (eg_cls h x 1 ∧ st.length ≤ 4 ∧ eg_Cs n_Circ_setCircleOfThree (.ref (x + 1) :: [a1, a2, a3]) h (fun v h9 => wps rm K Q c_Circ_findSharpThree_80 kc ks loc (v.toList ++ st) h9)) := eg_c1_3
theorem s_Circ_findSharpThree_80 {x : Nat} {l : eg_Lo} : wps rm K Q c_Circ_findSharpThree_80 kc ks (some (.ref x) :: l) (st) h = wps rm K Q c_Circ_findSharpThree_81 kc ks (some (.ref x) :: l) (.ref x :: st) h := rfl
theorem s_Circ_findSharpThree_81  {x : Nat} : wps rm K Q c_Circ_findSharpThree_81 kc ks loc (.ref (x + 1) :: st) h = (eg_cls h x 1 ∧ st.length ≤ 4 ∧ eg_Cs n_Circ_hasNoneOutside (.ref (x + 1) :: []) h (fun v h9 => wps rm K Q c_Circ_findSharpThree_84 kc ks loc (v.toList ++ st) h9)) := eg_c1_0
theorem s_Circ_findSharpThree_84 {x : Int32} : wps rm K Q c_Circ_findSharpThree_84 kc ks loc (.int x :: st) h = ((x = 0 → K 89 kc ks loc st h) ∧ (¬ x = 0 → wps rm K Q c_Circ_findSharpThree_87 kc ks loc (st) h)) := rfl
theorem s_Circ_findSharpThree_87  : wps rm K Q c_Circ_findSharpThree_87 kc ks loc (st) h = wps rm K Q c_Circ_findSharpThree_88 kc ks loc (.int (1) :: st) h := rfl
theorem s_Circ_findSharpThree_88 {x : Int32} : wps rm K Q c_Circ_findSharpThree_88 kc ks loc ([.int x]) h = (kc = rm.cells ∧ ((1 : Nat) = 1 → x = 0 ∨ x = 1) ∧ Q (some (.int x)) h) := rfl
theorem s_Circ_findSharpThree_89 {x : Int32} {l0 l1 l2 : Option Value} {l9 : eg_Lo} : wps rm K Q c_Circ_findSharpThree_89 kc ks (l0 :: l1 :: l2 :: some (.int x) :: l9) (st) h = wps rm K Q c_Circ_findSharpThree_92 kc ks (eg_set1 (l0 :: l1 :: l2 :: some (.int x) :: l9) 3 (.int (x + (1)))) (st) h := rfl
theorem s_Circ_findSharpThree_92  : wps rm K Q c_Circ_findSharpThree_92 kc ks loc (st) h = K 32 kc ks loc st h := rfl
theorem s_Circ_findSharpThree_95 {x : Int32} {l0 l1 : Option Value} {l9 : eg_Lo} : wps rm K Q c_Circ_findSharpThree_95 kc ks (l0 :: l1 :: some (.int x) :: l9) (st) h = wps rm K Q c_Circ_findSharpThree_98 kc ks (eg_set1 (l0 :: l1 :: some (.int x) :: l9) 2 (.int (x + (1)))) (st) h := rfl
theorem s_Circ_findSharpThree_98  : wps rm K Q c_Circ_findSharpThree_98 kc ks loc (st) h = K 17 kc ks loc st h := rfl
theorem s_Circ_findSharpThree_101 {x : Int32} {l0 : Option Value} {l9 : eg_Lo} : wps rm K Q c_Circ_findSharpThree_101 kc ks (l0 :: some (.int x) :: l9) (st) h = wps rm K Q c_Circ_findSharpThree_104 kc ks (eg_set1 (l0 :: some (.int x) :: l9) 1 (.int (x + (1)))) (st) h := rfl
theorem s_Circ_findSharpThree_104  : wps rm K Q c_Circ_findSharpThree_104 kc ks loc (st) h = K 2 kc ks loc st h := rfl
theorem s_Circ_findSharpThree_107  : wps rm K Q c_Circ_findSharpThree_107 kc ks loc (st) h = wps rm K Q c_Circ_findSharpThree_108 kc ks loc (.int (0) :: st) h := rfl
theorem s_Circ_findSharpThree_108 {x : Int32} : wps rm K Q c_Circ_findSharpThree_108 kc ks loc ([.int x]) h = (kc = rm.cells ∧ ((1 : Nat) = 1 → x = 0 ∨ x = 1) ∧ Q (some (.int x)) h) := rfl
def T_Circ_findSharpThree : List (Nat × List eg_I) := [(89, c_Circ_findSharpThree_89), (95, c_Circ_findSharpThree_95), (101, c_Circ_findSharpThree_101), (107, c_Circ_findSharpThree_107)]
theorem j_Circ_findSharpThree_89 {R : Nat → Nat → Nat → eg_Lo → List Value → List eg_E → Prop} {f pc0 : Nat} : eg_run rm R Q T_Circ_findSharpThree (f + 1) 89 kc ks loc st h = wps rm (eg_run rm R Q T_Circ_findSharpThree f) Q c_Circ_findSharpThree_89 kc ks loc st h := rfl
theorem j_Circ_findSharpThree_95 {R : Nat → Nat → Nat → eg_Lo → List Value → List eg_E → Prop} {f pc0 : Nat} : eg_run rm R Q T_Circ_findSharpThree (f + 1) 95 kc ks loc st h = wps rm (eg_run rm R Q T_Circ_findSharpThree f) Q c_Circ_findSharpThree_95 kc ks loc st h := rfl
theorem j_Circ_findSharpThree_101 {R : Nat → Nat → Nat → eg_Lo → List Value → List eg_E → Prop} {f pc0 : Nat} : eg_run rm R Q T_Circ_findSharpThree (f + 1) 101 kc ks loc st h = wps rm (eg_run rm R Q T_Circ_findSharpThree f) Q c_Circ_findSharpThree_101 kc ks loc st h := rfl
theorem j_Circ_findSharpThree_107 {R : Nat → Nat → Nat → eg_Lo → List Value → List eg_E → Prop} {f pc0 : Nat} : eg_run rm R Q T_Circ_findSharpThree (f + 1) 107 kc ks loc st h = wps rm (eg_run rm R Q T_Circ_findSharpThree f) Q c_Circ_findSharpThree_107 kc ks loc st h := rfl
theorem j_Circ_findSharpThree_2 {R : Nat → Nat → Nat → eg_Lo → List Value → List eg_E → Prop} {f pc0 : Nat} : eg_run rm R Q T_Circ_findSharpThree (f + 1) 2 kc ks loc st h = R 2 kc ks loc st h := rfl
theorem j_Circ_findSharpThree_17 {R : Nat → Nat → Nat → eg_Lo → List Value → List eg_E → Prop} {f pc0 : Nat} : eg_run rm R Q T_Circ_findSharpThree (f + 1) 17 kc ks loc st h = R 17 kc ks loc st h := rfl
theorem j_Circ_findSharpThree_32 {R : Nat → Nat → Nat → eg_Lo → List Value → List eg_E → Prop} {f pc0 : Nat} : eg_run rm R Q T_Circ_findSharpThree (f + 1) 32 kc ks loc st h = R 32 kc ks loc st h := rfl
end
theorem q_Circ_findSharpThree : (T_Circ_findSharpThree.all fun q => eg_seq m_Circ_findSharpThree q.1 q.2) = true := by decide +kernel
theorem b_Circ_findSharpThree {as : List Value} {h : List eg_E} {Q : Option Value → List eg_E → Prop} (hf : (eg_fl as).length ≤ 4) (hw : wps (eg_rm m_Circ_findSharpThree) (eg_run (eg_rm m_Circ_findSharpThree) (eg_R m_Circ_findSharpThree Q (h.length + 0)) Q T_Circ_findSharpThree 6) Q c_Circ_findSharpThree_0 0 0 (eg_entry 4 as) [] h) : eg_Runs n_Circ_findSharpThree as h Q := eg_begin (d := m_Circ_findSharpThree) rfl (by decide) (by decide +kernel) q_Circ_findSharpThree hf hw
theorem p_Circ_findSharpThree_2 {Q : Option Value → List eg_E → Prop} {n0 kc ks : Nat} {loc : eg_Lo} {st : List Value} {h : List eg_E} (hw : wps (eg_rm m_Circ_findSharpThree) (eg_run (eg_rm m_Circ_findSharpThree) (eg_R m_Circ_findSharpThree Q n0) Q T_Circ_findSharpThree 6) Q c_Circ_findSharpThree_2 kc ks loc st h) : eg_R m_Circ_findSharpThree Q n0 2 kc ks loc st h := eg_go (by decide +kernel) q_Circ_findSharpThree hw
theorem p_Circ_findSharpThree_17 {Q : Option Value → List eg_E → Prop} {n0 kc ks : Nat} {loc : eg_Lo} {st : List Value} {h : List eg_E} (hw : wps (eg_rm m_Circ_findSharpThree) (eg_run (eg_rm m_Circ_findSharpThree) (eg_R m_Circ_findSharpThree Q n0) Q T_Circ_findSharpThree 6) Q c_Circ_findSharpThree_17 kc ks loc st h) : eg_R m_Circ_findSharpThree Q n0 17 kc ks loc st h := eg_go (by decide +kernel) q_Circ_findSharpThree hw
theorem p_Circ_findSharpThree_32 {Q : Option Value → List eg_E → Prop} {n0 kc ks : Nat} {loc : eg_Lo} {st : List Value} {h : List eg_E} (hw : wps (eg_rm m_Circ_findSharpThree) (eg_run (eg_rm m_Circ_findSharpThree) (eg_R m_Circ_findSharpThree Q n0) Q T_Circ_findSharpThree 6) Q c_Circ_findSharpThree_32 kc ks loc st h) : eg_R m_Circ_findSharpThree Q n0 32 kc ks loc st h := eg_go (by decide +kernel) q_Circ_findSharpThree hw
/-! ===== Circ_isSharp ===== -/
def c_Circ_isSharp_97 : List eg_I := .inl (97, 1, .ireturn, 0, 1) :: []
def c_Circ_isSharp_96 : List eg_I := .inl (96, 1, .iconst (0), 0, 0) :: c_Circ_isSharp_97
def c_Circ_isSharp_93 : List eg_I := .inl (93, 3, .goto (4), 97, 0) :: []
def c_Circ_isSharp_92 : List eg_I := .inl (92, 1, .iconst (1), 0, 0) :: c_Circ_isSharp_93
def c_Circ_isSharp_89 : List eg_I := .inl (89, 3, .ifCond .le (7), 96, 0) :: c_Circ_isSharp_92
def c_Circ_isSharp_88 : List eg_I := .inl (88, 1, .lcmp, 0, 0) :: c_Circ_isSharp_89
def c_Circ_isSharp_87 : List eg_I := .inl (87, 1, .sipush (0), 0, 0) :: c_Circ_isSharp_88
def c_Circ_isSharp_85 : List eg_I := .inl (85, 2, .lload 4, 0, 0) :: c_Circ_isSharp_87
def c_Circ_isSharp_83 : List eg_I := .inl (83, 2, .lstore 4, 0, 0) :: c_Circ_isSharp_85
def c_Circ_isSharp_82 : List eg_I := .inl (82, 1, .ladd, 0, 0) :: c_Circ_isSharp_83
def c_Circ_isSharp_81 : List eg_I := .inl (81, 1, .lmul, 0, 0) :: c_Circ_isSharp_82
def c_Circ_isSharp_80 : List eg_I := .inl (80, 1, .i2l, 0, 0) :: c_Circ_isSharp_81
def c_Circ_isSharp_79 : List eg_I := .inl (79, 1, .isub, 0, 0) :: c_Circ_isSharp_80
def c_Circ_isSharp_78 : List eg_I := .inl (78, 1, .iaload, 0, 0) :: c_Circ_isSharp_79
def c_Circ_isSharp_77 : List eg_I := .inl (77, 1, .iload 1, 0, 0) :: c_Circ_isSharp_78
def c_Circ_isSharp_74 : List eg_I := .inl (74, 3, .getfield 60, 10, 1) :: c_Circ_isSharp_77
def c_Circ_isSharp_71 : List eg_I := .inl (71, 3, .getfield 12, 1, 0) :: c_Circ_isSharp_74
def c_Circ_isSharp_70 : List eg_I := .inl (70, 1, .aload 0, 0, 0) :: c_Circ_isSharp_71
def c_Circ_isSharp_69 : List eg_I := .inl (69, 1, .iaload, 0, 0) :: c_Circ_isSharp_70
def c_Circ_isSharp_68 : List eg_I := .inl (68, 1, .iload 3, 0, 0) :: c_Circ_isSharp_69
def c_Circ_isSharp_65 : List eg_I := .inl (65, 3, .getfield 60, 10, 1) :: c_Circ_isSharp_68
def c_Circ_isSharp_62 : List eg_I := .inl (62, 3, .getfield 12, 1, 0) :: c_Circ_isSharp_65
def c_Circ_isSharp_61 : List eg_I := .inl (61, 1, .aload 0, 0, 0) :: c_Circ_isSharp_62
def c_Circ_isSharp_60 : List eg_I := .inl (60, 1, .i2l, 0, 0) :: c_Circ_isSharp_61
def c_Circ_isSharp_59 : List eg_I := .inl (59, 1, .isub, 0, 0) :: c_Circ_isSharp_60
def c_Circ_isSharp_58 : List eg_I := .inl (58, 1, .iaload, 0, 0) :: c_Circ_isSharp_59
def c_Circ_isSharp_57 : List eg_I := .inl (57, 1, .iload 1, 0, 0) :: c_Circ_isSharp_58
def c_Circ_isSharp_54 : List eg_I := .inl (54, 3, .getfield 60, 10, 1) :: c_Circ_isSharp_57
def c_Circ_isSharp_51 : List eg_I := .inl (51, 3, .getfield 12, 1, 0) :: c_Circ_isSharp_54
def c_Circ_isSharp_50 : List eg_I := .inl (50, 1, .aload 0, 0, 0) :: c_Circ_isSharp_51
def c_Circ_isSharp_49 : List eg_I := .inl (49, 1, .iaload, 0, 0) :: c_Circ_isSharp_50
def c_Circ_isSharp_48 : List eg_I := .inl (48, 1, .iload 2, 0, 0) :: c_Circ_isSharp_49
def c_Circ_isSharp_45 : List eg_I := .inl (45, 3, .getfield 60, 10, 1) :: c_Circ_isSharp_48
def c_Circ_isSharp_42 : List eg_I := .inl (42, 3, .getfield 12, 1, 0) :: c_Circ_isSharp_45
def c_Circ_isSharp_41 : List eg_I := .inl (41, 1, .aload 0, 0, 0) :: c_Circ_isSharp_42
def c_Circ_isSharp_40 : List eg_I := .inl (40, 1, .lmul, 0, 0) :: c_Circ_isSharp_41
def c_Circ_isSharp_39 : List eg_I := .inl (39, 1, .i2l, 0, 0) :: c_Circ_isSharp_40
def c_Circ_isSharp_38 : List eg_I := .inl (38, 1, .isub, 0, 0) :: c_Circ_isSharp_39
def c_Circ_isSharp_37 : List eg_I := .inl (37, 1, .iaload, 0, 0) :: c_Circ_isSharp_38
def c_Circ_isSharp_36 : List eg_I := .inl (36, 1, .iload 1, 0, 0) :: c_Circ_isSharp_37
def c_Circ_isSharp_33 : List eg_I := .inl (33, 3, .getfield 57, 10, 0) :: c_Circ_isSharp_36
def c_Circ_isSharp_30 : List eg_I := .inl (30, 3, .getfield 12, 1, 0) :: c_Circ_isSharp_33
def c_Circ_isSharp_29 : List eg_I := .inl (29, 1, .aload 0, 0, 0) :: c_Circ_isSharp_30
def c_Circ_isSharp_28 : List eg_I := .inl (28, 1, .iaload, 0, 0) :: c_Circ_isSharp_29
def c_Circ_isSharp_27 : List eg_I := .inl (27, 1, .iload 3, 0, 0) :: c_Circ_isSharp_28
def c_Circ_isSharp_24 : List eg_I := .inl (24, 3, .getfield 57, 10, 0) :: c_Circ_isSharp_27
def c_Circ_isSharp_21 : List eg_I := .inl (21, 3, .getfield 12, 1, 0) :: c_Circ_isSharp_24
def c_Circ_isSharp_20 : List eg_I := .inl (20, 1, .aload 0, 0, 0) :: c_Circ_isSharp_21
def c_Circ_isSharp_19 : List eg_I := .inl (19, 1, .i2l, 0, 0) :: c_Circ_isSharp_20
def c_Circ_isSharp_18 : List eg_I := .inl (18, 1, .isub, 0, 0) :: c_Circ_isSharp_19
def c_Circ_isSharp_17 : List eg_I := .inl (17, 1, .iaload, 0, 0) :: c_Circ_isSharp_18
def c_Circ_isSharp_16 : List eg_I := .inl (16, 1, .iload 1, 0, 0) :: c_Circ_isSharp_17
def c_Circ_isSharp_13 : List eg_I := .inl (13, 3, .getfield 57, 10, 0) :: c_Circ_isSharp_16
def c_Circ_isSharp_10 : List eg_I := .inl (10, 3, .getfield 12, 1, 0) :: c_Circ_isSharp_13
def c_Circ_isSharp_9 : List eg_I := .inl (9, 1, .aload 0, 0, 0) :: c_Circ_isSharp_10
def c_Circ_isSharp_8 : List eg_I := .inl (8, 1, .iaload, 0, 0) :: c_Circ_isSharp_9
def c_Circ_isSharp_7 : List eg_I := .inl (7, 1, .iload 2, 0, 0) :: c_Circ_isSharp_8
def c_Circ_isSharp_4 : List eg_I := .inl (4, 3, .getfield 57, 10, 0) :: c_Circ_isSharp_7
def c_Circ_isSharp_1 : List eg_I := .inl (1, 3, .getfield 12, 1, 0) :: c_Circ_isSharp_4
def c_Circ_isSharp_0 : List eg_I := .inl (0, 1, .aload 0, 0, 0) :: c_Circ_isSharp_1
section
variable {rm : Room} {K : Nat → Nat → Nat → eg_Lo → List Value → List eg_E → Prop} {Q : Option Value → List eg_E → Prop} {kc ks : Nat} {loc : eg_Lo} {st : List Value} {h : List eg_E}
theorem s_Circ_isSharp_0 {x : Nat} {l : eg_Lo} : wps rm K Q c_Circ_isSharp_0 kc ks (some (.ref x) :: l) (st) h = wps rm K Q c_Circ_isSharp_1 kc ks (some (.ref x) :: l) (.ref x :: st) h := rfl
theorem s_Circ_isSharp_1 {x : Nat} : wps rm K Q c_Circ_isSharp_1 kc ks loc (.ref (x + 1) :: st) h = eg_gf h x 1 0 (fun v => wps rm K Q c_Circ_isSharp_4 kc ks loc (v :: st) h) := rfl
theorem s_Circ_isSharp_4 {x : Nat} : wps rm K Q c_Circ_isSharp_4 kc ks loc (.ref (x + 1) :: st) h = eg_gf h x 10 0 (fun v => wps rm K Q c_Circ_isSharp_7 kc ks loc (v :: st) h) := rfl
theorem s_Circ_isSharp_7 {x : Int32} {l0 l1 : Option Value} {l : eg_Lo} : wps rm K Q c_Circ_isSharp_7 kc ks (l0 :: l1 :: some (.int x) :: l) (st) h = wps rm K Q c_Circ_isSharp_8 kc ks (l0 :: l1 :: some (.int x) :: l) (.int x :: st) h := rfl
theorem s_Circ_isSharp_8 {x : Nat} {i : Int32} : wps rm K Q c_Circ_isSharp_8 kc ks loc (.int i :: .ref (x + 1) :: st) h = eg_ia h x i (fun v => wps rm K Q c_Circ_isSharp_9 kc ks loc (.int v :: st) h) := rfl
theorem s_Circ_isSharp_9 {x : Nat} {l : eg_Lo} : wps rm K Q c_Circ_isSharp_9 kc ks (some (.ref x) :: l) (st) h = wps rm K Q c_Circ_isSharp_10 kc ks (some (.ref x) :: l) (.ref x :: st) h := rfl
theorem s_Circ_isSharp_10 {x : Nat} : wps rm K Q c_Circ_isSharp_10 kc ks loc (.ref (x + 1) :: st) h = eg_gf h x 1 0 (fun v => wps rm K Q c_Circ_isSharp_13 kc ks loc (v :: st) h) := rfl
theorem s_Circ_isSharp_13 {x : Nat} : wps rm K Q c_Circ_isSharp_13 kc ks loc (.ref (x + 1) :: st) h = eg_gf h x 10 0 (fun v => wps rm K Q c_Circ_isSharp_16 kc ks loc (v :: st) h) := rfl
theorem s_Circ_isSharp_16 {x : Int32} {l0 : Option Value} {l : eg_Lo} : wps rm K Q c_Circ_isSharp_16 kc ks (l0 :: some (.int x) :: l) (st) h = wps rm K Q c_Circ_isSharp_17 kc ks (l0 :: some (.int x) :: l) (.int x :: st) h := rfl
theorem s_Circ_isSharp_17 {x : Nat} {i : Int32} : wps rm K Q c_Circ_isSharp_17 kc ks loc (.int i :: .ref (x + 1) :: st) h = eg_ia h x i (fun v => wps rm K Q c_Circ_isSharp_18 kc ks loc (.int v :: st) h) := rfl
theorem s_Circ_isSharp_18 {x y : Int32} : wps rm K Q c_Circ_isSharp_18 kc ks loc (.int y :: .int x :: st) h = wps rm K Q c_Circ_isSharp_19 kc ks loc (.int (x - y) :: st) h := rfl
theorem s_Circ_isSharp_19 {x : Int32} : wps rm K Q c_Circ_isSharp_19 kc ks loc (.int x :: st) h = wps rm K Q c_Circ_isSharp_20 kc ks loc (.long (x.toInt64) :: st) h := rfl
theorem s_Circ_isSharp_20 {x : Nat} {l : eg_Lo} : wps rm K Q c_Circ_isSharp_20 kc ks (some (.ref x) :: l) (st) h = wps rm K Q c_Circ_isSharp_21 kc ks (some (.ref x) :: l) (.ref x :: st) h := rfl
theorem s_Circ_isSharp_21 {x : Nat} : wps rm K Q c_Circ_isSharp_21 kc ks loc (.ref (x + 1) :: st) h = eg_gf h x 1 0 (fun v => wps rm K Q c_Circ_isSharp_24 kc ks loc (v :: st) h) := rfl
theorem s_Circ_isSharp_24 {x : Nat} : wps rm K Q c_Circ_isSharp_24 kc ks loc (.ref (x + 1) :: st) h = eg_gf h x 10 0 (fun v => wps rm K Q c_Circ_isSharp_27 kc ks loc (v :: st) h) := rfl
theorem s_Circ_isSharp_27 {x : Int32} {l0 l1 l2 : Option Value} {l : eg_Lo} : wps rm K Q c_Circ_isSharp_27 kc ks (l0 :: l1 :: l2 :: some (.int x) :: l) (st) h = wps rm K Q c_Circ_isSharp_28 kc ks (l0 :: l1 :: l2 :: some (.int x) :: l) (.int x :: st) h := rfl
theorem s_Circ_isSharp_28 {x : Nat} {i : Int32} : wps rm K Q c_Circ_isSharp_28 kc ks loc (.int i :: .ref (x + 1) :: st) h = eg_ia h x i (fun v => wps rm K Q c_Circ_isSharp_29 kc ks loc (.int v :: st) h) := rfl
theorem s_Circ_isSharp_29 {x : Nat} {l : eg_Lo} : wps rm K Q c_Circ_isSharp_29 kc ks (some (.ref x) :: l) (st) h = wps rm K Q c_Circ_isSharp_30 kc ks (some (.ref x) :: l) (.ref x :: st) h := rfl
theorem s_Circ_isSharp_30 {x : Nat} : wps rm K Q c_Circ_isSharp_30 kc ks loc (.ref (x + 1) :: st) h = eg_gf h x 1 0 (fun v => wps rm K Q c_Circ_isSharp_33 kc ks loc (v :: st) h) := rfl
theorem s_Circ_isSharp_33 {x : Nat} : wps rm K Q c_Circ_isSharp_33 kc ks loc (.ref (x + 1) :: st) h = eg_gf h x 10 0 (fun v => wps rm K Q c_Circ_isSharp_36 kc ks loc (v :: st) h) := rfl
theorem s_Circ_isSharp_36 {x : Int32} {l0 : Option Value} {l : eg_Lo} : wps rm K Q c_Circ_isSharp_36 kc ks (l0 :: some (.int x) :: l) (st) h = wps rm K Q c_Circ_isSharp_37 kc ks (l0 :: some (.int x) :: l) (.int x :: st) h := rfl
theorem s_Circ_isSharp_37 {x : Nat} {i : Int32} : wps rm K Q c_Circ_isSharp_37 kc ks loc (.int i :: .ref (x + 1) :: st) h = eg_ia h x i (fun v => wps rm K Q c_Circ_isSharp_38 kc ks loc (.int v :: st) h) := rfl
theorem s_Circ_isSharp_38 {x y : Int32} : wps rm K Q c_Circ_isSharp_38 kc ks loc (.int y :: .int x :: st) h = wps rm K Q c_Circ_isSharp_39 kc ks loc (.int (x - y) :: st) h := rfl
theorem s_Circ_isSharp_39 {x : Int32} : wps rm K Q c_Circ_isSharp_39 kc ks loc (.int x :: st) h = wps rm K Q c_Circ_isSharp_40 kc ks loc (.long (x.toInt64) :: st) h := rfl
theorem s_Circ_isSharp_40 {x y : Int64} : wps rm K Q c_Circ_isSharp_40 kc ks loc (.long y :: .long x :: st) h = wps rm K Q c_Circ_isSharp_41 kc ks loc (.long (x * y) :: st) h := rfl
theorem s_Circ_isSharp_41 {x : Nat} {l : eg_Lo} : wps rm K Q c_Circ_isSharp_41 kc ks (some (.ref x) :: l) (st) h = wps rm K Q c_Circ_isSharp_42 kc ks (some (.ref x) :: l) (.ref x :: st) h := rfl
theorem s_Circ_isSharp_42 {x : Nat} : wps rm K Q c_Circ_isSharp_42 kc ks loc (.ref (x + 1) :: st) h = eg_gf h x 1 0 (fun v => wps rm K Q c_Circ_isSharp_45 kc ks loc (v :: st) h) := rfl
theorem s_Circ_isSharp_45 {x : Nat} : wps rm K Q c_Circ_isSharp_45 kc ks loc (.ref (x + 1) :: st) h = eg_gf h x 10 1 (fun v => wps rm K Q c_Circ_isSharp_48 kc ks loc (v :: st) h) := rfl
theorem s_Circ_isSharp_48 {x : Int32} {l0 l1 : Option Value} {l : eg_Lo} : wps rm K Q c_Circ_isSharp_48 kc ks (l0 :: l1 :: some (.int x) :: l) (st) h = wps rm K Q c_Circ_isSharp_49 kc ks (l0 :: l1 :: some (.int x) :: l) (.int x :: st) h := rfl
theorem s_Circ_isSharp_49 {x : Nat} {i : Int32} : wps rm K Q c_Circ_isSharp_49 kc ks loc (.int i :: .ref (x + 1) :: st) h = eg_ia h x i (fun v => wps rm K Q c_Circ_isSharp_50 kc ks loc (.int v :: st) h) := rfl
theorem s_Circ_isSharp_50 {x : Nat} {l : eg_Lo} : wps rm K Q c_Circ_isSharp_50 kc ks (some (.ref x) :: l) (st) h = wps rm K Q c_Circ_isSharp_51 kc ks (some (.ref x) :: l) (.ref x :: st) h := rfl
theorem s_Circ_isSharp_51 {x : Nat} : wps rm K Q c_Circ_isSharp_51 kc ks loc (.ref (x + 1) :: st) h = eg_gf h x 1 0 (fun v => wps rm K Q c_Circ_isSharp_54 kc ks loc (v :: st) h) := rfl
theorem s_Circ_isSharp_54 {x : Nat} : wps rm K Q c_Circ_isSharp_54 kc ks loc (.ref (x + 1) :: st) h = eg_gf h x 10 1 (fun v => wps rm K Q c_Circ_isSharp_57 kc ks loc (v :: st) h) := rfl
theorem s_Circ_isSharp_57 {x : Int32} {l0 : Option Value} {l : eg_Lo} : wps rm K Q c_Circ_isSharp_57 kc ks (l0 :: some (.int x) :: l) (st) h = wps rm K Q c_Circ_isSharp_58 kc ks (l0 :: some (.int x) :: l) (.int x :: st) h := rfl
theorem s_Circ_isSharp_58 {x : Nat} {i : Int32} : wps rm K Q c_Circ_isSharp_58 kc ks loc (.int i :: .ref (x + 1) :: st) h = eg_ia h x i (fun v => wps rm K Q c_Circ_isSharp_59 kc ks loc (.int v :: st) h) := rfl
theorem s_Circ_isSharp_59 {x y : Int32} : wps rm K Q c_Circ_isSharp_59 kc ks loc (.int y :: .int x :: st) h = wps rm K Q c_Circ_isSharp_60 kc ks loc (.int (x - y) :: st) h := rfl
theorem s_Circ_isSharp_60 {x : Int32} : wps rm K Q c_Circ_isSharp_60 kc ks loc (.int x :: st) h = wps rm K Q c_Circ_isSharp_61 kc ks loc (.long (x.toInt64) :: st) h := rfl
theorem s_Circ_isSharp_61 {x : Nat} {l : eg_Lo} : wps rm K Q c_Circ_isSharp_61 kc ks (some (.ref x) :: l) (st) h = wps rm K Q c_Circ_isSharp_62 kc ks (some (.ref x) :: l) (.ref x :: st) h := rfl
theorem s_Circ_isSharp_62 {x : Nat} : wps rm K Q c_Circ_isSharp_62 kc ks loc (.ref (x + 1) :: st) h = eg_gf h x 1 0 (fun v => wps rm K Q c_Circ_isSharp_65 kc ks loc (v :: st) h) := rfl
theorem s_Circ_isSharp_65 {x : Nat} : wps rm K Q c_Circ_isSharp_65 kc ks loc (.ref (x + 1) :: st) h = eg_gf h x 10 1 (fun v => wps rm K Q c_Circ_isSharp_68 kc ks loc (v :: st) h) := rfl
theorem s_Circ_isSharp_68 {x : Int32} {l0 l1 l2 : Option Value} {l : eg_Lo} : wps rm K Q c_Circ_isSharp_68 kc ks (l0 :: l1 :: l2 :: some (.int x) :: l) (st) h = wps rm K Q c_Circ_isSharp_69 kc ks (l0 :: l1 :: l2 :: some (.int x) :: l) (.int x :: st) h := rfl
theorem s_Circ_isSharp_69 {x : Nat} {i : Int32} : wps rm K Q c_Circ_isSharp_69 kc ks loc (.int i :: .ref (x + 1) :: st) h = eg_ia h x i (fun v => wps rm K Q c_Circ_isSharp_70 kc ks loc (.int v :: st) h) := rfl
theorem s_Circ_isSharp_70 {x : Nat} {l : eg_Lo} : wps rm K Q c_Circ_isSharp_70 kc ks (some (.ref x) :: l) (st) h = wps rm K Q c_Circ_isSharp_71 kc ks (some (.ref x) :: l) (.ref x :: st) h := rfl
theorem s_Circ_isSharp_71 {x : Nat} : wps rm K Q c_Circ_isSharp_71 kc ks loc (.ref (x + 1) :: st) h = eg_gf h x 1 0 (fun v => wps rm K Q c_Circ_isSharp_74 kc ks loc (v :: st) h) := rfl
theorem s_Circ_isSharp_74 {x : Nat} : wps rm K Q c_Circ_isSharp_74 kc ks loc (.ref (x + 1) :: st) h = eg_gf h x 10 1 (fun v => wps rm K Q c_Circ_isSharp_77 kc ks loc (v :: st) h) := rfl
theorem s_Circ_isSharp_77 {x : Int32} {l0 : Option Value} {l : eg_Lo} : wps rm K Q c_Circ_isSharp_77 kc ks (l0 :: some (.int x) :: l) (st) h = wps rm K Q c_Circ_isSharp_78 kc ks (l0 :: some (.int x) :: l) (.int x :: st) h := rfl
theorem s_Circ_isSharp_78 {x : Nat} {i : Int32} : wps rm K Q c_Circ_isSharp_78 kc ks loc (.int i :: .ref (x + 1) :: st) h = eg_ia h x i (fun v => wps rm K Q c_Circ_isSharp_79 kc ks loc (.int v :: st) h) := rfl
theorem s_Circ_isSharp_79 {x y : Int32} : wps rm K Q c_Circ_isSharp_79 kc ks loc (.int y :: .int x :: st) h = wps rm K Q c_Circ_isSharp_80 kc ks loc (.int (x - y) :: st) h := rfl
theorem s_Circ_isSharp_80 {x : Int32} : wps rm K Q c_Circ_isSharp_80 kc ks loc (.int x :: st) h = wps rm K Q c_Circ_isSharp_81 kc ks loc (.long (x.toInt64) :: st) h := rfl
theorem s_Circ_isSharp_81 {x y : Int64} : wps rm K Q c_Circ_isSharp_81 kc ks loc (.long y :: .long x :: st) h = wps rm K Q c_Circ_isSharp_82 kc ks loc (.long (x * y) :: st) h := rfl
theorem s_Circ_isSharp_82 {x y : Int64} : wps rm K Q c_Circ_isSharp_82 kc ks loc (.long y :: .long x :: st) h = wps rm K Q c_Circ_isSharp_83 kc ks loc (.long (x + y) :: st) h := rfl
theorem s_Circ_isSharp_83 {x : Int64} : wps rm K Q c_Circ_isSharp_83 kc ks loc (.long x :: st) h = wps rm K Q c_Circ_isSharp_85 kc ks (eg_set2 loc 4 (.long x)) (st) h := rfl
theorem s_Circ_isSharp_85 {x : Int64} {l0 l1 l2 l3 : Option Value} {l : eg_Lo} : wps rm K Q c_Circ_isSharp_85 kc ks (l0 :: l1 :: l2 :: l3 :: some (.long x) :: l) (st) h = wps rm K Q c_Circ_isSharp_87 kc ks (l0 :: l1 :: l2 :: l3 :: some (.long x) :: l) (.long x :: st) h := rfl
theorem s_Circ_isSharp_87  : wps rm K Q c_Circ_isSharp_87 kc ks loc (st) h = wps rm K Q c_Circ_isSharp_88 kc ks loc (.long (0) :: st) h := rfl
theorem s_Circ_isSharp_88 {x y : Int64} : wps rm K Q c_Circ_isSharp_88 kc ks loc (.long y :: .long x :: st) h = wps rm K Q c_Circ_isSharp_89 kc ks loc (.int (lg_cmp x y) :: st) h := rfl
theorem s_Circ_isSharp_89 {x : Int32} : wps rm K Q c_Circ_isSharp_89 kc ks loc (.int x :: st) h = ((x ≤ 0 → K 96 kc ks loc st h) ∧ (¬ x ≤ 0 → wps rm K Q c_Circ_isSharp_92 kc ks loc (st) h)) := rfl
theorem s_Circ_isSharp_92  : wps rm K Q c_Circ_isSharp_92 kc ks loc (st) h = wps rm K Q c_Circ_isSharp_93 kc ks loc (.int (1) :: st) h := rfl
theorem s_Circ_isSharp_93  : wps rm K Q c_Circ_isSharp_93 kc ks loc (st) h = K 97 kc ks loc st h := rfl
theorem s_Circ_isSharp_96  : wps rm K Q c_Circ_isSharp_96 kc ks loc (st) h = wps rm K Q c_Circ_isSharp_97 kc ks loc (.int (0) :: st) h := rfl
theorem s_Circ_isSharp_97 {x : Int32} : wps rm K Q c_Circ_isSharp_97 kc ks loc ([.int x]) h = (kc = rm.cells ∧ ((1 : Nat) = 1 → x = 0 ∨ x = 1) ∧ Q (some (.int x)) h) := rfl
def T_Circ_isSharp : List (Nat × List eg_I) := [(96, c_Circ_isSharp_96), (97, c_Circ_isSharp_97)]
theorem j_Circ_isSharp_96 {R : Nat → Nat → Nat → eg_Lo → List Value → List eg_E → Prop} {f pc0 : Nat} : eg_run rm R Q T_Circ_isSharp (f + 1) 96 kc ks loc st h = wps rm (eg_run rm R Q T_Circ_isSharp f) Q c_Circ_isSharp_96 kc ks loc st h := rfl
theorem j_Circ_isSharp_97 {R : Nat → Nat → Nat → eg_Lo → List Value → List eg_E → Prop} {f pc0 : Nat} : eg_run rm R Q T_Circ_isSharp (f + 1) 97 kc ks loc st h = wps rm (eg_run rm R Q T_Circ_isSharp f) Q c_Circ_isSharp_97 kc ks loc st h := rfl
end
theorem q_Circ_isSharp : (T_Circ_isSharp.all fun q => eg_seq m_Circ_isSharp q.1 q.2) = true := by decide +kernel
theorem b_Circ_isSharp {as : List Value} {h : List eg_E} {Q : Option Value → List eg_E → Prop} (hf : (eg_fl as).length ≤ 6) (hw : wps (eg_rm m_Circ_isSharp) (eg_run (eg_rm m_Circ_isSharp) (eg_R m_Circ_isSharp Q (h.length + 0)) Q T_Circ_isSharp 4) Q c_Circ_isSharp_0 0 0 (eg_entry 6 as) [] h) : eg_Runs n_Circ_isSharp as h Q := eg_begin (d := m_Circ_isSharp) rfl (by decide) (by decide +kernel) q_Circ_isSharp hf hw
/-! ===== Circ_isNewPlace ===== -/
def c_Circ_isNewPlace_28 : List eg_I := .inl (28, 1, .ireturn, 0, 1) :: []
def c_Circ_isNewPlace_27 : List eg_I := .inl (27, 1, .iconst (1), 0, 0) :: c_Circ_isNewPlace_28
def c_Circ_isNewPlace_24 : List eg_I := .inl (24, 3, .goto (-22), 2, 0) :: []
def c_Circ_isNewPlace_21 : List eg_I := .inl (21, 3, .iinc 2 (1), 0, 0) :: c_Circ_isNewPlace_24
def c_Circ_isNewPlace_20 : List eg_I := .inl (20, 1, .ireturn, 0, 1) :: []
def c_Circ_isNewPlace_19 : List eg_I := .inl (19, 1, .iconst (0), 0, 0) :: c_Circ_isNewPlace_20
def c_Circ_isNewPlace_16 : List eg_I := .inl (16, 3, .ifCond .eq (5), 21, 0) :: c_Circ_isNewPlace_19
def c_Circ_isNewPlace_13 : List eg_I := .inr (13, 1, 36, n_Tou_isOnePlace, 2, 10, 0, 0) :: c_Circ_isNewPlace_16
def c_Circ_isNewPlace_12 : List eg_I := .inl (12, 1, .iload 1, 0, 0) :: c_Circ_isNewPlace_13
def c_Circ_isNewPlace_11 : List eg_I := .inl (11, 1, .iload 2, 0, 0) :: c_Circ_isNewPlace_12
def c_Circ_isNewPlace_8 : List eg_I := .inl (8, 3, .getfield 12, 1, 0) :: c_Circ_isNewPlace_11
def c_Circ_isNewPlace_7 : List eg_I := .inl (7, 1, .aload 0, 0, 0) :: c_Circ_isNewPlace_8
def c_Circ_isNewPlace_4 : List eg_I := .inl (4, 3, .if_icmp .ge (23), 27, 0) :: c_Circ_isNewPlace_7
def c_Circ_isNewPlace_3 : List eg_I := .inl (3, 1, .iload 1, 0, 0) :: c_Circ_isNewPlace_4
def c_Circ_isNewPlace_2 : List eg_I := .inl (2, 1, .iload 2, 0, 0) :: c_Circ_isNewPlace_3
def c_Circ_isNewPlace_1 : List eg_I := .inl (1, 1, .istore 2, 0, 0) :: [.inl (2, 0, .nop, 0, 0)]
def c_Circ_isNewPlace_0 : List eg_I := .inl (0, 1, .iconst (0), 0, 0) :: c_Circ_isNewPlace_1
section
variable {rm : Room} {K : Nat → Nat → Nat → eg_Lo → List Value → List eg_E → Prop} {Q : Option Value → List eg_E → Prop} {kc ks : Nat} {loc : eg_Lo} {st : List Value} {h : List eg_E}
theorem s_Circ_isNewPlace_0  : wps rm K Q c_Circ_isNewPlace_0 kc ks loc (st) h = wps rm K Q c_Circ_isNewPlace_1 kc ks loc (.int (0) :: st) h := rfl
theorem s_Circ_isNewPlace_1 {x : Int32} : wps rm K Q c_Circ_isNewPlace_1 kc ks loc (.int x :: st) h = K 2 kc ks (eg_set1 loc 2 (.int x)) (st) h := rfl
theorem s_Circ_isNewPlace_2 {x : Int32} {l0 l1 : Option Value} {l : eg_Lo} : wps rm K Q c_Circ_isNewPlace_2 kc ks (l0 :: l1 :: some (.int x) :: l) (st) h = wps rm K Q c_Circ_isNewPlace_3 kc ks (l0 :: l1 :: some (.int x) :: l) (.int x :: st) h := rfl
theorem s_Circ_isNewPlace_3 {x : Int32} {l0 : Option Value} {l : eg_Lo} : wps rm K Q c_Circ_isNewPlace_3 kc ks (l0 :: some (.int x) :: l) (st) h = wps rm K Q c_Circ_isNewPlace_4 kc ks (l0 :: some (.int x) :: l) (.int x :: st) h := rfl
theorem s_Circ_isNewPlace_4 {x y : Int32} : wps rm K Q c_Circ_isNewPlace_4 kc ks loc (.int y :: .int x :: st) h = ((y ≤ x → K 27 kc ks loc st h) ∧ (¬ y ≤ x → wps rm K Q c_Circ_isNewPlace_7 kc ks loc (st) h)) := rfl
theorem s_Circ_isNewPlace_7 {x : Nat} {l : eg_Lo} : wps rm K Q c_Circ_isNewPlace_7 kc ks (some (.ref x) :: l) (st) h = wps rm K Q c_Circ_isNewPlace_8 kc ks (some (.ref x) :: l) (.ref x :: st) h := rfl
theorem s_Circ_isNewPlace_8 {x : Nat} : wps rm K Q c_Circ_isNewPlace_8 kc ks loc (.ref (x + 1) :: st) h = eg_gf h x 1 0 (fun v => wps rm K Q c_Circ_isNewPlace_11 kc ks loc (v :: st) h) := rfl
theorem s_Circ_isNewPlace_11 {x : Int32} {l0 l1 : Option Value} {l : eg_Lo} : wps rm K Q c_Circ_isNewPlace_11 kc ks (l0 :: l1 :: some (.int x) :: l) (st) h = wps rm K Q c_Circ_isNewPlace_12 kc ks (l0 :: l1 :: some (.int x) :: l) (.int x :: st) h := rfl
theorem s_Circ_isNewPlace_12 {x : Int32} {l0 : Option Value} {l : eg_Lo} : wps rm K Q c_Circ_isNewPlace_12 kc ks (l0 :: some (.int x) :: l) (st) h = wps rm K Q c_Circ_isNewPlace_13 kc ks (l0 :: some (.int x) :: l) (.int x :: st) h := rfl
theorem s_Circ_isNewPlace_13  {a1 : Value} {a2 : Value} {x : Nat} : wps rm K Q c_Circ_isNewPlace_13 kc ks loc (a2 :: a1 :: .ref (x + 1) :: st) h = (eg_cls h x 10 ∧ st.length ≤ 4 ∧ eg_Cs n_Tou_isOnePlace (.ref (x + 1) :: [a1, a2]) h (fun v h9 => wps rm K Q c_Circ_isNewPlace_16 kc ks loc (v.toList ++ st) h9)) := eg_c1_2
theorem s_Circ_isNewPlace_16 {x : Int32} : wps rm K Q c_Circ_isNewPlace_16 kc ks loc (.int x :: st) h = ((x = 0 → K 21 kc ks loc st h) ∧ (¬ x = 0 → wps rm K Q c_Circ_isNewPlace_19 kc ks loc (st) h)) := rfl
theorem s_Circ_isNewPlace_19  : wps rm K Q c_Circ_isNewPlace_19 kc ks loc (st) h = wps rm K Q c_Circ_isNewPlace_20 kc ks loc (.int (0) :: st) h := rfl
theorem s_Circ_isNewPlace_20 {x : Int32} : wps rm K Q c_Circ_isNewPlace_20 kc ks loc ([.int x]) h = (kc = rm.cells ∧ ((1 : Nat) = 1 → x = 0 ∨ x = 1) ∧ Q (some (.int x)) h) := rfl
theorem s_Circ_isNewPlace_21 {x : Int32} {l0 l1 : Option Value} {l9 : eg_Lo} : wps rm K Q c_Circ_isNewPlace_21 kc ks (l0 :: l1 :: some (.int x) :: l9) (st) h = wps rm K Q c_Circ_isNewPlace_24 kc ks (eg_set1 (l0 :: l1 :: some (.int x) :: l9) 2 (.int (x + (1)))) (st) h := rfl
theorem s_Circ_isNewPlace_24  : wps rm K Q c_Circ_isNewPlace_24 kc ks loc (st) h = K 2 kc ks loc st h := rfl
theorem s_Circ_isNewPlace_27  : wps rm K Q c_Circ_isNewPlace_27 kc ks loc (st) h = wps rm K Q c_Circ_isNewPlace_28 kc ks loc (.int (1) :: st) h := rfl
theorem s_Circ_isNewPlace_28 {x : Int32} : wps rm K Q c_Circ_isNewPlace_28 kc ks loc ([.int x]) h = (kc = rm.cells ∧ ((1 : Nat) = 1 → x = 0 ∨ x = 1) ∧ Q (some (.int x)) h) := rfl
def T_Circ_isNewPlace : List (Nat × List eg_I) := [(21, c_Circ_isNewPlace_21), (27, c_Circ_isNewPlace_27)]
theorem j_Circ_isNewPlace_21 {R : Nat → Nat → Nat → eg_Lo → List Value → List eg_E → Prop} {f pc0 : Nat} : eg_run rm R Q T_Circ_isNewPlace (f + 1) 21 kc ks loc st h = wps rm (eg_run rm R Q T_Circ_isNewPlace f) Q c_Circ_isNewPlace_21 kc ks loc st h := rfl
theorem j_Circ_isNewPlace_27 {R : Nat → Nat → Nat → eg_Lo → List Value → List eg_E → Prop} {f pc0 : Nat} : eg_run rm R Q T_Circ_isNewPlace (f + 1) 27 kc ks loc st h = wps rm (eg_run rm R Q T_Circ_isNewPlace f) Q c_Circ_isNewPlace_27 kc ks loc st h := rfl
theorem j_Circ_isNewPlace_2 {R : Nat → Nat → Nat → eg_Lo → List Value → List eg_E → Prop} {f pc0 : Nat} : eg_run rm R Q T_Circ_isNewPlace (f + 1) 2 kc ks loc st h = R 2 kc ks loc st h := rfl
end
theorem q_Circ_isNewPlace : (T_Circ_isNewPlace.all fun q => eg_seq m_Circ_isNewPlace q.1 q.2) = true := by decide +kernel
theorem b_Circ_isNewPlace {as : List Value} {h : List eg_E} {Q : Option Value → List eg_E → Prop} (hf : (eg_fl as).length ≤ 3) (hw : wps (eg_rm m_Circ_isNewPlace) (eg_run (eg_rm m_Circ_isNewPlace) (eg_R m_Circ_isNewPlace Q (h.length + 0)) Q T_Circ_isNewPlace 4) Q c_Circ_isNewPlace_0 0 0 (eg_entry 3 as) [] h) : eg_Runs n_Circ_isNewPlace as h Q := eg_begin (d := m_Circ_isNewPlace) rfl (by decide) (by decide +kernel) q_Circ_isNewPlace hf hw
theorem p_Circ_isNewPlace_2 {Q : Option Value → List eg_E → Prop} {n0 kc ks : Nat} {loc : eg_Lo} {st : List Value} {h : List eg_E} (hw : wps (eg_rm m_Circ_isNewPlace) (eg_run (eg_rm m_Circ_isNewPlace) (eg_R m_Circ_isNewPlace Q n0) Q T_Circ_isNewPlace 4) Q c_Circ_isNewPlace_2 kc ks loc st h) : eg_R m_Circ_isNewPlace Q n0 2 kc ks loc st h := eg_go (by decide +kernel) q_Circ_isNewPlace hw
/-! ===== Circ_setCircle ===== -/
def c_Circ_setCircle_22 : List eg_I := .inl (22, 1, .return_, 0, 0) :: []
def c_Circ_setCircle_19 : List eg_I := .inl (19, 3, .putfield 98, 1, 4) :: c_Circ_setCircle_22
def c_Circ_setCircle_17 : List eg_I := .inl (17, 2, .lload 6, 0, 0) :: c_Circ_setCircle_19
def c_Circ_setCircle_16 : List eg_I := .inl (16, 1, .aload 0, 0, 0) :: c_Circ_setCircle_17
def c_Circ_setCircle_13 : List eg_I := .inl (13, 3, .putfield 95, 1, 3) :: c_Circ_setCircle_16
def c_Circ_setCircle_11 : List eg_I := .inl (11, 2, .lload 4, 0, 0) :: c_Circ_setCircle_13
def c_Circ_setCircle_10 : List eg_I := .inl (10, 1, .aload 0, 0, 0) :: c_Circ_setCircle_11
def c_Circ_setCircle_7 : List eg_I := .inl (7, 3, .putfield 91, 1, 2) :: c_Circ_setCircle_10
def c_Circ_setCircle_6 : List eg_I := .inl (6, 1, .lload 2, 0, 0) :: c_Circ_setCircle_7
def c_Circ_setCircle_5 : List eg_I := .inl (5, 1, .aload 0, 0, 0) :: c_Circ_setCircle_6
def c_Circ_setCircle_2 : List eg_I := .inl (2, 3, .putfield 88, 1, 1) :: c_Circ_setCircle_5
def c_Circ_setCircle_1 : List eg_I := .inl (1, 1, .iload 1, 0, 0) :: c_Circ_setCircle_2
def c_Circ_setCircle_0 : List eg_I := .inl (0, 1, .aload 0, 0, 0) :: c_Circ_setCircle_1
section
variable {rm : Room} {K : Nat → Nat → Nat → eg_Lo → List Value → List eg_E → Prop} {Q : Option Value → List eg_E → Prop} {kc ks : Nat} {loc : eg_Lo} {st : List Value} {h : List eg_E}
theorem s_Circ_setCircle_0 {x : Nat} {l : eg_Lo} : wps rm K Q c_Circ_setCircle_0 kc ks (some (.ref x) :: l) (st) h = wps rm K Q c_Circ_setCircle_1 kc ks (some (.ref x) :: l) (.ref x :: st) h := rfl
theorem s_Circ_setCircle_1 {x : Int32} {l0 : Option Value} {l : eg_Lo} : wps rm K Q c_Circ_setCircle_1 kc ks (l0 :: some (.int x) :: l) (st) h = wps rm K Q c_Circ_setCircle_2 kc ks (l0 :: some (.int x) :: l) (.int x :: st) h := rfl
theorem s_Circ_setCircle_2 {x : Nat} {v : Value} : wps rm K Q c_Circ_setCircle_2 kc ks loc (v :: .ref (x + 1) :: st) h = eg_pf h x 1 1 v (fun h9 => wps rm K Q c_Circ_setCircle_5 kc ks loc (st) h9) := rfl
theorem s_Circ_setCircle_5 {x : Nat} {l : eg_Lo} : wps rm K Q c_Circ_setCircle_5 kc ks (some (.ref x) :: l) (st) h = wps rm K Q c_Circ_setCircle_6 kc ks (some (.ref x) :: l) (.ref x :: st) h := rfl
theorem s_Circ_setCircle_6 {x : Int64} {l0 l1 : Option Value} {l : eg_Lo} : wps rm K Q c_Circ_setCircle_6 kc ks (l0 :: l1 :: some (.long x) :: l) (st) h = wps rm K Q c_Circ_setCircle_7 kc ks (l0 :: l1 :: some (.long x) :: l) (.long x :: st) h := rfl
theorem s_Circ_setCircle_7 {x : Nat} {v : Value} : wps rm K Q c_Circ_setCircle_7 kc ks loc (v :: .ref (x + 1) :: st) h = eg_pf h x 1 2 v (fun h9 => wps rm K Q c_Circ_setCircle_10 kc ks loc (st) h9) := rfl
theorem s_Circ_setCircle_10 {x : Nat} {l : eg_Lo} : wps rm K Q c_Circ_setCircle_10 kc ks (some (.ref x) :: l) (st) h = wps rm K Q c_Circ_setCircle_11 kc ks (some (.ref x) :: l) (.ref x :: st) h := rfl
theorem s_Circ_setCircle_11 {x : Int64} {l0 l1 l2 l3 : Option Value} {l : eg_Lo} : wps rm K Q c_Circ_setCircle_11 kc ks (l0 :: l1 :: l2 :: l3 :: some (.long x) :: l) (st) h = wps rm K Q c_Circ_setCircle_13 kc ks (l0 :: l1 :: l2 :: l3 :: some (.long x) :: l) (.long x :: st) h := rfl
theorem s_Circ_setCircle_13 {x : Nat} {v : Value} : wps rm K Q c_Circ_setCircle_13 kc ks loc (v :: .ref (x + 1) :: st) h = eg_pf h x 1 3 v (fun h9 => wps rm K Q c_Circ_setCircle_16 kc ks loc (st) h9) := rfl
theorem s_Circ_setCircle_16 {x : Nat} {l : eg_Lo} : wps rm K Q c_Circ_setCircle_16 kc ks (some (.ref x) :: l) (st) h = wps rm K Q c_Circ_setCircle_17 kc ks (some (.ref x) :: l) (.ref x :: st) h := rfl
theorem s_Circ_setCircle_17 {x : Int64} {l0 l1 l2 l3 l4 l5 : Option Value} {l : eg_Lo} : wps rm K Q c_Circ_setCircle_17 kc ks (l0 :: l1 :: l2 :: l3 :: l4 :: l5 :: some (.long x) :: l) (st) h = wps rm K Q c_Circ_setCircle_19 kc ks (l0 :: l1 :: l2 :: l3 :: l4 :: l5 :: some (.long x) :: l) (.long x :: st) h := rfl
theorem s_Circ_setCircle_19 {x : Nat} {v : Value} : wps rm K Q c_Circ_setCircle_19 kc ks loc (v :: .ref (x + 1) :: st) h = eg_pf h x 1 4 v (fun h9 => wps rm K Q c_Circ_setCircle_22 kc ks loc (st) h9) := rfl
theorem s_Circ_setCircle_22  : wps rm K Q c_Circ_setCircle_22 kc ks loc ([]) h = (kc = rm.cells ∧ Q none h) := rfl
def T_Circ_setCircle : List (Nat × List eg_I) := []
end
theorem q_Circ_setCircle : (T_Circ_setCircle.all fun q => eg_seq m_Circ_setCircle q.1 q.2) = true := by decide +kernel
theorem b_Circ_setCircle {as : List Value} {h : List eg_E} {Q : Option Value → List eg_E → Prop} (hf : (eg_fl as).length ≤ 8) (hw : wps (eg_rm m_Circ_setCircle) (eg_run (eg_rm m_Circ_setCircle) (eg_R m_Circ_setCircle Q (h.length + 0)) Q T_Circ_setCircle 2) Q c_Circ_setCircle_0 0 0 (eg_entry 8 as) [] h) : eg_Runs n_Circ_setCircle as h Q := eg_begin (d := m_Circ_setCircle) rfl (by decide) (by decide +kernel) q_Circ_setCircle hf hw
/-! ===== Circ_setCircleOfThree ===== -/
def c_Circ_setCircleOfThree_185 : List eg_I := .inl (185, 1, .return_, 0, 0) :: []
def c_Circ_setCircleOfThree_182 : List eg_I := .inr (182, 1, 40, n_Circ_setCircle, 4, 1, 0, 0) :: c_Circ_setCircleOfThree_185
def c_Circ_setCircleOfThree_181 : List eg_I := .inl (181, 1, .lmul, 0, 0) :: c_Circ_setCircleOfThree_182
def c_Circ_setCircleOfThree_179 : List eg_I := .inl (179, 2, .lload 16, 0, 0) :: c_Circ_setCircleOfThree_181
def c_Circ_setCircleOfThree_178 : List eg_I := .inl (178, 1, .lmul, 0, 0) :: c_Circ_setCircleOfThree_179
def c_Circ_setCircleOfThree_175 : List eg_I := .inl (175, 3, .sipush (2), 63, 0) :: c_Circ_setCircleOfThree_178
def c_Circ_setCircleOfThree_173 : List eg_I := .inl (173, 2, .lload 18, 0, 0) :: c_Circ_setCircleOfThree_175
def c_Circ_setCircleOfThree_172 : List eg_I := .inl (172, 1, .lmul, 0, 0) :: c_Circ_setCircleOfThree_173
def c_Circ_setCircleOfThree_171 : List eg_I := .inl (171, 1, .lsub, 0, 0) :: c_Circ_setCircleOfThree_172
def c_Circ_setCircleOfThree_170 : List eg_I := .inl (170, 1, .lmul, 0, 0) :: c_Circ_setCircleOfThree_171
def c_Circ_setCircleOfThree_168 : List eg_I := .inl (168, 2, .lload 12, 0, 0) :: c_Circ_setCircleOfThree_170
def c_Circ_setCircleOfThree_166 : List eg_I := .inl (166, 2, .lload 8, 0, 0) :: c_Circ_setCircleOfThree_168
def c_Circ_setCircleOfThree_165 : List eg_I := .inl (165, 1, .lmul, 0, 0) :: c_Circ_setCircleOfThree_166
def c_Circ_setCircleOfThree_163 : List eg_I := .inl (163, 2, .lload 14, 0, 0) :: c_Circ_setCircleOfThree_165
def c_Circ_setCircleOfThree_161 : List eg_I := .inl (161, 2, .lload 4, 0, 0) :: c_Circ_setCircleOfThree_163
def c_Circ_setCircleOfThree_159 : List eg_I := .inl (159, 2, .lload 18, 0, 0) :: c_Circ_setCircleOfThree_161
def c_Circ_setCircleOfThree_158 : List eg_I := .inl (158, 1, .lmul, 0, 0) :: c_Circ_setCircleOfThree_159
def c_Circ_setCircleOfThree_157 : List eg_I := .inl (157, 1, .lsub, 0, 0) :: c_Circ_setCircleOfThree_158
def c_Circ_setCircleOfThree_156 : List eg_I := .inl (156, 1, .lmul, 0, 0) :: c_Circ_setCircleOfThree_157
def c_Circ_setCircleOfThree_154 : List eg_I := .inl (154, 2, .lload 14, 0, 0) :: c_Circ_setCircleOfThree_156
def c_Circ_setCircleOfThree_152 : List eg_I := .inl (152, 2, .lload 6, 0, 0) :: c_Circ_setCircleOfThree_154
def c_Circ_setCircleOfThree_151 : List eg_I := .inl (151, 1, .lmul, 0, 0) :: c_Circ_setCircleOfThree_152
def c_Circ_setCircleOfThree_149 : List eg_I := .inl (149, 2, .lload 12, 0, 0) :: c_Circ_setCircleOfThree_151
def c_Circ_setCircleOfThree_147 : List eg_I := .inl (147, 2, .lload 10, 0, 0) :: c_Circ_setCircleOfThree_149
def c_Circ_setCircleOfThree_145 : List eg_I := .inl (145, 2, .lload 18, 0, 0) :: c_Circ_setCircleOfThree_147
def c_Circ_setCircleOfThree_144 : List eg_I := .inl (144, 1, .iload 1, 0, 0) :: c_Circ_setCircleOfThree_145
def c_Circ_setCircleOfThree_143 : List eg_I := .inl (143, 1, .aload 0, 0, 0) :: c_Circ_setCircleOfThree_144
def c_Circ_setCircleOfThree_141 : List eg_I := .inl (141, 2, .lstore 18, 0, 0) :: c_Circ_setCircleOfThree_143
def c_Circ_setCircleOfThree_140 : List eg_I := .inl (140, 1, .sipush (1), 0, 0) :: c_Circ_setCircleOfThree_141
def c_Circ_setCircleOfThree_137 : List eg_I := .inl (137, 3, .goto (4), 141, 0) :: []
def c_Circ_setCircleOfThree_134 : List eg_I := .inl (134, 3, .sipush (-1), 101, 0) :: c_Circ_setCircleOfThree_137
def c_Circ_setCircleOfThree_131 : List eg_I := .inl (131, 3, .ifCond .ge (9), 140, 0) :: c_Circ_setCircleOfThree_134
def c_Circ_setCircleOfThree_130 : List eg_I := .inl (130, 1, .lcmp, 0, 0) :: c_Circ_setCircleOfThree_131
def c_Circ_setCircleOfThree_129 : List eg_I := .inl (129, 1, .sipush (0), 0, 0) :: c_Circ_setCircleOfThree_130
def c_Circ_setCircleOfThree_127 : List eg_I := .inl (127, 2, .lload 16, 0, 0) :: c_Circ_setCircleOfThree_129
def c_Circ_setCircleOfThree_125 : List eg_I := .inl (125, 2, .lstore 16, 0, 0) :: c_Circ_setCircleOfThree_127
def c_Circ_setCircleOfThree_124 : List eg_I := .inl (124, 1, .lsub, 0, 0) :: c_Circ_setCircleOfThree_125
def c_Circ_setCircleOfThree_123 : List eg_I := .inl (123, 1, .lmul, 0, 0) :: c_Circ_setCircleOfThree_124
def c_Circ_setCircleOfThree_121 : List eg_I := .inl (121, 2, .lload 8, 0, 0) :: c_Circ_setCircleOfThree_123
def c_Circ_setCircleOfThree_119 : List eg_I := .inl (119, 2, .lload 6, 0, 0) :: c_Circ_setCircleOfThree_121
def c_Circ_setCircleOfThree_118 : List eg_I := .inl (118, 1, .lmul, 0, 0) :: c_Circ_setCircleOfThree_119
def c_Circ_setCircleOfThree_116 : List eg_I := .inl (116, 2, .lload 10, 0, 0) :: c_Circ_setCircleOfThree_118
def c_Circ_setCircleOfThree_114 : List eg_I := .inl (114, 2, .lload 4, 0, 0) :: c_Circ_setCircleOfThree_116
def c_Circ_setCircleOfThree_112 : List eg_I := .inl (112, 2, .lstore 14, 0, 0) :: c_Circ_setCircleOfThree_114
def c_Circ_setCircleOfThree_111 : List eg_I := .inl (111, 1, .ladd, 0, 0) :: c_Circ_setCircleOfThree_112
def c_Circ_setCircleOfThree_110 : List eg_I := .inl (110, 1, .lmul, 0, 0) :: c_Circ_setCircleOfThree_111
def c_Circ_setCircleOfThree_108 : List eg_I := .inl (108, 2, .lload 10, 0, 0) :: c_Circ_setCircleOfThree_110
def c_Circ_setCircleOfThree_106 : List eg_I := .inl (106, 2, .lload 10, 0, 0) :: c_Circ_setCircleOfThree_108
def c_Circ_setCircleOfThree_105 : List eg_I := .inl (105, 1, .lmul, 0, 0) :: c_Circ_setCircleOfThree_106
def c_Circ_setCircleOfThree_103 : List eg_I := .inl (103, 2, .lload 8, 0, 0) :: c_Circ_setCircleOfThree_105
def c_Circ_setCircleOfThree_101 : List eg_I := .inl (101, 2, .lload 8, 0, 0) :: c_Circ_setCircleOfThree_103
def c_Circ_setCircleOfThree_99 : List eg_I := .inl (99, 2, .lstore 12, 0, 0) :: c_Circ_setCircleOfThree_101
def c_Circ_setCircleOfThree_98 : List eg_I := .inl (98, 1, .ladd, 0, 0) :: c_Circ_setCircleOfThree_99
def c_Circ_setCircleOfThree_97 : List eg_I := .inl (97, 1, .lmul, 0, 0) :: c_Circ_setCircleOfThree_98
def c_Circ_setCircleOfThree_95 : List eg_I := .inl (95, 2, .lload 6, 0, 0) :: c_Circ_setCircleOfThree_97
def c_Circ_setCircleOfThree_93 : List eg_I := .inl (93, 2, .lload 6, 0, 0) :: c_Circ_setCircleOfThree_95
def c_Circ_setCircleOfThree_92 : List eg_I := .inl (92, 1, .lmul, 0, 0) :: c_Circ_setCircleOfThree_93
def c_Circ_setCircleOfThree_90 : List eg_I := .inl (90, 2, .lload 4, 0, 0) :: c_Circ_setCircleOfThree_92
def c_Circ_setCircleOfThree_88 : List eg_I := .inl (88, 2, .lload 4, 0, 0) :: c_Circ_setCircleOfThree_90
def c_Circ_setCircleOfThree_86 : List eg_I := .inl (86, 2, .lstore 10, 0, 0) :: c_Circ_setCircleOfThree_88
def c_Circ_setCircleOfThree_85 : List eg_I := .inl (85, 1, .i2l, 0, 0) :: c_Circ_setCircleOfThree_86
def c_Circ_setCircleOfThree_84 : List eg_I := .inl (84, 1, .isub, 0, 0) :: c_Circ_setCircleOfThree_85
def c_Circ_setCircleOfThree_83 : List eg_I := .inl (83, 1, .iaload, 0, 0) :: c_Circ_setCircleOfThree_84
def c_Circ_setCircleOfThree_82 : List eg_I := .inl (82, 1, .iload 1, 0, 0) :: c_Circ_setCircleOfThree_83
def c_Circ_setCircleOfThree_79 : List eg_I := .inl (79, 3, .getfield 60, 10, 1) :: c_Circ_setCircleOfThree_82
def c_Circ_setCircleOfThree_76 : List eg_I := .inl (76, 3, .getfield 12, 1, 0) :: c_Circ_setCircleOfThree_79
def c_Circ_setCircleOfThree_75 : List eg_I := .inl (75, 1, .aload 0, 0, 0) :: c_Circ_setCircleOfThree_76
def c_Circ_setCircleOfThree_74 : List eg_I := .inl (74, 1, .iaload, 0, 0) :: c_Circ_setCircleOfThree_75
def c_Circ_setCircleOfThree_73 : List eg_I := .inl (73, 1, .iload 3, 0, 0) :: c_Circ_setCircleOfThree_74
def c_Circ_setCircleOfThree_70 : List eg_I := .inl (70, 3, .getfield 60, 10, 1) :: c_Circ_setCircleOfThree_73
def c_Circ_setCircleOfThree_67 : List eg_I := .inl (67, 3, .getfield 12, 1, 0) :: c_Circ_setCircleOfThree_70
def c_Circ_setCircleOfThree_66 : List eg_I := .inl (66, 1, .aload 0, 0, 0) :: c_Circ_setCircleOfThree_67
def c_Circ_setCircleOfThree_64 : List eg_I := .inl (64, 2, .lstore 8, 0, 0) :: c_Circ_setCircleOfThree_66
def c_Circ_setCircleOfThree_63 : List eg_I := .inl (63, 1, .i2l, 0, 0) :: c_Circ_setCircleOfThree_64
def c_Circ_setCircleOfThree_62 : List eg_I := .inl (62, 1, .isub, 0, 0) :: c_Circ_setCircleOfThree_63
def c_Circ_setCircleOfThree_61 : List eg_I := .inl (61, 1, .iaload, 0, 0) :: c_Circ_setCircleOfThree_62
def c_Circ_setCircleOfThree_60 : List eg_I := .inl (60, 1, .iload 1, 0, 0) :: c_Circ_setCircleOfThree_61
def c_Circ_setCircleOfThree_57 : List eg_I := .inl (57, 3, .getfield 57, 10, 0) :: c_Circ_setCircleOfThree_60
def c_Circ_setCircleOfThree_54 : List eg_I := .inl (54, 3, .getfield 12, 1, 0) :: c_Circ_setCircleOfThree_57
def c_Circ_setCircleOfThree_53 : List eg_I := .inl (53, 1, .aload 0, 0, 0) :: c_Circ_setCircleOfThree_54
def c_Circ_setCircleOfThree_52 : List eg_I := .inl (52, 1, .iaload, 0, 0) :: c_Circ_setCircleOfThree_53
def c_Circ_setCircleOfThree_51 : List eg_I := .inl (51, 1, .iload 3, 0, 0) :: c_Circ_setCircleOfThree_52
def c_Circ_setCircleOfThree_48 : List eg_I := .inl (48, 3, .getfield 57, 10, 0) :: c_Circ_setCircleOfThree_51
def c_Circ_setCircleOfThree_45 : List eg_I := .inl (45, 3, .getfield 12, 1, 0) :: c_Circ_setCircleOfThree_48
def c_Circ_setCircleOfThree_44 : List eg_I := .inl (44, 1, .aload 0, 0, 0) :: c_Circ_setCircleOfThree_45
def c_Circ_setCircleOfThree_42 : List eg_I := .inl (42, 2, .lstore 6, 0, 0) :: c_Circ_setCircleOfThree_44
def c_Circ_setCircleOfThree_41 : List eg_I := .inl (41, 1, .i2l, 0, 0) :: c_Circ_setCircleOfThree_42
def c_Circ_setCircleOfThree_40 : List eg_I := .inl (40, 1, .isub, 0, 0) :: c_Circ_setCircleOfThree_41
def c_Circ_setCircleOfThree_39 : List eg_I := .inl (39, 1, .iaload, 0, 0) :: c_Circ_setCircleOfThree_40
def c_Circ_setCircleOfThree_38 : List eg_I := .inl (38, 1, .iload 1, 0, 0) :: c_Circ_setCircleOfThree_39
def c_Circ_setCircleOfThree_35 : List eg_I := .inl (35, 3, .getfield 60, 10, 1) :: c_Circ_setCircleOfThree_38
def c_Circ_setCircleOfThree_32 : List eg_I := .inl (32, 3, .getfield 12, 1, 0) :: c_Circ_setCircleOfThree_35
def c_Circ_setCircleOfThree_31 : List eg_I := .inl (31, 1, .aload 0, 0, 0) :: c_Circ_setCircleOfThree_32
def c_Circ_setCircleOfThree_30 : List eg_I := .inl (30, 1, .iaload, 0, 0) :: c_Circ_setCircleOfThree_31
def c_Circ_setCircleOfThree_29 : List eg_I := .inl (29, 1, .iload 2, 0, 0) :: c_Circ_setCircleOfThree_30
def c_Circ_setCircleOfThree_26 : List eg_I := .inl (26, 3, .getfield 60, 10, 1) :: c_Circ_setCircleOfThree_29
def c_Circ_setCircleOfThree_23 : List eg_I := .inl (23, 3, .getfield 12, 1, 0) :: c_Circ_setCircleOfThree_26
def c_Circ_setCircleOfThree_22 : List eg_I := .inl (22, 1, .aload 0, 0, 0) :: c_Circ_setCircleOfThree_23
def c_Circ_setCircleOfThree_20 : List eg_I := .inl (20, 2, .lstore 4, 0, 0) :: c_Circ_setCircleOfThree_22
def c_Circ_setCircleOfThree_19 : List eg_I := .inl (19, 1, .i2l, 0, 0) :: c_Circ_setCircleOfThree_20
def c_Circ_setCircleOfThree_18 : List eg_I := .inl (18, 1, .isub, 0, 0) :: c_Circ_setCircleOfThree_19
def c_Circ_setCircleOfThree_17 : List eg_I := .inl (17, 1, .iaload, 0, 0) :: c_Circ_setCircleOfThree_18
def c_Circ_setCircleOfThree_16 : List eg_I := .inl (16, 1, .iload 1, 0, 0) :: c_Circ_setCircleOfThree_17
def c_Circ_setCircleOfThree_13 : List eg_I := .inl (13, 3, .getfield 57, 10, 0) :: c_Circ_setCircleOfThree_16
def c_Circ_setCircleOfThree_10 : List eg_I := .inl (10, 3, .getfield 12, 1, 0) :: c_Circ_setCircleOfThree_13
def c_Circ_setCircleOfThree_9 : List eg_I := .inl (9, 1, .aload 0, 0, 0) :: c_Circ_setCircleOfThree_10
def c_Circ_setCircleOfThree_8 : List eg_I := .inl (8, 1, .iaload, 0, 0) :: c_Circ_setCircleOfThree_9
def c_Circ_setCircleOfThree_7 : List eg_I := .inl (7, 1, .iload 2, 0, 0) :: c_Circ_setCircleOfThree_8
def c_Circ_setCircleOfThree_4 : List eg_I := .inl (4, 3, .getfield 57, 10, 0) :: c_Circ_setCircleOfThree_7
def c_Circ_setCircleOfThree_1 : List eg_I := .inl (1, 3, .getfield 12, 1, 0) :: c_Circ_setCircleOfThree_4
def c_Circ_setCircleOfThree_0 : List eg_I := .inl (0, 1, .aload 0, 0, 0) :: c_Circ_setCircleOfThree_1
section
variable {rm : Room} {K : Nat → Nat → Nat → eg_Lo → List Value → List eg_E → Prop} {Q : Option Value → List eg_E → Prop} {kc ks : Nat} {loc : eg_Lo} {st : List Value} {h : List eg_E}
theorem s_Circ_setCircleOfThree_0 {x : Nat} {l : eg_Lo} : wps rm K Q c_Circ_setCircleOfThree_0 kc ks (some (.ref x) :: l) (st) h = wps rm K Q c_Circ_setCircleOfThree_1 kc ks (some (.ref x) :: l) (.ref x :: st) h := rfl
theorem s_Circ_setCircleOfThree_1 {x : Nat} : wps rm K Q c_Circ_setCircleOfThree_1 kc ks loc (.ref (x + 1) :: st) h = eg_gf h x 1 0 (fun v => wps rm K Q c_Circ_setCircleOfThree_4 kc ks loc (v :: st) h) := rfl
theorem s_Circ_setCircleOfThree_4 {x : Nat} : wps rm K Q c_Circ_setCircleOfThree_4 kc ks loc (.ref (x + 1) :: st) h = eg_gf h x 10 0 (fun v => wps rm K Q c_Circ_setCircleOfThree_7 kc ks loc (v :: st) h) := rfl
theorem s_Circ_setCircleOfThree_7 {x : Int32} {l0 l1 : Option Value} {l : eg_Lo} : wps rm K Q c_Circ_setCircleOfThree_7 kc ks (l0 :: l1 :: some (.int x) :: l) (st) h = wps rm K Q c_Circ_setCircleOfThree_8 kc ks (l0 :: l1 :: some (.int x) :: l) (.int x :: st) h := rfl
theorem s_Circ_setCircleOfThree_8 {x : Nat} {i : Int32} : wps rm K Q c_Circ_setCircleOfThree_8 kc ks loc (.int i :: .ref (x + 1) :: st) h = eg_ia h x i (fun v => wps rm K Q c_Circ_setCircleOfThree_9 kc ks loc (.int v :: st) h) := rfl
theorem s_Circ_setCircleOfThree_9 {x : Nat} {l : eg_Lo} : wps rm K Q c_Circ_setCircleOfThree_9 kc ks (some (.ref x) :: l) (st) h = wps rm K Q c_Circ_setCircleOfThree_10 kc ks (some (.ref x) :: l) (.ref x :: st) h := rfl
theorem s_Circ_setCircleOfThree_10 {x : Nat} : wps rm K Q c_Circ_setCircleOfThree_10 kc ks loc (.ref (x + 1) :: st) h = eg_gf h x 1 0 (fun v => wps rm K Q c_Circ_setCircleOfThree_13 kc ks loc (v :: st) h) := rfl
theorem s_Circ_setCircleOfThree_13 {x : Nat} : wps rm K Q c_Circ_setCircleOfThree_13 kc ks loc (.ref (x + 1) :: st) h = eg_gf h x 10 0 (fun v => wps rm K Q c_Circ_setCircleOfThree_16 kc ks loc (v :: st) h) := rfl
theorem s_Circ_setCircleOfThree_16 {x : Int32} {l0 : Option Value} {l : eg_Lo} : wps rm K Q c_Circ_setCircleOfThree_16 kc ks (l0 :: some (.int x) :: l) (st) h = wps rm K Q c_Circ_setCircleOfThree_17 kc ks (l0 :: some (.int x) :: l) (.int x :: st) h := rfl
theorem s_Circ_setCircleOfThree_17 {x : Nat} {i : Int32} : wps rm K Q c_Circ_setCircleOfThree_17 kc ks loc (.int i :: .ref (x + 1) :: st) h = eg_ia h x i (fun v => wps rm K Q c_Circ_setCircleOfThree_18 kc ks loc (.int v :: st) h) := rfl
theorem s_Circ_setCircleOfThree_18 {x y : Int32} : wps rm K Q c_Circ_setCircleOfThree_18 kc ks loc (.int y :: .int x :: st) h = wps rm K Q c_Circ_setCircleOfThree_19 kc ks loc (.int (x - y) :: st) h := rfl
theorem s_Circ_setCircleOfThree_19 {x : Int32} : wps rm K Q c_Circ_setCircleOfThree_19 kc ks loc (.int x :: st) h = wps rm K Q c_Circ_setCircleOfThree_20 kc ks loc (.long (x.toInt64) :: st) h := rfl
theorem s_Circ_setCircleOfThree_20 {x : Int64} : wps rm K Q c_Circ_setCircleOfThree_20 kc ks loc (.long x :: st) h = wps rm K Q c_Circ_setCircleOfThree_22 kc ks (eg_set2 loc 4 (.long x)) (st) h := rfl
theorem s_Circ_setCircleOfThree_22 {x : Nat} {l : eg_Lo} : wps rm K Q c_Circ_setCircleOfThree_22 kc ks (some (.ref x) :: l) (st) h = wps rm K Q c_Circ_setCircleOfThree_23 kc ks (some (.ref x) :: l) (.ref x :: st) h := rfl
theorem s_Circ_setCircleOfThree_23 {x : Nat} : wps rm K Q c_Circ_setCircleOfThree_23 kc ks loc (.ref (x + 1) :: st) h = eg_gf h x 1 0 (fun v => wps rm K Q c_Circ_setCircleOfThree_26 kc ks loc (v :: st) h) := rfl
theorem s_Circ_setCircleOfThree_26 {x : Nat} : wps rm K Q c_Circ_setCircleOfThree_26 kc ks loc (.ref (x + 1) :: st) h = eg_gf h x 10 1 (fun v => wps rm K Q c_Circ_setCircleOfThree_29 kc ks loc (v :: st) h) := rfl
theorem s_Circ_setCircleOfThree_29 {x : Int32} {l0 l1 : Option Value} {l : eg_Lo} : wps rm K Q c_Circ_setCircleOfThree_29 kc ks (l0 :: l1 :: some (.int x) :: l) (st) h = wps rm K Q c_Circ_setCircleOfThree_30 kc ks (l0 :: l1 :: some (.int x) :: l) (.int x :: st) h := rfl
theorem s_Circ_setCircleOfThree_30 {x : Nat} {i : Int32} : wps rm K Q c_Circ_setCircleOfThree_30 kc ks loc (.int i :: .ref (x + 1) :: st) h = eg_ia h x i (fun v => wps rm K Q c_Circ_setCircleOfThree_31 kc ks loc (.int v :: st) h) := rfl
theorem s_Circ_setCircleOfThree_31 {x : Nat} {l : eg_Lo} : wps rm K Q c_Circ_setCircleOfThree_31 kc ks (some (.ref x) :: l) (st) h = wps rm K Q c_Circ_setCircleOfThree_32 kc ks (some (.ref x) :: l) (.ref x :: st) h := rfl
theorem s_Circ_setCircleOfThree_32 {x : Nat} : wps rm K Q c_Circ_setCircleOfThree_32 kc ks loc (.ref (x + 1) :: st) h = eg_gf h x 1 0 (fun v => wps rm K Q c_Circ_setCircleOfThree_35 kc ks loc (v :: st) h) := rfl
theorem s_Circ_setCircleOfThree_35 {x : Nat} : wps rm K Q c_Circ_setCircleOfThree_35 kc ks loc (.ref (x + 1) :: st) h = eg_gf h x 10 1 (fun v => wps rm K Q c_Circ_setCircleOfThree_38 kc ks loc (v :: st) h) := rfl
theorem s_Circ_setCircleOfThree_38 {x : Int32} {l0 : Option Value} {l : eg_Lo} : wps rm K Q c_Circ_setCircleOfThree_38 kc ks (l0 :: some (.int x) :: l) (st) h = wps rm K Q c_Circ_setCircleOfThree_39 kc ks (l0 :: some (.int x) :: l) (.int x :: st) h := rfl
theorem s_Circ_setCircleOfThree_39 {x : Nat} {i : Int32} : wps rm K Q c_Circ_setCircleOfThree_39 kc ks loc (.int i :: .ref (x + 1) :: st) h = eg_ia h x i (fun v => wps rm K Q c_Circ_setCircleOfThree_40 kc ks loc (.int v :: st) h) := rfl
theorem s_Circ_setCircleOfThree_40 {x y : Int32} : wps rm K Q c_Circ_setCircleOfThree_40 kc ks loc (.int y :: .int x :: st) h = wps rm K Q c_Circ_setCircleOfThree_41 kc ks loc (.int (x - y) :: st) h := rfl
theorem s_Circ_setCircleOfThree_41 {x : Int32} : wps rm K Q c_Circ_setCircleOfThree_41 kc ks loc (.int x :: st) h = wps rm K Q c_Circ_setCircleOfThree_42 kc ks loc (.long (x.toInt64) :: st) h := rfl
theorem s_Circ_setCircleOfThree_42 {x : Int64} : wps rm K Q c_Circ_setCircleOfThree_42 kc ks loc (.long x :: st) h = wps rm K Q c_Circ_setCircleOfThree_44 kc ks (eg_set2 loc 6 (.long x)) (st) h := rfl
theorem s_Circ_setCircleOfThree_44 {x : Nat} {l : eg_Lo} : wps rm K Q c_Circ_setCircleOfThree_44 kc ks (some (.ref x) :: l) (st) h = wps rm K Q c_Circ_setCircleOfThree_45 kc ks (some (.ref x) :: l) (.ref x :: st) h := rfl
theorem s_Circ_setCircleOfThree_45 {x : Nat} : wps rm K Q c_Circ_setCircleOfThree_45 kc ks loc (.ref (x + 1) :: st) h = eg_gf h x 1 0 (fun v => wps rm K Q c_Circ_setCircleOfThree_48 kc ks loc (v :: st) h) := rfl
theorem s_Circ_setCircleOfThree_48 {x : Nat} : wps rm K Q c_Circ_setCircleOfThree_48 kc ks loc (.ref (x + 1) :: st) h = eg_gf h x 10 0 (fun v => wps rm K Q c_Circ_setCircleOfThree_51 kc ks loc (v :: st) h) := rfl
theorem s_Circ_setCircleOfThree_51 {x : Int32} {l0 l1 l2 : Option Value} {l : eg_Lo} : wps rm K Q c_Circ_setCircleOfThree_51 kc ks (l0 :: l1 :: l2 :: some (.int x) :: l) (st) h = wps rm K Q c_Circ_setCircleOfThree_52 kc ks (l0 :: l1 :: l2 :: some (.int x) :: l) (.int x :: st) h := rfl
theorem s_Circ_setCircleOfThree_52 {x : Nat} {i : Int32} : wps rm K Q c_Circ_setCircleOfThree_52 kc ks loc (.int i :: .ref (x + 1) :: st) h = eg_ia h x i (fun v => wps rm K Q c_Circ_setCircleOfThree_53 kc ks loc (.int v :: st) h) := rfl
theorem s_Circ_setCircleOfThree_53 {x : Nat} {l : eg_Lo} : wps rm K Q c_Circ_setCircleOfThree_53 kc ks (some (.ref x) :: l) (st) h = wps rm K Q c_Circ_setCircleOfThree_54 kc ks (some (.ref x) :: l) (.ref x :: st) h := rfl
theorem s_Circ_setCircleOfThree_54 {x : Nat} : wps rm K Q c_Circ_setCircleOfThree_54 kc ks loc (.ref (x + 1) :: st) h = eg_gf h x 1 0 (fun v => wps rm K Q c_Circ_setCircleOfThree_57 kc ks loc (v :: st) h) := rfl
theorem s_Circ_setCircleOfThree_57 {x : Nat} : wps rm K Q c_Circ_setCircleOfThree_57 kc ks loc (.ref (x + 1) :: st) h = eg_gf h x 10 0 (fun v => wps rm K Q c_Circ_setCircleOfThree_60 kc ks loc (v :: st) h) := rfl
theorem s_Circ_setCircleOfThree_60 {x : Int32} {l0 : Option Value} {l : eg_Lo} : wps rm K Q c_Circ_setCircleOfThree_60 kc ks (l0 :: some (.int x) :: l) (st) h = wps rm K Q c_Circ_setCircleOfThree_61 kc ks (l0 :: some (.int x) :: l) (.int x :: st) h := rfl
theorem s_Circ_setCircleOfThree_61 {x : Nat} {i : Int32} : wps rm K Q c_Circ_setCircleOfThree_61 kc ks loc (.int i :: .ref (x + 1) :: st) h = eg_ia h x i (fun v => wps rm K Q c_Circ_setCircleOfThree_62 kc ks loc (.int v :: st) h) := rfl
theorem s_Circ_setCircleOfThree_62 {x y : Int32} : wps rm K Q c_Circ_setCircleOfThree_62 kc ks loc (.int y :: .int x :: st) h = wps rm K Q c_Circ_setCircleOfThree_63 kc ks loc (.int (x - y) :: st) h := rfl
theorem s_Circ_setCircleOfThree_63 {x : Int32} : wps rm K Q c_Circ_setCircleOfThree_63 kc ks loc (.int x :: st) h = wps rm K Q c_Circ_setCircleOfThree_64 kc ks loc (.long (x.toInt64) :: st) h := rfl
theorem s_Circ_setCircleOfThree_64 {x : Int64} : wps rm K Q c_Circ_setCircleOfThree_64 kc ks loc (.long x :: st) h = wps rm K Q c_Circ_setCircleOfThree_66 kc ks (eg_set2 loc 8 (.long x)) (st) h := rfl
theorem s_Circ_setCircleOfThree_66 {x : Nat} {l : eg_Lo} : wps rm K Q c_Circ_setCircleOfThree_66 kc ks (some (.ref x) :: l) (st) h = wps rm K Q c_Circ_setCircleOfThree_67 kc ks (some (.ref x) :: l) (.ref x :: st) h := rfl
theorem s_Circ_setCircleOfThree_67 {x : Nat} : wps rm K Q c_Circ_setCircleOfThree_67 kc ks loc (.ref (x + 1) :: st) h = eg_gf h x 1 0 (fun v => wps rm K Q c_Circ_setCircleOfThree_70 kc ks loc (v :: st) h) := rfl
theorem s_Circ_setCircleOfThree_70 {x : Nat} : wps rm K Q c_Circ_setCircleOfThree_70 kc ks loc (.ref (x + 1) :: st) h = eg_gf h x 10 1 (fun v => wps rm K Q c_Circ_setCircleOfThree_73 kc ks loc (v :: st) h) := rfl
theorem s_Circ_setCircleOfThree_73 {x : Int32} {l0 l1 l2 : Option Value} {l : eg_Lo} : wps rm K Q c_Circ_setCircleOfThree_73 kc ks (l0 :: l1 :: l2 :: some (.int x) :: l) (st) h = wps rm K Q c_Circ_setCircleOfThree_74 kc ks (l0 :: l1 :: l2 :: some (.int x) :: l) (.int x :: st) h := rfl
theorem s_Circ_setCircleOfThree_74 {x : Nat} {i : Int32} : wps rm K Q c_Circ_setCircleOfThree_74 kc ks loc (.int i :: .ref (x + 1) :: st) h = eg_ia h x i (fun v => wps rm K Q c_Circ_setCircleOfThree_75 kc ks loc (.int v :: st) h) := rfl
theorem s_Circ_setCircleOfThree_75 {x : Nat} {l : eg_Lo} : wps rm K Q c_Circ_setCircleOfThree_75 kc ks (some (.ref x) :: l) (st) h = wps rm K Q c_Circ_setCircleOfThree_76 kc ks (some (.ref x) :: l) (.ref x :: st) h := rfl
theorem s_Circ_setCircleOfThree_76 {x : Nat} : wps rm K Q c_Circ_setCircleOfThree_76 kc ks loc (.ref (x + 1) :: st) h = eg_gf h x 1 0 (fun v => wps rm K Q c_Circ_setCircleOfThree_79 kc ks loc (v :: st) h) := rfl
theorem s_Circ_setCircleOfThree_79 {x : Nat} : wps rm K Q c_Circ_setCircleOfThree_79 kc ks loc (.ref (x + 1) :: st) h = eg_gf h x 10 1 (fun v => wps rm K Q c_Circ_setCircleOfThree_82 kc ks loc (v :: st) h) := rfl
theorem s_Circ_setCircleOfThree_82 {x : Int32} {l0 : Option Value} {l : eg_Lo} : wps rm K Q c_Circ_setCircleOfThree_82 kc ks (l0 :: some (.int x) :: l) (st) h = wps rm K Q c_Circ_setCircleOfThree_83 kc ks (l0 :: some (.int x) :: l) (.int x :: st) h := rfl
theorem s_Circ_setCircleOfThree_83 {x : Nat} {i : Int32} : wps rm K Q c_Circ_setCircleOfThree_83 kc ks loc (.int i :: .ref (x + 1) :: st) h = eg_ia h x i (fun v => wps rm K Q c_Circ_setCircleOfThree_84 kc ks loc (.int v :: st) h) := rfl
theorem s_Circ_setCircleOfThree_84 {x y : Int32} : wps rm K Q c_Circ_setCircleOfThree_84 kc ks loc (.int y :: .int x :: st) h = wps rm K Q c_Circ_setCircleOfThree_85 kc ks loc (.int (x - y) :: st) h := rfl
theorem s_Circ_setCircleOfThree_85 {x : Int32} : wps rm K Q c_Circ_setCircleOfThree_85 kc ks loc (.int x :: st) h = wps rm K Q c_Circ_setCircleOfThree_86 kc ks loc (.long (x.toInt64) :: st) h := rfl
theorem s_Circ_setCircleOfThree_86 {x : Int64} : wps rm K Q c_Circ_setCircleOfThree_86 kc ks loc (.long x :: st) h = wps rm K Q c_Circ_setCircleOfThree_88 kc ks (eg_set2 loc 10 (.long x)) (st) h := rfl
theorem s_Circ_setCircleOfThree_88 {x : Int64} {l0 l1 l2 l3 : Option Value} {l : eg_Lo} : wps rm K Q c_Circ_setCircleOfThree_88 kc ks (l0 :: l1 :: l2 :: l3 :: some (.long x) :: l) (st) h = wps rm K Q c_Circ_setCircleOfThree_90 kc ks (l0 :: l1 :: l2 :: l3 :: some (.long x) :: l) (.long x :: st) h := rfl
theorem s_Circ_setCircleOfThree_90 {x : Int64} {l0 l1 l2 l3 : Option Value} {l : eg_Lo} : wps rm K Q c_Circ_setCircleOfThree_90 kc ks (l0 :: l1 :: l2 :: l3 :: some (.long x) :: l) (st) h = wps rm K Q c_Circ_setCircleOfThree_92 kc ks (l0 :: l1 :: l2 :: l3 :: some (.long x) :: l) (.long x :: st) h := rfl
theorem s_Circ_setCircleOfThree_92 {x y : Int64} : wps rm K Q c_Circ_setCircleOfThree_92 kc ks loc (.long y :: .long x :: st) h = wps rm K Q c_Circ_setCircleOfThree_93 kc ks loc (.long (x * y) :: st) h := rfl
theorem s_Circ_setCircleOfThree_93 {x : Int64} {l0 l1 l2 l3 l4 l5 : Option Value} {l : eg_Lo} : wps rm K Q c_Circ_setCircleOfThree_93 kc ks (l0 :: l1 :: l2 :: l3 :: l4 :: l5 :: some (.long x) :: l) (st) h = wps rm K Q c_Circ_setCircleOfThree_95 kc ks (l0 :: l1 :: l2 :: l3 :: l4 :: l5 :: some (.long x) :: l) (.long x :: st) h := rfl
theorem s_Circ_setCircleOfThree_95 {x : Int64} {l0 l1 l2 l3 l4 l5 : Option Value} {l : eg_Lo} : wps rm K Q c_Circ_setCircleOfThree_95 kc ks (l0 :: l1 :: l2 :: l3 :: l4 :: l5 :: some (.long x) :: l) (st) h = wps rm K Q c_Circ_setCircleOfThree_97 kc ks (l0 :: l1 :: l2 :: l3 :: l4 :: l5 :: some (.long x) :: l) (.long x :: st) h := rfl
theorem s_Circ_setCircleOfThree_97 {x y : Int64} : wps rm K Q c_Circ_setCircleOfThree_97 kc ks loc (.long y :: .long x :: st) h = wps rm K Q c_Circ_setCircleOfThree_98 kc ks loc (.long (x * y) :: st) h := rfl
theorem s_Circ_setCircleOfThree_98 {x y : Int64} : wps rm K Q c_Circ_setCircleOfThree_98 kc ks loc (.long y :: .long x :: st) h = wps rm K Q c_Circ_setCircleOfThree_99 kc ks loc (.long (x + y) :: st) h := rfl
theorem s_Circ_setCircleOfThree_99 {x : Int64} : wps rm K Q c_Circ_setCircleOfThree_99 kc ks loc (.long x :: st) h = wps rm K Q c_Circ_setCircleOfThree_101 kc ks (eg_set2 loc 12 (.long x)) (st) h := rfl
theorem s_Circ_setCircleOfThree_101 {x : Int64} {l0 l1 l2 l3 l4 l5 l6 l7 : Option Value} {l : eg_Lo} : wps rm K Q c_Circ_setCircleOfThree_101 kc ks (l0 :: l1 :: l2 :: l3 :: l4 :: l5 :: l6 :: l7 :: some (.long x) :: l) (st) h = wps rm K Q c_Circ_setCircleOfThree_103 kc ks (l0 :: l1 :: l2 :: l3 :: l4 :: l5 :: l6 :: l7 :: some (.long x) :: l) (.long x :: st) h := rfl
theorem s_Circ_setCircleOfThree_103 {x : Int64} {l0 l1 l2 l3 l4 l5 l6 l7 : Option Value} {l : eg_Lo} : wps rm K Q c_Circ_setCircleOfThree_103 kc ks (l0 :: l1 :: l2 :: l3 :: l4 :: l5 :: l6 :: l7 :: some (.long x) :: l) (st) h = wps rm K Q c_Circ_setCircleOfThree_105 kc ks (l0 :: l1 :: l2 :: l3 :: l4 :: l5 :: l6 :: l7 :: some (.long x) :: l) (.long x :: st) h := rfl
theorem s_Circ_setCircleOfThree_105 {x y : Int64} : wps rm K Q c_Circ_setCircleOfThree_105 kc ks loc (.long y :: .long x :: st) h = wps rm K Q c_Circ_setCircleOfThree_106 kc ks loc (.long (x * y) :: st) h := rfl
theorem s_Circ_setCircleOfThree_106 {x : Int64} {l0 l1 l2 l3 l4 l5 l6 l7 l8 l9 : Option Value} {l : eg_Lo} : wps rm K Q c_Circ_setCircleOfThree_106 kc ks (l0 :: l1 :: l2 :: l3 :: l4 :: l5 :: l6 :: l7 :: l8 :: l9 :: some (.long x) :: l) (st) h = wps rm K Q c_Circ_setCircleOfThree_108 kc ks (l0 :: l1 :: l2 :: l3 :: l4 :: l5 :: l6 :: l7 :: l8 :: l9 :: some (.long x) :: l) (.long x :: st) h := rfl
theorem s_Circ_setCircleOfThree_108 {x : Int64} {l0 l1 l2 l3 l4 l5 l6 l7 l8 l9 : Option Value} {l : eg_Lo} : wps rm K Q c_Circ_setCircleOfThree_108 kc ks (l0 :: l1 :: l2 :: l3 :: l4 :: l5 :: l6 :: l7 :: l8 :: l9 :: some (.long x) :: l) (st) h = wps rm K Q c_Circ_setCircleOfThree_110 kc ks (l0 :: l1 :: l2 :: l3 :: l4 :: l5 :: l6 :: l7 :: l8 :: l9 :: some (.long x) :: l) (.long x :: st) h := rfl
theorem s_Circ_setCircleOfThree_110 {x y : Int64} : wps rm K Q c_Circ_setCircleOfThree_110 kc ks loc (.long y :: .long x :: st) h = wps rm K Q c_Circ_setCircleOfThree_111 kc ks loc (.long (x * y) :: st) h := rfl
theorem s_Circ_setCircleOfThree_111 {x y : Int64} : wps rm K Q c_Circ_setCircleOfThree_111 kc ks loc (.long y :: .long x :: st) h = wps rm K Q c_Circ_setCircleOfThree_112 kc ks loc (.long (x + y) :: st) h := rfl
theorem s_Circ_setCircleOfThree_112 {x : Int64} : wps rm K Q c_Circ_setCircleOfThree_112 kc ks loc (.long x :: st) h = wps rm K Q c_Circ_setCircleOfThree_114 kc ks (eg_set2 loc 14 (.long x)) (st) h := rfl
theorem s_Circ_setCircleOfThree_114 {x : Int64} {l0 l1 l2 l3 : Option Value} {l : eg_Lo} : wps rm K Q c_Circ_setCircleOfThree_114 kc ks (l0 :: l1 :: l2 :: l3 :: some (.long x) :: l) (st) h = wps rm K Q c_Circ_setCircleOfThree_116 kc ks (l0 :: l1 :: l2 :: l3 :: some (.long x) :: l) (.long x :: st) h := rfl
theorem s_Circ_setCircleOfThree_116 {x : Int64} {l0 l1 l2 l3 l4 l5 l6 l7 l8 l9 : Option Value} {l : eg_Lo} : wps rm K Q c_Circ_setCircleOfThree_116 kc ks (l0 :: l1 :: l2 :: l3 :: l4 :: l5 :: l6 :: l7 :: l8 :: l9 :: some (.long x) :: l) (st) h = wps rm K Q c_Circ_setCircleOfThree_118 kc ks (l0 :: l1 :: l2 :: l3 :: l4 :: l5 :: l6 :: l7 :: l8 :: l9 :: some (.long x) :: l) (.long x :: st) h := rfl
theorem s_Circ_setCircleOfThree_118 {x y : Int64} : wps rm K Q c_Circ_setCircleOfThree_118 kc ks loc (.long y :: .long x :: st) h = wps rm K Q c_Circ_setCircleOfThree_119 kc ks loc (.long (x * y) :: st) h := rfl
theorem s_Circ_setCircleOfThree_119 {x : Int64} {l0 l1 l2 l3 l4 l5 : Option Value} {l : eg_Lo} : wps rm K Q c_Circ_setCircleOfThree_119 kc ks (l0 :: l1 :: l2 :: l3 :: l4 :: l5 :: some (.long x) :: l) (st) h = wps rm K Q c_Circ_setCircleOfThree_121 kc ks (l0 :: l1 :: l2 :: l3 :: l4 :: l5 :: some (.long x) :: l) (.long x :: st) h := rfl
theorem s_Circ_setCircleOfThree_121 {x : Int64} {l0 l1 l2 l3 l4 l5 l6 l7 : Option Value} {l : eg_Lo} : wps rm K Q c_Circ_setCircleOfThree_121 kc ks (l0 :: l1 :: l2 :: l3 :: l4 :: l5 :: l6 :: l7 :: some (.long x) :: l) (st) h = wps rm K Q c_Circ_setCircleOfThree_123 kc ks (l0 :: l1 :: l2 :: l3 :: l4 :: l5 :: l6 :: l7 :: some (.long x) :: l) (.long x :: st) h := rfl
theorem s_Circ_setCircleOfThree_123 {x y : Int64} : wps rm K Q c_Circ_setCircleOfThree_123 kc ks loc (.long y :: .long x :: st) h = wps rm K Q c_Circ_setCircleOfThree_124 kc ks loc (.long (x * y) :: st) h := rfl
theorem s_Circ_setCircleOfThree_124 {x y : Int64} : wps rm K Q c_Circ_setCircleOfThree_124 kc ks loc (.long y :: .long x :: st) h = wps rm K Q c_Circ_setCircleOfThree_125 kc ks loc (.long (x - y) :: st) h := rfl
theorem s_Circ_setCircleOfThree_125 {x : Int64} : wps rm K Q c_Circ_setCircleOfThree_125 kc ks loc (.long x :: st) h = wps rm K Q c_Circ_setCircleOfThree_127 kc ks (eg_set2 loc 16 (.long x)) (st) h := rfl
theorem s_Circ_setCircleOfThree_127 {x : Int64} {l0 l1 l2 l3 l4 l5 l6 l7 l8 l9 l10 l11 l12 l13 l14 l15 : Option Value} {l : eg_Lo} : wps rm K Q c_Circ_setCircleOfThree_127 kc ks (l0 :: l1 :: l2 :: l3 :: l4 :: l5 :: l6 :: l7 :: l8 :: l9 :: l10 :: l11 :: l12 :: l13 :: l14 :: l15 :: some (.long x) :: l) (st) h = wps rm K Q c_Circ_setCircleOfThree_129 kc ks (l0 :: l1 :: l2 :: l3 :: l4 :: l5 :: l6 :: l7 :: l8 :: l9 :: l10 :: l11 :: l12 :: l13 :: l14 :: l15 :: some (.long x) :: l) (.long x :: st) h := rfl
theorem s_Circ_setCircleOfThree_129  : wps rm K Q c_Circ_setCircleOfThree_129 kc ks loc (st) h = wps rm K Q c_Circ_setCircleOfThree_130 kc ks loc (.long (0) :: st) h := rfl
theorem s_Circ_setCircleOfThree_130 {x y : Int64} : wps rm K Q c_Circ_setCircleOfThree_130 kc ks loc (.long y :: .long x :: st) h = wps rm K Q c_Circ_setCircleOfThree_131 kc ks loc (.int (lg_cmp x y) :: st) h := rfl
theorem s_Circ_setCircleOfThree_131 {x : Int32} : wps rm K Q c_Circ_setCircleOfThree_131 kc ks loc (.int x :: st) h = ((0 ≤ x → K 140 kc ks loc st h) ∧ (¬ 0 ≤ x → wps rm K Q c_Circ_setCircleOfThree_134 kc ks loc (st) h)) := rfl
theorem s_Circ_setCircleOfThree_134  : wps rm K Q c_Circ_setCircleOfThree_134 kc ks loc (st) h = wps rm K Q c_Circ_setCircleOfThree_137 kc ks loc (.long (-1) :: st) h := rfl
theorem s_Circ_setCircleOfThree_137  : wps rm K Q c_Circ_setCircleOfThree_137 kc ks loc (st) h = K 141 kc ks loc st h := rfl
theorem s_Circ_setCircleOfThree_140  : wps rm K Q c_Circ_setCircleOfThree_140 kc ks loc (st) h = wps rm K Q c_Circ_setCircleOfThree_141 kc ks loc (.long (1) :: st) h := rfl
theorem s_Circ_setCircleOfThree_141 {x : Int64} : wps rm K Q c_Circ_setCircleOfThree_141 kc ks loc (.long x :: st) h = wps rm K Q c_Circ_setCircleOfThree_143 kc ks (eg_set2 loc 18 (.long x)) (st) h := rfl
theorem s_Circ_setCircleOfThree_143 {x : Nat} {l : eg_Lo} : wps rm K Q c_Circ_setCircleOfThree_143 kc ks (some (.ref x) :: l) (st) h = wps rm K Q c_Circ_setCircleOfThree_144 kc ks (some (.ref x) :: l) (.ref x :: st) h := rfl
theorem s_Circ_setCircleOfThree_144 {x : Int32} {l0 : Option Value} {l : eg_Lo} : wps rm K Q c_Circ_setCircleOfThree_144 kc ks (l0 :: some (.int x) :: l) (st) h = wps rm K Q c_Circ_setCircleOfThree_145 kc ks (l0 :: some (.int x) :: l) (.int x :: st) h := rfl
theorem s_Circ_setCircleOfThree_145 {x : Int64} {l0 l1 l2 l3 l4 l5 l6 l7 l8 l9 l10 l11 l12 l13 l14 l15 l16 l17 : Option Value} {l : eg_Lo} : wps rm K Q c_Circ_setCircleOfThree_145 kc ks (l0 :: l1 :: l2 :: l3 :: l4 :: l5 :: l6 :: l7 :: l8 :: l9 :: l10 :: l11 :: l12 :: l13 :: l14 :: l15 :: l16 :: l17 :: some (.long x) :: l) (st) h = wps rm K Q c_Circ_setCircleOfThree_147 kc ks (l0 :: l1 :: l2 :: l3 :: l4 :: l5 :: l6 :: l7 :: l8 :: l9 :: l10 :: l11 :: l12 :: l13 :: l14 :: l15 :: l16 :: l17 :: some (.long x) :: l) (.long x :: st) h := rfl
theorem s_Circ_setCircleOfThree_147 {x : Int64} {l0 l1 l2 l3 l4 l5 l6 l7 l8 l9 : Option Value} {l : eg_Lo} : wps rm K Q c_Circ_setCircleOfThree_147 kc ks (l0 :: l1 :: l2 :: l3 :: l4 :: l5 :: l6 :: l7 :: l8 :: l9 :: some (.long x) :: l) (st) h = wps rm K Q c_Circ_setCircleOfThree_149 kc ks (l0 :: l1 :: l2 :: l3 :: l4 :: l5 :: l6 :: l7 :: l8 :: l9 :: some (.long x) :: l) (.long x :: st) h := rfl
theorem s_Circ_setCircleOfThree_149 {x : Int64} {l0 l1 l2 l3 l4 l5 l6 l7 l8 l9 l10 l11 : Option Value} {l : eg_Lo} : wps rm K Q c_Circ_setCircleOfThree_149 kc ks (l0 :: l1 :: l2 :: l3 :: l4 :: l5 :: l6 :: l7 :: l8 :: l9 :: l10 :: l11 :: some (.long x) :: l) (st) h = wps rm K Q c_Circ_setCircleOfThree_151 kc ks (l0 :: l1 :: l2 :: l3 :: l4 :: l5 :: l6 :: l7 :: l8 :: l9 :: l10 :: l11 :: some (.long x) :: l) (.long x :: st) h := rfl
theorem s_Circ_setCircleOfThree_151 {x y : Int64} : wps rm K Q c_Circ_setCircleOfThree_151 kc ks loc (.long y :: .long x :: st) h = wps rm K Q c_Circ_setCircleOfThree_152 kc ks loc (.long (x * y) :: st) h := rfl
theorem s_Circ_setCircleOfThree_152 {x : Int64} {l0 l1 l2 l3 l4 l5 : Option Value} {l : eg_Lo} : wps rm K Q c_Circ_setCircleOfThree_152 kc ks (l0 :: l1 :: l2 :: l3 :: l4 :: l5 :: some (.long x) :: l) (st) h = wps rm K Q c_Circ_setCircleOfThree_154 kc ks (l0 :: l1 :: l2 :: l3 :: l4 :: l5 :: some (.long x) :: l) (.long x :: st) h := rfl
theorem s_Circ_setCircleOfThree_154 {x : Int64} {l0 l1 l2 l3 l4 l5 l6 l7 l8 l9 l10 l11 l12 l13 : Option Value} {l : eg_Lo} : wps rm K Q c_Circ_setCircleOfThree_154 kc ks (l0 :: l1 :: l2 :: l3 :: l4 :: l5 :: l6 :: l7 :: l8 :: l9 :: l10 :: l11 :: l12 :: l13 :: some (.long x) :: l) (st) h = wps rm K Q c_Circ_setCircleOfThree_156 kc ks (l0 :: l1 :: l2 :: l3 :: l4 :: l5 :: l6 :: l7 :: l8 :: l9 :: l10 :: l11 :: l12 :: l13 :: some (.long x) :: l) (.long x :: st) h := rfl
theorem s_Circ_setCircleOfThree_156 {x y : Int64} : wps rm K Q c_Circ_setCircleOfThree_156 kc ks loc (.long y :: .long x :: st) h = wps rm K Q c_Circ_setCircleOfThree_157 kc ks loc (.long (x * y) :: st) h := rfl
theorem s_Circ_setCircleOfThree_157 {x y : Int64} : wps rm K Q c_Circ_setCircleOfThree_157 kc ks loc (.long y :: .long x :: st) h = wps rm K Q c_Circ_setCircleOfThree_158 kc ks loc (.long (x - y) :: st) h := rfl
theorem s_Circ_setCircleOfThree_158 {x y : Int64} : wps rm K Q c_Circ_setCircleOfThree_158 kc ks loc (.long y :: .long x :: st) h = wps rm K Q c_Circ_setCircleOfThree_159 kc ks loc (.long (x * y) :: st) h := rfl
theorem s_Circ_setCircleOfThree_159 {x : Int64} {l0 l1 l2 l3 l4 l5 l6 l7 l8 l9 l10 l11 l12 l13 l14 l15 l16 l17 : Option Value} {l : eg_Lo} : wps rm K Q c_Circ_setCircleOfThree_159 kc ks (l0 :: l1 :: l2 :: l3 :: l4 :: l5 :: l6 :: l7 :: l8 :: l9 :: l10 :: l11 :: l12 :: l13 :: l14 :: l15 :: l16 :: l17 :: some (.long x) :: l) (st) h = wps rm K Q c_Circ_setCircleOfThree_161 kc ks (l0 :: l1 :: l2 :: l3 :: l4 :: l5 :: l6 :: l7 :: l8 :: l9 :: l10 :: l11 :: l12 :: l13 :: l14 :: l15 :: l16 :: l17 :: some (.long x) :: l) (.long x :: st) h := rfl
theorem s_Circ_setCircleOfThree_161 {x : Int64} {l0 l1 l2 l3 : Option Value} {l : eg_Lo} : wps rm K Q c_Circ_setCircleOfThree_161 kc ks (l0 :: l1 :: l2 :: l3 :: some (.long x) :: l) (st) h = wps rm K Q c_Circ_setCircleOfThree_163 kc ks (l0 :: l1 :: l2 :: l3 :: some (.long x) :: l) (.long x :: st) h := rfl
theorem s_Circ_setCircleOfThree_163 {x : Int64} {l0 l1 l2 l3 l4 l5 l6 l7 l8 l9 l10 l11 l12 l13 : Option Value} {l : eg_Lo} : wps rm K Q c_Circ_setCircleOfThree_163 kc ks (l0 :: l1 :: l2 :: l3 :: l4 :: l5 :: l6 :: l7 :: l8 :: l9 :: l10 :: l11 :: l12 :: l13 :: some (.long x) :: l) (st) h = wps rm K Q c_Circ_setCircleOfThree_165 kc ks (l0 :: l1 :: l2 :: l3 :: l4 :: l5 :: l6 :: l7 :: l8 :: l9 :: l10 :: l11 :: l12 :: l13 :: some (.long x) :: l) (.long x :: st) h := rfl
theorem s_Circ_setCircleOfThree_165 {x y : Int64} : wps rm K Q c_Circ_setCircleOfThree_165 kc ks loc (.long y :: .long x :: st) h = wps rm K Q c_Circ_setCircleOfThree_166 kc ks loc (.long (x * y) :: st) h := rfl
theorem s_Circ_setCircleOfThree_166 {x : Int64} {l0 l1 l2 l3 l4 l5 l6 l7 : Option Value} {l : eg_Lo} : wps rm K Q c_Circ_setCircleOfThree_166 kc ks (l0 :: l1 :: l2 :: l3 :: l4 :: l5 :: l6 :: l7 :: some (.long x) :: l) (st) h = wps rm K Q c_Circ_setCircleOfThree_168 kc ks (l0 :: l1 :: l2 :: l3 :: l4 :: l5 :: l6 :: l7 :: some (.long x) :: l) (.long x :: st) h := rfl
theorem s_Circ_setCircleOfThree_168 {x : Int64} {l0 l1 l2 l3 l4 l5 l6 l7 l8 l9 l10 l11 : Option Value} {l : eg_Lo} : wps rm K Q c_Circ_setCircleOfThree_168 kc ks (l0 :: l1 :: l2 :: l3 :: l4 :: l5 :: l6 :: l7 :: l8 :: l9 :: l10 :: l11 :: some (.long x) :: l) (st) h = wps rm K Q c_Circ_setCircleOfThree_170 kc ks (l0 :: l1 :: l2 :: l3 :: l4 :: l5 :: l6 :: l7 :: l8 :: l9 :: l10 :: l11 :: some (.long x) :: l) (.long x :: st) h := rfl
theorem s_Circ_setCircleOfThree_170 {x y : Int64} : wps rm K Q c_Circ_setCircleOfThree_170 kc ks loc (.long y :: .long x :: st) h = wps rm K Q c_Circ_setCircleOfThree_171 kc ks loc (.long (x * y) :: st) h := rfl
theorem s_Circ_setCircleOfThree_171 {x y : Int64} : wps rm K Q c_Circ_setCircleOfThree_171 kc ks loc (.long y :: .long x :: st) h = wps rm K Q c_Circ_setCircleOfThree_172 kc ks loc (.long (x - y) :: st) h := rfl
theorem s_Circ_setCircleOfThree_172 {x y : Int64} : wps rm K Q c_Circ_setCircleOfThree_172 kc ks loc (.long y :: .long x :: st) h = wps rm K Q c_Circ_setCircleOfThree_173 kc ks loc (.long (x * y) :: st) h := rfl
theorem s_Circ_setCircleOfThree_173 {x : Int64} {l0 l1 l2 l3 l4 l5 l6 l7 l8 l9 l10 l11 l12 l13 l14 l15 l16 l17 : Option Value} {l : eg_Lo} : wps rm K Q c_Circ_setCircleOfThree_173 kc ks (l0 :: l1 :: l2 :: l3 :: l4 :: l5 :: l6 :: l7 :: l8 :: l9 :: l10 :: l11 :: l12 :: l13 :: l14 :: l15 :: l16 :: l17 :: some (.long x) :: l) (st) h = wps rm K Q c_Circ_setCircleOfThree_175 kc ks (l0 :: l1 :: l2 :: l3 :: l4 :: l5 :: l6 :: l7 :: l8 :: l9 :: l10 :: l11 :: l12 :: l13 :: l14 :: l15 :: l16 :: l17 :: some (.long x) :: l) (.long x :: st) h := rfl
theorem s_Circ_setCircleOfThree_175  : wps rm K Q c_Circ_setCircleOfThree_175 kc ks loc (st) h = wps rm K Q c_Circ_setCircleOfThree_178 kc ks loc (.long (2) :: st) h := rfl
theorem s_Circ_setCircleOfThree_178 {x y : Int64} : wps rm K Q c_Circ_setCircleOfThree_178 kc ks loc (.long y :: .long x :: st) h = wps rm K Q c_Circ_setCircleOfThree_179 kc ks loc (.long (x * y) :: st) h := rfl
theorem s_Circ_setCircleOfThree_179 {x : Int64} {l0 l1 l2 l3 l4 l5 l6 l7 l8 l9 l10 l11 l12 l13 l14 l15 : Option Value} {l : eg_Lo} : wps rm K Q c_Circ_setCircleOfThree_179 kc ks (l0 :: l1 :: l2 :: l3 :: l4 :: l5 :: l6 :: l7 :: l8 :: l9 :: l10 :: l11 :: l12 :: l13 :: l14 :: l15 :: some (.long x) :: l) (st) h = wps rm K Q c_Circ_setCircleOfThree_181 kc ks (l0 :: l1 :: l2 :: l3 :: l4 :: l5 :: l6 :: l7 :: l8 :: l9 :: l10 :: l11 :: l12 :: l13 :: l14 :: l15 :: some (.long x) :: l) (.long x :: st) h := rfl
theorem s_Circ_setCircleOfThree_181 {x y : Int64} : wps rm K Q c_Circ_setCircleOfThree_181 kc ks loc (.long y :: .long x :: st) h = wps rm K Q c_Circ_setCircleOfThree_182 kc ks loc (.long (x * y) :: st) h := rfl
theorem s_Circ_setCircleOfThree_182  {a1 : Value} {a2 : Value} {a3 : Value} {a4 : Value} {x : Nat} : wps rm K Q c_Circ_setCircleOfThree_182 kc ks loc (a4 :: a3 :: a2 :: a1 :: .ref (x + 1) :: st) h = (eg_cls h x 1 ∧ st.length ≤ 4 ∧ eg_Cs n_Circ_setCircle (.ref (x + 1) :: [a1, a2, a3, a4]) h (fun v h9 => wps rm K Q c_Circ_setCircleOfThree_185 kc ks loc (v.toList ++ st) h9)) := eg_c1_4
theorem s_Circ_setCircleOfThree_185  : wps rm K Q c_Circ_setCircleOfThree_185 kc ks loc ([]) h = (kc = rm.cells ∧ Q none h) := rfl
def T_Circ_setCircleOfThree : List (Nat × List eg_I) := [(140, c_Circ_setCircleOfThree_140), (141, c_Circ_setCircleOfThree_141)]
theorem j_Circ_setCircleOfThree_140 {R : Nat → Nat → Nat → eg_Lo → List Value → List eg_E → Prop} {f pc0 : Nat} : eg_run rm R Q T_Circ_setCircleOfThree (f + 1) 140 kc ks loc st h = wps rm (eg_run rm R Q T_Circ_setCircleOfThree f) Q c_Circ_setCircleOfThree_140 kc ks loc st h := rfl
theorem j_Circ_setCircleOfThree_141 {R : Nat → Nat → Nat → eg_Lo → List Value → List eg_E → Prop} {f pc0 : Nat} : eg_run rm R Q T_Circ_setCircleOfThree (f + 1) 141 kc ks loc st h = wps rm (eg_run rm R Q T_Circ_setCircleOfThree f) Q c_Circ_setCircleOfThree_141 kc ks loc st h := rfl
end
theorem q_Circ_setCircleOfThree : (T_Circ_setCircleOfThree.all fun q => eg_seq m_Circ_setCircleOfThree q.1 q.2) = true := by decide +kernel
theorem b_Circ_setCircleOfThree {as : List Value} {h : List eg_E} {Q : Option Value → List eg_E → Prop} (hf : (eg_fl as).length ≤ 20) (hw : wps (eg_rm m_Circ_setCircleOfThree) (eg_run (eg_rm m_Circ_setCircleOfThree) (eg_R m_Circ_setCircleOfThree Q (h.length + 0)) Q T_Circ_setCircleOfThree 4) Q c_Circ_setCircleOfThree_0 0 0 (eg_entry 20 as) [] h) : eg_Runs n_Circ_setCircleOfThree as h Q := eg_begin (d := m_Circ_setCircleOfThree) rfl (by decide) (by decide +kernel) q_Circ_setCircleOfThree hf hw
/-! ===== Circ_outside ===== -/
def c_Circ_outside_82 : List eg_I := .inl (82, 1, .lreturn, 0, 0) :: []
def c_Circ_outside_81 : List eg_I := .inl (81, 1, .lsub, 0, 0) :: c_Circ_outside_82
def c_Circ_outside_80 : List eg_I := .inl (80, 1, .lmul, 0, 0) :: c_Circ_outside_81
def c_Circ_outside_79 : List eg_I := .inl (79, 1, .ladd, 0, 0) :: c_Circ_outside_80
def c_Circ_outside_78 : List eg_I := .inl (78, 1, .lmul, 0, 0) :: c_Circ_outside_79
def c_Circ_outside_75 : List eg_I := .inl (75, 3, .getfield 95, 1, 3) :: c_Circ_outside_78
def c_Circ_outside_74 : List eg_I := .inl (74, 1, .aload 0, 0, 0) :: c_Circ_outside_75
def c_Circ_outside_72 : List eg_I := .inl (72, 2, .lload 4, 0, 0) :: c_Circ_outside_74
def c_Circ_outside_71 : List eg_I := .inl (71, 1, .lmul, 0, 0) :: c_Circ_outside_72
def c_Circ_outside_68 : List eg_I := .inl (68, 3, .getfield 91, 1, 2) :: c_Circ_outside_71
def c_Circ_outside_67 : List eg_I := .inl (67, 1, .aload 0, 0, 0) :: c_Circ_outside_68
def c_Circ_outside_66 : List eg_I := .inl (66, 1, .lload 2, 0, 0) :: c_Circ_outside_67
def c_Circ_outside_63 : List eg_I := .inl (63, 3, .sipush (2), 63, 0) :: c_Circ_outside_66
def c_Circ_outside_62 : List eg_I := .inl (62, 1, .lmul, 0, 0) :: c_Circ_outside_63
def c_Circ_outside_61 : List eg_I := .inl (61, 1, .ladd, 0, 0) :: c_Circ_outside_62
def c_Circ_outside_60 : List eg_I := .inl (60, 1, .lmul, 0, 0) :: c_Circ_outside_61
def c_Circ_outside_58 : List eg_I := .inl (58, 2, .lload 4, 0, 0) :: c_Circ_outside_60
def c_Circ_outside_56 : List eg_I := .inl (56, 2, .lload 4, 0, 0) :: c_Circ_outside_58
def c_Circ_outside_55 : List eg_I := .inl (55, 1, .lmul, 0, 0) :: c_Circ_outside_56
def c_Circ_outside_54 : List eg_I := .inl (54, 1, .lload 2, 0, 0) :: c_Circ_outside_55
def c_Circ_outside_53 : List eg_I := .inl (53, 1, .lload 2, 0, 0) :: c_Circ_outside_54
def c_Circ_outside_50 : List eg_I := .inl (50, 3, .getfield 98, 1, 4) :: c_Circ_outside_53
def c_Circ_outside_49 : List eg_I := .inl (49, 1, .aload 0, 0, 0) :: c_Circ_outside_50
def c_Circ_outside_47 : List eg_I := .inl (47, 2, .lstore 4, 0, 0) :: c_Circ_outside_49
def c_Circ_outside_46 : List eg_I := .inl (46, 1, .i2l, 0, 0) :: c_Circ_outside_47
def c_Circ_outside_45 : List eg_I := .inl (45, 1, .isub, 0, 0) :: c_Circ_outside_46
def c_Circ_outside_44 : List eg_I := .inl (44, 1, .iaload, 0, 0) :: c_Circ_outside_45
def c_Circ_outside_41 : List eg_I := .inl (41, 3, .getfield 88, 1, 1) :: c_Circ_outside_44
def c_Circ_outside_40 : List eg_I := .inl (40, 1, .aload 0, 0, 0) :: c_Circ_outside_41
def c_Circ_outside_37 : List eg_I := .inl (37, 3, .getfield 60, 10, 1) :: c_Circ_outside_40
def c_Circ_outside_34 : List eg_I := .inl (34, 3, .getfield 12, 1, 0) :: c_Circ_outside_37
def c_Circ_outside_33 : List eg_I := .inl (33, 1, .aload 0, 0, 0) :: c_Circ_outside_34
def c_Circ_outside_32 : List eg_I := .inl (32, 1, .iaload, 0, 0) :: c_Circ_outside_33
def c_Circ_outside_31 : List eg_I := .inl (31, 1, .iload 1, 0, 0) :: c_Circ_outside_32
def c_Circ_outside_28 : List eg_I := .inl (28, 3, .getfield 60, 10, 1) :: c_Circ_outside_31
def c_Circ_outside_25 : List eg_I := .inl (25, 3, .getfield 12, 1, 0) :: c_Circ_outside_28
def c_Circ_outside_24 : List eg_I := .inl (24, 1, .aload 0, 0, 0) :: c_Circ_outside_25
def c_Circ_outside_23 : List eg_I := .inl (23, 1, .lstore 2, 0, 0) :: c_Circ_outside_24
def c_Circ_outside_22 : List eg_I := .inl (22, 1, .i2l, 0, 0) :: c_Circ_outside_23
def c_Circ_outside_21 : List eg_I := .inl (21, 1, .isub, 0, 0) :: c_Circ_outside_22
def c_Circ_outside_20 : List eg_I := .inl (20, 1, .iaload, 0, 0) :: c_Circ_outside_21
def c_Circ_outside_17 : List eg_I := .inl (17, 3, .getfield 88, 1, 1) :: c_Circ_outside_20
def c_Circ_outside_16 : List eg_I := .inl (16, 1, .aload 0, 0, 0) :: c_Circ_outside_17
def c_Circ_outside_13 : List eg_I := .inl (13, 3, .getfield 57, 10, 0) :: c_Circ_outside_16
def c_Circ_outside_10 : List eg_I := .inl (10, 3, .getfield 12, 1, 0) :: c_Circ_outside_13
def c_Circ_outside_9 : List eg_I := .inl (9, 1, .aload 0, 0, 0) :: c_Circ_outside_10
def c_Circ_outside_8 : List eg_I := .inl (8, 1, .iaload, 0, 0) :: c_Circ_outside_9
def c_Circ_outside_7 : List eg_I := .inl (7, 1, .iload 1, 0, 0) :: c_Circ_outside_8
def c_Circ_outside_4 : List eg_I := .inl (4, 3, .getfield 57, 10, 0) :: c_Circ_outside_7
def c_Circ_outside_1 : List eg_I := .inl (1, 3, .getfield 12, 1, 0) :: c_Circ_outside_4
def c_Circ_outside_0 : List eg_I := .inl (0, 1, .aload 0, 0, 0) :: c_Circ_outside_1
section
variable {rm : Room} {K : Nat → Nat → Nat → eg_Lo → List Value → List eg_E → Prop} {Q : Option Value → List eg_E → Prop} {kc ks : Nat} {loc : eg_Lo} {st : List Value} {h : List eg_E}
theorem s_Circ_outside_0 {x : Nat} {l : eg_Lo} : wps rm K Q c_Circ_outside_0 kc ks (some (.ref x) :: l) (st) h = wps rm K Q c_Circ_outside_1 kc ks (some (.ref x) :: l) (.ref x :: st) h := rfl
theorem s_Circ_outside_1 {x : Nat} : wps rm K Q c_Circ_outside_1 kc ks loc (.ref (x + 1) :: st) h = eg_gf h x 1 0 (fun v => wps rm K Q c_Circ_outside_4 kc ks loc (v :: st) h) := rfl
theorem s_Circ_outside_4 {x : Nat} : wps rm K Q c_Circ_outside_4 kc ks loc (.ref (x + 1) :: st) h = eg_gf h x 10 0 (fun v => wps rm K Q c_Circ_outside_7 kc ks loc (v :: st) h) := rfl
theorem s_Circ_outside_7 {x : Int32} {l0 : Option Value} {l : eg_Lo} : wps rm K Q c_Circ_outside_7 kc ks (l0 :: some (.int x) :: l) (st) h = wps rm K Q c_Circ_outside_8 kc ks (l0 :: some (.int x) :: l) (.int x :: st) h := rfl
theorem s_Circ_outside_8 {x : Nat} {i : Int32} : wps rm K Q c_Circ_outside_8 kc ks loc (.int i :: .ref (x + 1) :: st) h = eg_ia h x i (fun v => wps rm K Q c_Circ_outside_9 kc ks loc (.int v :: st) h) := rfl
theorem s_Circ_outside_9 {x : Nat} {l : eg_Lo} : wps rm K Q c_Circ_outside_9 kc ks (some (.ref x) :: l) (st) h = wps rm K Q c_Circ_outside_10 kc ks (some (.ref x) :: l) (.ref x :: st) h := rfl
theorem s_Circ_outside_10 {x : Nat} : wps rm K Q c_Circ_outside_10 kc ks loc (.ref (x + 1) :: st) h = eg_gf h x 1 0 (fun v => wps rm K Q c_Circ_outside_13 kc ks loc (v :: st) h) := rfl
theorem s_Circ_outside_13 {x : Nat} : wps rm K Q c_Circ_outside_13 kc ks loc (.ref (x + 1) :: st) h = eg_gf h x 10 0 (fun v => wps rm K Q c_Circ_outside_16 kc ks loc (v :: st) h) := rfl
theorem s_Circ_outside_16 {x : Nat} {l : eg_Lo} : wps rm K Q c_Circ_outside_16 kc ks (some (.ref x) :: l) (st) h = wps rm K Q c_Circ_outside_17 kc ks (some (.ref x) :: l) (.ref x :: st) h := rfl
theorem s_Circ_outside_17 {x : Nat} : wps rm K Q c_Circ_outside_17 kc ks loc (.ref (x + 1) :: st) h = eg_gf h x 1 1 (fun v => wps rm K Q c_Circ_outside_20 kc ks loc (v :: st) h) := rfl
theorem s_Circ_outside_20 {x : Nat} {i : Int32} : wps rm K Q c_Circ_outside_20 kc ks loc (.int i :: .ref (x + 1) :: st) h = eg_ia h x i (fun v => wps rm K Q c_Circ_outside_21 kc ks loc (.int v :: st) h) := rfl
theorem s_Circ_outside_21 {x y : Int32} : wps rm K Q c_Circ_outside_21 kc ks loc (.int y :: .int x :: st) h = wps rm K Q c_Circ_outside_22 kc ks loc (.int (x - y) :: st) h := rfl
theorem s_Circ_outside_22 {x : Int32} : wps rm K Q c_Circ_outside_22 kc ks loc (.int x :: st) h = wps rm K Q c_Circ_outside_23 kc ks loc (.long (x.toInt64) :: st) h := rfl
theorem s_Circ_outside_23 {x : Int64} : wps rm K Q c_Circ_outside_23 kc ks loc (.long x :: st) h = wps rm K Q c_Circ_outside_24 kc ks (eg_set2 loc 2 (.long x)) (st) h := rfl
theorem s_Circ_outside_24 {x : Nat} {l : eg_Lo} : wps rm K Q c_Circ_outside_24 kc ks (some (.ref x) :: l) (st) h = wps rm K Q c_Circ_outside_25 kc ks (some (.ref x) :: l) (.ref x :: st) h := rfl
theorem s_Circ_outside_25 {x : Nat} : wps rm K Q c_Circ_outside_25 kc ks loc (.ref (x + 1) :: st) h = eg_gf h x 1 0 (fun v => wps rm K Q c_Circ_outside_28 kc ks loc (v :: st) h) := rfl
theorem s_Circ_outside_28 {x : Nat} : wps rm K Q c_Circ_outside_28 kc ks loc (.ref (x + 1) :: st) h = eg_gf h x 10 1 (fun v => wps rm K Q c_Circ_outside_31 kc ks loc (v :: st) h) := rfl
theorem s_Circ_outside_31 {x : Int32} {l0 : Option Value} {l : eg_Lo} : wps rm K Q c_Circ_outside_31 kc ks (l0 :: some (.int x) :: l) (st) h = wps rm K Q c_Circ_outside_32 kc ks (l0 :: some (.int x) :: l) (.int x :: st) h := rfl
theorem s_Circ_outside_32 {x : Nat} {i : Int32} : wps rm K Q c_Circ_outside_32 kc ks loc (.int i :: .ref (x + 1) :: st) h = eg_ia h x i (fun v => wps rm K Q c_Circ_outside_33 kc ks loc (.int v :: st) h) := rfl
theorem s_Circ_outside_33 {x : Nat} {l : eg_Lo} : wps rm K Q c_Circ_outside_33 kc ks (some (.ref x) :: l) (st) h = wps rm K Q c_Circ_outside_34 kc ks (some (.ref x) :: l) (.ref x :: st) h := rfl
theorem s_Circ_outside_34 {x : Nat} : wps rm K Q c_Circ_outside_34 kc ks loc (.ref (x + 1) :: st) h = eg_gf h x 1 0 (fun v => wps rm K Q c_Circ_outside_37 kc ks loc (v :: st) h) := rfl
theorem s_Circ_outside_37 {x : Nat} : wps rm K Q c_Circ_outside_37 kc ks loc (.ref (x + 1) :: st) h = eg_gf h x 10 1 (fun v => wps rm K Q c_Circ_outside_40 kc ks loc (v :: st) h) := rfl
theorem s_Circ_outside_40 {x : Nat} {l : eg_Lo} : wps rm K Q c_Circ_outside_40 kc ks (some (.ref x) :: l) (st) h = wps rm K Q c_Circ_outside_41 kc ks (some (.ref x) :: l) (.ref x :: st) h := rfl
theorem s_Circ_outside_41 {x : Nat} : wps rm K Q c_Circ_outside_41 kc ks loc (.ref (x + 1) :: st) h = eg_gf h x 1 1 (fun v => wps rm K Q c_Circ_outside_44 kc ks loc (v :: st) h) := rfl
theorem s_Circ_outside_44 {x : Nat} {i : Int32} : wps rm K Q c_Circ_outside_44 kc ks loc (.int i :: .ref (x + 1) :: st) h = eg_ia h x i (fun v => wps rm K Q c_Circ_outside_45 kc ks loc (.int v :: st) h) := rfl
theorem s_Circ_outside_45 {x y : Int32} : wps rm K Q c_Circ_outside_45 kc ks loc (.int y :: .int x :: st) h = wps rm K Q c_Circ_outside_46 kc ks loc (.int (x - y) :: st) h := rfl
theorem s_Circ_outside_46 {x : Int32} : wps rm K Q c_Circ_outside_46 kc ks loc (.int x :: st) h = wps rm K Q c_Circ_outside_47 kc ks loc (.long (x.toInt64) :: st) h := rfl
theorem s_Circ_outside_47 {x : Int64} : wps rm K Q c_Circ_outside_47 kc ks loc (.long x :: st) h = wps rm K Q c_Circ_outside_49 kc ks (eg_set2 loc 4 (.long x)) (st) h := rfl
theorem s_Circ_outside_49 {x : Nat} {l : eg_Lo} : wps rm K Q c_Circ_outside_49 kc ks (some (.ref x) :: l) (st) h = wps rm K Q c_Circ_outside_50 kc ks (some (.ref x) :: l) (.ref x :: st) h := rfl
theorem s_Circ_outside_50 {x : Nat} : wps rm K Q c_Circ_outside_50 kc ks loc (.ref (x + 1) :: st) h = eg_gf h x 1 4 (fun v => wps rm K Q c_Circ_outside_53 kc ks loc (v :: st) h) := rfl
theorem s_Circ_outside_53 {x : Int64} {l0 l1 : Option Value} {l : eg_Lo} : wps rm K Q c_Circ_outside_53 kc ks (l0 :: l1 :: some (.long x) :: l) (st) h = wps rm K Q c_Circ_outside_54 kc ks (l0 :: l1 :: some (.long x) :: l) (.long x :: st) h := rfl
theorem s_Circ_outside_54 {x : Int64} {l0 l1 : Option Value} {l : eg_Lo} : wps rm K Q c_Circ_outside_54 kc ks (l0 :: l1 :: some (.long x) :: l) (st) h = wps rm K Q c_Circ_outside_55 kc ks (l0 :: l1 :: some (.long x) :: l) (.long x :: st) h := rfl
theorem s_Circ_outside_55 {x y : Int64} : wps rm K Q c_Circ_outside_55 kc ks loc (.long y :: .long x :: st) h = wps rm K Q c_Circ_outside_56 kc ks loc (.long (x * y) :: st) h := rfl
theorem s_Circ_outside_56 {x : Int64} {l0 l1 l2 l3 : Option Value} {l : eg_Lo} : wps rm K Q c_Circ_outside_56 kc ks (l0 :: l1 :: l2 :: l3 :: some (.long x) :: l) (st) h = wps rm K Q c_Circ_outside_58 kc ks (l0 :: l1 :: l2 :: l3 :: some (.long x) :: l) (.long x :: st) h := rfl
theorem s_Circ_outside_58 {x : Int64} {l0 l1 l2 l3 : Option Value} {l : eg_Lo} : wps rm K Q c_Circ_outside_58 kc ks (l0 :: l1 :: l2 :: l3 :: some (.long x) :: l) (st) h = wps rm K Q c_Circ_outside_60 kc ks (l0 :: l1 :: l2 :: l3 :: some (.long x) :: l) (.long x :: st) h := rfl
theorem s_Circ_outside_60 {x y : Int64} : wps rm K Q c_Circ_outside_60 kc ks loc (.long y :: .long x :: st) h = wps rm K Q c_Circ_outside_61 kc ks loc (.long (x * y) :: st) h := rfl
theorem s_Circ_outside_61 {x y : Int64} : wps rm K Q c_Circ_outside_61 kc ks loc (.long y :: .long x :: st) h = wps rm K Q c_Circ_outside_62 kc ks loc (.long (x + y) :: st) h := rfl
theorem s_Circ_outside_62 {x y : Int64} : wps rm K Q c_Circ_outside_62 kc ks loc (.long y :: .long x :: st) h = wps rm K Q c_Circ_outside_63 kc ks loc (.long (x * y) :: st) h := rfl
theorem s_Circ_outside_63  : wps rm K Q c_Circ_outside_63 kc ks loc (st) h = wps rm K Q c_Circ_outside_66 kc ks loc (.long (2) :: st) h := rfl
theorem s_Circ_outside_66 {x : Int64} {l0 l1 : Option Value} {l : eg_Lo} : wps rm K Q c_Circ_outside_66 kc ks (l0 :: l1 :: some (.long x) :: l) (st) h = wps rm K Q c_Circ_outside_67 kc ks (l0 :: l1 :: some (.long x) :: l) (.long x :: st) h := rfl
theorem s_Circ_outside_67 {x : Nat} {l : eg_Lo} : wps rm K Q c_Circ_outside_67 kc ks (some (.ref x) :: l) (st) h = wps rm K Q c_Circ_outside_68 kc ks (some (.ref x) :: l) (.ref x :: st) h := rfl
theorem s_Circ_outside_68 {x : Nat} : wps rm K Q c_Circ_outside_68 kc ks loc (.ref (x + 1) :: st) h = eg_gf h x 1 2 (fun v => wps rm K Q c_Circ_outside_71 kc ks loc (v :: st) h) := rfl
theorem s_Circ_outside_71 {x y : Int64} : wps rm K Q c_Circ_outside_71 kc ks loc (.long y :: .long x :: st) h = wps rm K Q c_Circ_outside_72 kc ks loc (.long (x * y) :: st) h := rfl
theorem s_Circ_outside_72 {x : Int64} {l0 l1 l2 l3 : Option Value} {l : eg_Lo} : wps rm K Q c_Circ_outside_72 kc ks (l0 :: l1 :: l2 :: l3 :: some (.long x) :: l) (st) h = wps rm K Q c_Circ_outside_74 kc ks (l0 :: l1 :: l2 :: l3 :: some (.long x) :: l) (.long x :: st) h := rfl
theorem s_Circ_outside_74 {x : Nat} {l : eg_Lo} : wps rm K Q c_Circ_outside_74 kc ks (some (.ref x) :: l) (st) h = wps rm K Q c_Circ_outside_75 kc ks (some (.ref x) :: l) (.ref x :: st) h := rfl
theorem s_Circ_outside_75 {x : Nat} : wps rm K Q c_Circ_outside_75 kc ks loc (.ref (x + 1) :: st) h = eg_gf h x 1 3 (fun v => wps rm K Q c_Circ_outside_78 kc ks loc (v :: st) h) := rfl
theorem s_Circ_outside_78 {x y : Int64} : wps rm K Q c_Circ_outside_78 kc ks loc (.long y :: .long x :: st) h = wps rm K Q c_Circ_outside_79 kc ks loc (.long (x * y) :: st) h := rfl
theorem s_Circ_outside_79 {x y : Int64} : wps rm K Q c_Circ_outside_79 kc ks loc (.long y :: .long x :: st) h = wps rm K Q c_Circ_outside_80 kc ks loc (.long (x + y) :: st) h := rfl
theorem s_Circ_outside_80 {x y : Int64} : wps rm K Q c_Circ_outside_80 kc ks loc (.long y :: .long x :: st) h = wps rm K Q c_Circ_outside_81 kc ks loc (.long (x * y) :: st) h := rfl
theorem s_Circ_outside_81 {x y : Int64} : wps rm K Q c_Circ_outside_81 kc ks loc (.long y :: .long x :: st) h = wps rm K Q c_Circ_outside_82 kc ks loc (.long (x - y) :: st) h := rfl
theorem s_Circ_outside_82 {x : Int64} : wps rm K Q c_Circ_outside_82 kc ks loc ([.long x]) h = (kc = rm.cells ∧ Q (some (.long x)) h) := rfl
def T_Circ_outside : List (Nat × List eg_I) := []
end
theorem q_Circ_outside : (T_Circ_outside.all fun q => eg_seq m_Circ_outside q.1 q.2) = true := by decide +kernel
theorem b_Circ_outside {as : List Value} {h : List eg_E} {Q : Option Value → List eg_E → Prop} (hf : (eg_fl as).length ≤ 6) (hw : wps (eg_rm m_Circ_outside) (eg_run (eg_rm m_Circ_outside) (eg_R m_Circ_outside Q (h.length + 0)) Q T_Circ_outside 2) Q c_Circ_outside_0 0 0 (eg_entry 6 as) [] h) : eg_Runs n_Circ_outside as h Q := eg_begin (d := m_Circ_outside) rfl (by decide) (by decide +kernel) q_Circ_outside hf hw
/-! ===== Circ_hasNoneOutside ===== -/
def c_Circ_hasNoneOutside_32 : List eg_I := .inl (32, 1, .ireturn, 0, 1) :: []
def c_Circ_hasNoneOutside_31 : List eg_I := .inl (31, 1, .iconst (1), 0, 0) :: c_Circ_hasNoneOutside_32
def c_Circ_hasNoneOutside_28 : List eg_I := .inl (28, 3, .goto (-26), 2, 0) :: []
def c_Circ_hasNoneOutside_25 : List eg_I := .inl (25, 3, .iinc 1 (1), 0, 0) :: c_Circ_hasNoneOutside_28
def c_Circ_hasNoneOutside_24 : List eg_I := .inl (24, 1, .ireturn, 0, 1) :: []
def c_Circ_hasNoneOutside_23 : List eg_I := .inl (23, 1, .iconst (0), 0, 0) :: c_Circ_hasNoneOutside_24
def c_Circ_hasNoneOutside_20 : List eg_I := .inl (20, 3, .ifCond .le (5), 25, 0) :: c_Circ_hasNoneOutside_23
def c_Circ_hasNoneOutside_19 : List eg_I := .inl (19, 1, .lcmp, 0, 0) :: c_Circ_hasNoneOutside_20
def c_Circ_hasNoneOutside_18 : List eg_I := .inl (18, 1, .sipush (0), 0, 0) :: c_Circ_hasNoneOutside_19
def c_Circ_hasNoneOutside_15 : List eg_I := .inr (15, 1, 72, n_Circ_outside, 1, 1, 0, 0) :: c_Circ_hasNoneOutside_18
def c_Circ_hasNoneOutside_14 : List eg_I := .inl (14, 1, .iload 1, 0, 0) :: c_Circ_hasNoneOutside_15
def c_Circ_hasNoneOutside_13 : List eg_I := .inl (13, 1, .aload 0, 0, 0) :: c_Circ_hasNoneOutside_14
def c_Circ_hasNoneOutside_10 : List eg_I := .inl (10, 3, .if_icmp .ge (21), 31, 0) :: c_Circ_hasNoneOutside_13
def c_Circ_hasNoneOutside_7 : List eg_I := .inl (7, 3, .getfield 22, 10, 4) :: c_Circ_hasNoneOutside_10
def c_Circ_hasNoneOutside_4 : List eg_I := .inl (4, 3, .getfield 12, 1, 0) :: c_Circ_hasNoneOutside_7
def c_Circ_hasNoneOutside_3 : List eg_I := .inl (3, 1, .aload 0, 0, 0) :: c_Circ_hasNoneOutside_4
def c_Circ_hasNoneOutside_2 : List eg_I := .inl (2, 1, .iload 1, 0, 0) :: c_Circ_hasNoneOutside_3
def c_Circ_hasNoneOutside_1 : List eg_I := .inl (1, 1, .istore 1, 0, 0) :: [.inl (2, 0, .nop, 0, 0)]
def c_Circ_hasNoneOutside_0 : List eg_I := .inl (0, 1, .iconst (0), 0, 0) :: c_Circ_hasNoneOutside_1
section
variable {rm : Room} {K : Nat → Nat → Nat → eg_Lo → List Value → List eg_E → Prop} {Q : Option Value → List eg_E → Prop} {kc ks : Nat} {loc : eg_Lo} {st : List Value} {h : List eg_E}
theorem s_Circ_hasNoneOutside_0  : wps rm K Q c_Circ_hasNoneOutside_0 kc ks loc (st) h = wps rm K Q c_Circ_hasNoneOutside_1 kc ks loc (.int (0) :: st) h := rfl
theorem s_Circ_hasNoneOutside_1 {x : Int32} : wps rm K Q c_Circ_hasNoneOutside_1 kc ks loc (.int x :: st) h = K 2 kc ks (eg_set1 loc 1 (.int x)) (st) h := rfl
theorem s_Circ_hasNoneOutside_2 {x : Int32} {l0 : Option Value} {l : eg_Lo} : wps rm K Q c_Circ_hasNoneOutside_2 kc ks (l0 :: some (.int x) :: l) (st) h = wps rm K Q c_Circ_hasNoneOutside_3 kc ks (l0 :: some (.int x) :: l) (.int x :: st) h := rfl
theorem s_Circ_hasNoneOutside_3 {x : Nat} {l : eg_Lo} : wps rm K Q c_Circ_hasNoneOutside_3 kc ks (some (.ref x) :: l) (st) h = wps rm K Q c_Circ_hasNoneOutside_4 kc ks (some (.ref x) :: l) (.ref x :: st) h := rfl
theorem s_Circ_hasNoneOutside_4 {x : Nat} : wps rm K Q c_Circ_hasNoneOutside_4 kc ks loc (.ref (x + 1) :: st) h = eg_gf h x 1 0 (fun v => wps rm K Q c_Circ_hasNoneOutside_7 kc ks loc (v :: st) h) := rfl
theorem s_Circ_hasNoneOutside_7 {x : Nat} : wps rm K Q c_Circ_hasNoneOutside_7 kc ks loc (.ref (x + 1) :: st) h = eg_gf h x 10 4 (fun v => wps rm K Q c_Circ_hasNoneOutside_10 kc ks loc (v :: st) h) := rfl
theorem s_Circ_hasNoneOutside_10 {x y : Int32} : wps rm K Q c_Circ_hasNoneOutside_10 kc ks loc (.int y :: .int x :: st) h = ((y ≤ x → K 31 kc ks loc st h) ∧ (¬ y ≤ x → wps rm K Q c_Circ_hasNoneOutside_13 kc ks loc (st) h)) := rfl
theorem s_Circ_hasNoneOutside_13 {x : Nat} {l : eg_Lo} : wps rm K Q c_Circ_hasNoneOutside_13 kc ks (some (.ref x) :: l) (st) h = wps rm K Q c_Circ_hasNoneOutside_14 kc ks (some (.ref x) :: l) (.ref x :: st) h := rfl
theorem s_Circ_hasNoneOutside_14 {x : Int32} {l0 : Option Value} {l : eg_Lo} : wps rm K Q c_Circ_hasNoneOutside_14 kc ks (l0 :: some (.int x) :: l) (st) h = wps rm K Q c_Circ_hasNoneOutside_15 kc ks (l0 :: some (.int x) :: l) (.int x :: st) h := rfl
theorem s_Circ_hasNoneOutside_15  {a1 : Value} {x : Nat} : wps rm K Q c_Circ_hasNoneOutside_15 kc ks loc (a1 :: .ref (x + 1) :: st) h = (eg_cls h x 1 ∧ st.length ≤ 4 ∧ eg_Cs n_Circ_outside (.ref (x + 1) :: [a1]) h (fun v h9 => wps rm K Q c_Circ_hasNoneOutside_18 kc ks loc (v.toList ++ st) h9)) := eg_c1_1
theorem s_Circ_hasNoneOutside_18  : wps rm K Q c_Circ_hasNoneOutside_18 kc ks loc (st) h = wps rm K Q c_Circ_hasNoneOutside_19 kc ks loc (.long (0) :: st) h := rfl
theorem s_Circ_hasNoneOutside_19 {x y : Int64} : wps rm K Q c_Circ_hasNoneOutside_19 kc ks loc (.long y :: .long x :: st) h = wps rm K Q c_Circ_hasNoneOutside_20 kc ks loc (.int (lg_cmp x y) :: st) h := rfl
theorem s_Circ_hasNoneOutside_20 {x : Int32} : wps rm K Q c_Circ_hasNoneOutside_20 kc ks loc (.int x :: st) h = ((x ≤ 0 → K 25 kc ks loc st h) ∧ (¬ x ≤ 0 → wps rm K Q c_Circ_hasNoneOutside_23 kc ks loc (st) h)) := rfl
theorem s_Circ_hasNoneOutside_23  : wps rm K Q c_Circ_hasNoneOutside_23 kc ks loc (st) h = wps rm K Q c_Circ_hasNoneOutside_24 kc ks loc (.int (0) :: st) h := rfl
theorem s_Circ_hasNoneOutside_24 {x : Int32} : wps rm K Q c_Circ_hasNoneOutside_24 kc ks loc ([.int x]) h = (kc = rm.cells ∧ ((1 : Nat) = 1 → x = 0 ∨ x = 1) ∧ Q (some (.int x)) h) := rfl
theorem s_Circ_hasNoneOutside_25 {x : Int32} {l0 : Option Value} {l9 : eg_Lo} : wps rm K Q c_Circ_hasNoneOutside_25 kc ks (l0 :: some (.int x) :: l9) (st) h = wps rm K Q c_Circ_hasNoneOutside_28 kc ks (eg_set1 (l0 :: some (.int x) :: l9) 1 (.int (x + (1)))) (st) h := rfl
theorem s_Circ_hasNoneOutside_28  : wps rm K Q c_Circ_hasNoneOutside_28 kc ks loc (st) h = K 2 kc ks loc st h := rfl
theorem s_Circ_hasNoneOutside_31  : wps rm K Q c_Circ_hasNoneOutside_31 kc ks loc (st) h = wps rm K Q c_Circ_hasNoneOutside_32 kc ks loc (.int (1) :: st) h := rfl
theorem s_Circ_hasNoneOutside_32 {x : Int32} : wps rm K Q c_Circ_hasNoneOutside_32 kc ks loc ([.int x]) h = (kc = rm.cells ∧ ((1 : Nat) = 1 → x = 0 ∨ x = 1) ∧ Q (some (.int x)) h) := rfl
def T_Circ_hasNoneOutside : List (Nat × List eg_I) := [(25, c_Circ_hasNoneOutside_25), (31, c_Circ_hasNoneOutside_31)]
theorem j_Circ_hasNoneOutside_25 {R : Nat → Nat → Nat → eg_Lo → List Value → List eg_E → Prop} {f pc0 : Nat} : eg_run rm R Q T_Circ_hasNoneOutside (f + 1) 25 kc ks loc st h = wps rm (eg_run rm R Q T_Circ_hasNoneOutside f) Q c_Circ_hasNoneOutside_25 kc ks loc st h := rfl
theorem j_Circ_hasNoneOutside_31 {R : Nat → Nat → Nat → eg_Lo → List Value → List eg_E → Prop} {f pc0 : Nat} : eg_run rm R Q T_Circ_hasNoneOutside (f + 1) 31 kc ks loc st h = wps rm (eg_run rm R Q T_Circ_hasNoneOutside f) Q c_Circ_hasNoneOutside_31 kc ks loc st h := rfl
theorem j_Circ_hasNoneOutside_2 {R : Nat → Nat → Nat → eg_Lo → List Value → List eg_E → Prop} {f pc0 : Nat} : eg_run rm R Q T_Circ_hasNoneOutside (f + 1) 2 kc ks loc st h = R 2 kc ks loc st h := rfl
end
theorem q_Circ_hasNoneOutside : (T_Circ_hasNoneOutside.all fun q => eg_seq m_Circ_hasNoneOutside q.1 q.2) = true := by decide +kernel
theorem b_Circ_hasNoneOutside {as : List Value} {h : List eg_E} {Q : Option Value → List eg_E → Prop} (hf : (eg_fl as).length ≤ 2) (hw : wps (eg_rm m_Circ_hasNoneOutside) (eg_run (eg_rm m_Circ_hasNoneOutside) (eg_R m_Circ_hasNoneOutside Q (h.length + 0)) Q T_Circ_hasNoneOutside 4) Q c_Circ_hasNoneOutside_0 0 0 (eg_entry 2 as) [] h) : eg_Runs n_Circ_hasNoneOutside as h Q := eg_begin (d := m_Circ_hasNoneOutside) rfl (by decide) (by decide +kernel) q_Circ_hasNoneOutside hf hw
theorem p_Circ_hasNoneOutside_2 {Q : Option Value → List eg_E → Prop} {n0 kc ks : Nat} {loc : eg_Lo} {st : List Value} {h : List eg_E} (hw : wps (eg_rm m_Circ_hasNoneOutside) (eg_run (eg_rm m_Circ_hasNoneOutside) (eg_R m_Circ_hasNoneOutside Q n0) Q T_Circ_hasNoneOutside 4) Q c_Circ_hasNoneOutside_2 kc ks loc st h) : eg_R m_Circ_hasNoneOutside Q n0 2 kc ks loc st h := eg_go (by decide +kernel) q_Circ_hasNoneOutside hw
/-! ===== Circ_finish ===== -/
def c_Circ_finish_113 : List eg_I := .inl (113, 1, .return_, 0, 0) :: []
def c_Circ_finish_110 : List eg_I := .inr (110, 1, 113, n_Frac_become, 2, 4, 0, 0) :: c_Circ_finish_113
def c_Circ_finish_107 : List eg_I := .inl (107, 3, .getfield 98, 1, 4) :: c_Circ_finish_110
def c_Circ_finish_106 : List eg_I := .inl (106, 1, .aload 0, 0, 0) :: c_Circ_finish_107
def c_Circ_finish_105 : List eg_I := .inl (105, 1, .ladd, 0, 0) :: c_Circ_finish_106
def c_Circ_finish_102 : List eg_I := .inl (102, 3, .getfield 95, 1, 3) :: c_Circ_finish_105
def c_Circ_finish_101 : List eg_I := .inl (101, 1, .aload 0, 0, 0) :: c_Circ_finish_102
def c_Circ_finish_100 : List eg_I := .inl (100, 1, .lmul, 0, 0) :: c_Circ_finish_101
def c_Circ_finish_97 : List eg_I := .inl (97, 3, .getfield 98, 1, 4) :: c_Circ_finish_100
def c_Circ_finish_96 : List eg_I := .inl (96, 1, .aload 0, 0, 0) :: c_Circ_finish_97
def c_Circ_finish_95 : List eg_I := .inl (95, 1, .i2l, 0, 0) :: c_Circ_finish_96
def c_Circ_finish_94 : List eg_I := .inl (94, 1, .iaload, 0, 0) :: c_Circ_finish_95
def c_Circ_finish_91 : List eg_I := .inl (91, 3, .getfield 88, 1, 1) :: c_Circ_finish_94
def c_Circ_finish_90 : List eg_I := .inl (90, 1, .aload 0, 0, 0) :: c_Circ_finish_91
def c_Circ_finish_87 : List eg_I := .inl (87, 3, .getfield 60, 10, 1) :: c_Circ_finish_90
def c_Circ_finish_84 : List eg_I := .inl (84, 3, .getfield 12, 1, 0) :: c_Circ_finish_87
def c_Circ_finish_83 : List eg_I := .inl (83, 1, .aload 0, 0, 0) :: c_Circ_finish_84
def c_Circ_finish_80 : List eg_I := .inl (80, 3, .getfield 121, 2, 4) :: c_Circ_finish_83
def c_Circ_finish_79 : List eg_I := .inl (79, 1, .aload 1, 0, 0) :: c_Circ_finish_80
def c_Circ_finish_76 : List eg_I := .inr (76, 1, 113, n_Frac_become, 2, 4, 0, 0) :: c_Circ_finish_79
def c_Circ_finish_73 : List eg_I := .inl (73, 3, .getfield 98, 1, 4) :: c_Circ_finish_76
def c_Circ_finish_72 : List eg_I := .inl (72, 1, .aload 0, 0, 0) :: c_Circ_finish_73
def c_Circ_finish_71 : List eg_I := .inl (71, 1, .ladd, 0, 0) :: c_Circ_finish_72
def c_Circ_finish_68 : List eg_I := .inl (68, 3, .getfield 91, 1, 2) :: c_Circ_finish_71
def c_Circ_finish_67 : List eg_I := .inl (67, 1, .aload 0, 0, 0) :: c_Circ_finish_68
def c_Circ_finish_66 : List eg_I := .inl (66, 1, .lmul, 0, 0) :: c_Circ_finish_67
def c_Circ_finish_63 : List eg_I := .inl (63, 3, .getfield 98, 1, 4) :: c_Circ_finish_66
def c_Circ_finish_62 : List eg_I := .inl (62, 1, .aload 0, 0, 0) :: c_Circ_finish_63
def c_Circ_finish_61 : List eg_I := .inl (61, 1, .i2l, 0, 0) :: c_Circ_finish_62
def c_Circ_finish_60 : List eg_I := .inl (60, 1, .iaload, 0, 0) :: c_Circ_finish_61
def c_Circ_finish_57 : List eg_I := .inl (57, 3, .getfield 88, 1, 1) :: c_Circ_finish_60
def c_Circ_finish_56 : List eg_I := .inl (56, 1, .aload 0, 0, 0) :: c_Circ_finish_57
def c_Circ_finish_53 : List eg_I := .inl (53, 3, .getfield 57, 10, 0) :: c_Circ_finish_56
def c_Circ_finish_50 : List eg_I := .inl (50, 3, .getfield 12, 1, 0) :: c_Circ_finish_53
def c_Circ_finish_49 : List eg_I := .inl (49, 1, .aload 0, 0, 0) :: c_Circ_finish_50
def c_Circ_finish_46 : List eg_I := .inl (46, 3, .getfield 119, 2, 3) :: c_Circ_finish_49
def c_Circ_finish_45 : List eg_I := .inl (45, 1, .aload 1, 0, 0) :: c_Circ_finish_46
def c_Circ_finish_42 : List eg_I := .inr (42, 1, 113, n_Frac_become, 2, 4, 0, 0) :: c_Circ_finish_45
def c_Circ_finish_41 : List eg_I := .inl (41, 1, .lmul, 0, 0) :: c_Circ_finish_42
def c_Circ_finish_38 : List eg_I := .inl (38, 3, .getfield 98, 1, 4) :: c_Circ_finish_41
def c_Circ_finish_37 : List eg_I := .inl (37, 1, .aload 0, 0, 0) :: c_Circ_finish_38
def c_Circ_finish_34 : List eg_I := .inl (34, 3, .getfield 98, 1, 4) :: c_Circ_finish_37
def c_Circ_finish_33 : List eg_I := .inl (33, 1, .aload 0, 0, 0) :: c_Circ_finish_34
def c_Circ_finish_32 : List eg_I := .inl (32, 1, .ladd, 0, 0) :: c_Circ_finish_33
def c_Circ_finish_31 : List eg_I := .inl (31, 1, .lmul, 0, 0) :: c_Circ_finish_32
def c_Circ_finish_28 : List eg_I := .inl (28, 3, .getfield 95, 1, 3) :: c_Circ_finish_31
def c_Circ_finish_27 : List eg_I := .inl (27, 1, .aload 0, 0, 0) :: c_Circ_finish_28
def c_Circ_finish_24 : List eg_I := .inl (24, 3, .getfield 95, 1, 3) :: c_Circ_finish_27
def c_Circ_finish_23 : List eg_I := .inl (23, 1, .aload 0, 0, 0) :: c_Circ_finish_24
def c_Circ_finish_22 : List eg_I := .inl (22, 1, .lmul, 0, 0) :: c_Circ_finish_23
def c_Circ_finish_19 : List eg_I := .inl (19, 3, .getfield 91, 1, 2) :: c_Circ_finish_22
def c_Circ_finish_18 : List eg_I := .inl (18, 1, .aload 0, 0, 0) :: c_Circ_finish_19
def c_Circ_finish_15 : List eg_I := .inl (15, 3, .getfield 91, 1, 2) :: c_Circ_finish_18
def c_Circ_finish_14 : List eg_I := .inl (14, 1, .aload 0, 0, 0) :: c_Circ_finish_15
def c_Circ_finish_11 : List eg_I := .inl (11, 3, .getfield 109, 2, 2) :: c_Circ_finish_14
def c_Circ_finish_10 : List eg_I := .inl (10, 1, .aload 1, 0, 0) :: c_Circ_finish_11
def c_Circ_finish_7 : List eg_I := .inl (7, 3, .putfield 106, 2, 6) :: c_Circ_finish_10
def c_Circ_finish_6 : List eg_I := .inl (6, 1, .iload 2, 0, 0) :: c_Circ_finish_7
def c_Circ_finish_5 : List eg_I := .inl (5, 1, .aload 1, 0, 0) :: c_Circ_finish_6
def c_Circ_finish_2 : List eg_I := .inl (2, 3, .putfield 103, 2, 5) :: c_Circ_finish_5
def c_Circ_finish_1 : List eg_I := .inl (1, 1, .iconst (5), 0, 0) :: c_Circ_finish_2
def c_Circ_finish_0 : List eg_I := .inl (0, 1, .aload 1, 0, 0) :: c_Circ_finish_1
section
variable {rm : Room} {K : Nat → Nat → Nat → eg_Lo → List Value → List eg_E → Prop} {Q : Option Value → List eg_E → Prop} {kc ks : Nat} {loc : eg_Lo} {st : List Value} {h : List eg_E}
theorem s_Circ_finish_0 {x : Nat} {l0 : Option Value} {l : eg_Lo} : wps rm K Q c_Circ_finish_0 kc ks (l0 :: some (.ref x) :: l) (st) h = wps rm K Q c_Circ_finish_1 kc ks (l0 :: some (.ref x) :: l) (.ref x :: st) h := rfl
theorem s_Circ_finish_1  : wps rm K Q c_Circ_finish_1 kc ks loc (st) h = wps rm K Q c_Circ_finish_2 kc ks loc (.int (5) :: st) h := rfl
theorem s_Circ_finish_2 {x : Nat} {v : Value} : wps rm K Q c_Circ_finish_2 kc ks loc (v :: .ref (x + 1) :: st) h = eg_pf h x 2 5 v (fun h9 => wps rm K Q c_Circ_finish_5 kc ks loc (st) h9) := rfl
theorem s_Circ_finish_5 {x : Nat} {l0 : Option Value} {l : eg_Lo} : wps rm K Q c_Circ_finish_5 kc ks (l0 :: some (.ref x) :: l) (st) h = wps rm K Q c_Circ_finish_6 kc ks (l0 :: some (.ref x) :: l) (.ref x :: st) h := rfl
theorem s_Circ_finish_6 {x : Int32} {l0 l1 : Option Value} {l : eg_Lo} : wps rm K Q c_Circ_finish_6 kc ks (l0 :: l1 :: some (.int x) :: l) (st) h = wps rm K Q c_Circ_finish_7 kc ks (l0 :: l1 :: some (.int x) :: l) (.int x :: st) h := rfl
theorem s_Circ_finish_7 {x : Nat} {v : Value} : wps rm K Q c_Circ_finish_7 kc ks loc (v :: .ref (x + 1) :: st) h = eg_pf h x 2 6 v (fun h9 => wps rm K Q c_Circ_finish_10 kc ks loc (st) h9) := rfl
theorem s_Circ_finish_10 {x : Nat} {l0 : Option Value} {l : eg_Lo} : wps rm K Q c_Circ_finish_10 kc ks (l0 :: some (.ref x) :: l) (st) h = wps rm K Q c_Circ_finish_11 kc ks (l0 :: some (.ref x) :: l) (.ref x :: st) h := rfl
theorem s_Circ_finish_11 {x : Nat} : wps rm K Q c_Circ_finish_11 kc ks loc (.ref (x + 1) :: st) h = eg_gf h x 2 2 (fun v => wps rm K Q c_Circ_finish_14 kc ks loc (v :: st) h) := rfl
theorem s_Circ_finish_14 {x : Nat} {l : eg_Lo} : wps rm K Q c_Circ_finish_14 kc ks (some (.ref x) :: l) (st) h = wps rm K Q c_Circ_finish_15 kc ks (some (.ref x) :: l) (.ref x :: st) h := rfl
theorem s_Circ_finish_15 {x : Nat} : wps rm K Q c_Circ_finish_15 kc ks loc (.ref (x + 1) :: st) h = eg_gf h x 1 2 (fun v => wps rm K Q c_Circ_finish_18 kc ks loc (v :: st) h) := rfl
theorem s_Circ_finish_18 {x : Nat} {l : eg_Lo} : wps rm K Q c_Circ_finish_18 kc ks (some (.ref x) :: l) (st) h = wps rm K Q c_Circ_finish_19 kc ks (some (.ref x) :: l) (.ref x :: st) h := rfl
theorem s_Circ_finish_19 {x : Nat} : wps rm K Q c_Circ_finish_19 kc ks loc (.ref (x + 1) :: st) h = eg_gf h x 1 2 (fun v => wps rm K Q c_Circ_finish_22 kc ks loc (v :: st) h) := rfl
theorem s_Circ_finish_22 {x y : Int64} : wps rm K Q c_Circ_finish_22 kc ks loc (.long y :: .long x :: st) h = wps rm K Q c_Circ_finish_23 kc ks loc (.long (x * y) :: st) h := rfl
theorem s_Circ_finish_23 {x : Nat} {l : eg_Lo} : wps rm K Q c_Circ_finish_23 kc ks (some (.ref x) :: l) (st) h = wps rm K Q c_Circ_finish_24 kc ks (some (.ref x) :: l) (.ref x :: st) h := rfl
theorem s_Circ_finish_24 {x : Nat} : wps rm K Q c_Circ_finish_24 kc ks loc (.ref (x + 1) :: st) h = eg_gf h x 1 3 (fun v => wps rm K Q c_Circ_finish_27 kc ks loc (v :: st) h) := rfl
theorem s_Circ_finish_27 {x : Nat} {l : eg_Lo} : wps rm K Q c_Circ_finish_27 kc ks (some (.ref x) :: l) (st) h = wps rm K Q c_Circ_finish_28 kc ks (some (.ref x) :: l) (.ref x :: st) h := rfl
theorem s_Circ_finish_28 {x : Nat} : wps rm K Q c_Circ_finish_28 kc ks loc (.ref (x + 1) :: st) h = eg_gf h x 1 3 (fun v => wps rm K Q c_Circ_finish_31 kc ks loc (v :: st) h) := rfl
theorem s_Circ_finish_31 {x y : Int64} : wps rm K Q c_Circ_finish_31 kc ks loc (.long y :: .long x :: st) h = wps rm K Q c_Circ_finish_32 kc ks loc (.long (x * y) :: st) h := rfl
theorem s_Circ_finish_32 {x y : Int64} : wps rm K Q c_Circ_finish_32 kc ks loc (.long y :: .long x :: st) h = wps rm K Q c_Circ_finish_33 kc ks loc (.long (x + y) :: st) h := rfl
theorem s_Circ_finish_33 {x : Nat} {l : eg_Lo} : wps rm K Q c_Circ_finish_33 kc ks (some (.ref x) :: l) (st) h = wps rm K Q c_Circ_finish_34 kc ks (some (.ref x) :: l) (.ref x :: st) h := rfl
theorem s_Circ_finish_34 {x : Nat} : wps rm K Q c_Circ_finish_34 kc ks loc (.ref (x + 1) :: st) h = eg_gf h x 1 4 (fun v => wps rm K Q c_Circ_finish_37 kc ks loc (v :: st) h) := rfl
theorem s_Circ_finish_37 {x : Nat} {l : eg_Lo} : wps rm K Q c_Circ_finish_37 kc ks (some (.ref x) :: l) (st) h = wps rm K Q c_Circ_finish_38 kc ks (some (.ref x) :: l) (.ref x :: st) h := rfl
theorem s_Circ_finish_38 {x : Nat} : wps rm K Q c_Circ_finish_38 kc ks loc (.ref (x + 1) :: st) h = eg_gf h x 1 4 (fun v => wps rm K Q c_Circ_finish_41 kc ks loc (v :: st) h) := rfl
theorem s_Circ_finish_41 {x y : Int64} : wps rm K Q c_Circ_finish_41 kc ks loc (.long y :: .long x :: st) h = wps rm K Q c_Circ_finish_42 kc ks loc (.long (x * y) :: st) h := rfl
theorem s_Circ_finish_42  {a1 : Value} {a2 : Value} {x : Nat} : wps rm K Q c_Circ_finish_42 kc ks loc (a2 :: a1 :: .ref (x + 1) :: st) h = (eg_cls h x 4 ∧ st.length ≤ 4 ∧ eg_Cs n_Frac_become (.ref (x + 1) :: [a1, a2]) h (fun v h9 => wps rm K Q c_Circ_finish_45 kc ks loc (v.toList ++ st) h9)) := eg_c1_2
theorem s_Circ_finish_45 {x : Nat} {l0 : Option Value} {l : eg_Lo} : wps rm K Q c_Circ_finish_45 kc ks (l0 :: some (.ref x) :: l) (st) h = wps rm K Q c_Circ_finish_46 kc ks (l0 :: some (.ref x) :: l) (.ref x :: st) h := rfl
theorem s_Circ_finish_46 {x : Nat} : wps rm K Q c_Circ_finish_46 kc ks loc (.ref (x + 1) :: st) h = eg_gf h x 2 3 (fun v => wps rm K Q c_Circ_finish_49 kc ks loc (v :: st) h) := rfl
theorem s_Circ_finish_49 {x : Nat} {l : eg_Lo} : wps rm K Q c_Circ_finish_49 kc ks (some (.ref x) :: l) (st) h = wps rm K Q c_Circ_finish_50 kc ks (some (.ref x) :: l) (.ref x :: st) h := rfl
theorem s_Circ_finish_50 {x : Nat} : wps rm K Q c_Circ_finish_50 kc ks loc (.ref (x + 1) :: st) h = eg_gf h x 1 0 (fun v => wps rm K Q c_Circ_finish_53 kc ks loc (v :: st) h) := rfl
theorem s_Circ_finish_53 {x : Nat} : wps rm K Q c_Circ_finish_53 kc ks loc (.ref (x + 1) :: st) h = eg_gf h x 10 0 (fun v => wps rm K Q c_Circ_finish_56 kc ks loc (v :: st) h) := rfl
theorem s_Circ_finish_56 {x : Nat} {l : eg_Lo} : wps rm K Q c_Circ_finish_56 kc ks (some (.ref x) :: l) (st) h = wps rm K Q c_Circ_finish_57 kc ks (some (.ref x) :: l) (.ref x :: st) h := rfl
theorem s_Circ_finish_57 {x : Nat} : wps rm K Q c_Circ_finish_57 kc ks loc (.ref (x + 1) :: st) h = eg_gf h x 1 1 (fun v => wps rm K Q c_Circ_finish_60 kc ks loc (v :: st) h) := rfl
theorem s_Circ_finish_60 {x : Nat} {i : Int32} : wps rm K Q c_Circ_finish_60 kc ks loc (.int i :: .ref (x + 1) :: st) h = eg_ia h x i (fun v => wps rm K Q c_Circ_finish_61 kc ks loc (.int v :: st) h) := rfl
theorem s_Circ_finish_61 {x : Int32} : wps rm K Q c_Circ_finish_61 kc ks loc (.int x :: st) h = wps rm K Q c_Circ_finish_62 kc ks loc (.long (x.toInt64) :: st) h := rfl
theorem s_Circ_finish_62 {x : Nat} {l : eg_Lo} : wps rm K Q c_Circ_finish_62 kc ks (some (.ref x) :: l) (st) h = wps rm K Q c_Circ_finish_63 kc ks (some (.ref x) :: l) (.ref x :: st) h := rfl
theorem s_Circ_finish_63 {x : Nat} : wps rm K Q c_Circ_finish_63 kc ks loc (.ref (x + 1) :: st) h = eg_gf h x 1 4 (fun v => wps rm K Q c_Circ_finish_66 kc ks loc (v :: st) h) := rfl
theorem s_Circ_finish_66 {x y : Int64} : wps rm K Q c_Circ_finish_66 kc ks loc (.long y :: .long x :: st) h = wps rm K Q c_Circ_finish_67 kc ks loc (.long (x * y) :: st) h := rfl
theorem s_Circ_finish_67 {x : Nat} {l : eg_Lo} : wps rm K Q c_Circ_finish_67 kc ks (some (.ref x) :: l) (st) h = wps rm K Q c_Circ_finish_68 kc ks (some (.ref x) :: l) (.ref x :: st) h := rfl
theorem s_Circ_finish_68 {x : Nat} : wps rm K Q c_Circ_finish_68 kc ks loc (.ref (x + 1) :: st) h = eg_gf h x 1 2 (fun v => wps rm K Q c_Circ_finish_71 kc ks loc (v :: st) h) := rfl
theorem s_Circ_finish_71 {x y : Int64} : wps rm K Q c_Circ_finish_71 kc ks loc (.long y :: .long x :: st) h = wps rm K Q c_Circ_finish_72 kc ks loc (.long (x + y) :: st) h := rfl
theorem s_Circ_finish_72 {x : Nat} {l : eg_Lo} : wps rm K Q c_Circ_finish_72 kc ks (some (.ref x) :: l) (st) h = wps rm K Q c_Circ_finish_73 kc ks (some (.ref x) :: l) (.ref x :: st) h := rfl
theorem s_Circ_finish_73 {x : Nat} : wps rm K Q c_Circ_finish_73 kc ks loc (.ref (x + 1) :: st) h = eg_gf h x 1 4 (fun v => wps rm K Q c_Circ_finish_76 kc ks loc (v :: st) h) := rfl
theorem s_Circ_finish_76  {a1 : Value} {a2 : Value} {x : Nat} : wps rm K Q c_Circ_finish_76 kc ks loc (a2 :: a1 :: .ref (x + 1) :: st) h = (eg_cls h x 4 ∧ st.length ≤ 4 ∧ eg_Cs n_Frac_become (.ref (x + 1) :: [a1, a2]) h (fun v h9 => wps rm K Q c_Circ_finish_79 kc ks loc (v.toList ++ st) h9)) := eg_c1_2
theorem s_Circ_finish_79 {x : Nat} {l0 : Option Value} {l : eg_Lo} : wps rm K Q c_Circ_finish_79 kc ks (l0 :: some (.ref x) :: l) (st) h = wps rm K Q c_Circ_finish_80 kc ks (l0 :: some (.ref x) :: l) (.ref x :: st) h := rfl
theorem s_Circ_finish_80 {x : Nat} : wps rm K Q c_Circ_finish_80 kc ks loc (.ref (x + 1) :: st) h = eg_gf h x 2 4 (fun v => wps rm K Q c_Circ_finish_83 kc ks loc (v :: st) h) := rfl
theorem s_Circ_finish_83 {x : Nat} {l : eg_Lo} : wps rm K Q c_Circ_finish_83 kc ks (some (.ref x) :: l) (st) h = wps rm K Q c_Circ_finish_84 kc ks (some (.ref x) :: l) (.ref x :: st) h := rfl
theorem s_Circ_finish_84 {x : Nat} : wps rm K Q c_Circ_finish_84 kc ks loc (.ref (x + 1) :: st) h = eg_gf h x 1 0 (fun v => wps rm K Q c_Circ_finish_87 kc ks loc (v :: st) h) := rfl
theorem s_Circ_finish_87 {x : Nat} : wps rm K Q c_Circ_finish_87 kc ks loc (.ref (x + 1) :: st) h = eg_gf h x 10 1 (fun v => wps rm K Q c_Circ_finish_90 kc ks loc (v :: st) h) := rfl
theorem s_Circ_finish_90 {x : Nat} {l : eg_Lo} : wps rm K Q c_Circ_finish_90 kc ks (some (.ref x) :: l) (st) h = wps rm K Q c_Circ_finish_91 kc ks (some (.ref x) :: l) (.ref x :: st) h := rfl
theorem s_Circ_finish_91 {x : Nat} : wps rm K Q c_Circ_finish_91 kc ks loc (.ref (x + 1) :: st) h = eg_gf h x 1 1 (fun v => wps rm K Q c_Circ_finish_94 kc ks loc (v :: st) h) := rfl
theorem s_Circ_finish_94 {x : Nat} {i : Int32} : wps rm K Q c_Circ_finish_94 kc ks loc (.int i :: .ref (x + 1) :: st) h = eg_ia h x i (fun v => wps rm K Q c_Circ_finish_95 kc ks loc (.int v :: st) h) := rfl
theorem s_Circ_finish_95 {x : Int32} : wps rm K Q c_Circ_finish_95 kc ks loc (.int x :: st) h = wps rm K Q c_Circ_finish_96 kc ks loc (.long (x.toInt64) :: st) h := rfl
theorem s_Circ_finish_96 {x : Nat} {l : eg_Lo} : wps rm K Q c_Circ_finish_96 kc ks (some (.ref x) :: l) (st) h = wps rm K Q c_Circ_finish_97 kc ks (some (.ref x) :: l) (.ref x :: st) h := rfl
theorem s_Circ_finish_97 {x : Nat} : wps rm K Q c_Circ_finish_97 kc ks loc (.ref (x + 1) :: st) h = eg_gf h x 1 4 (fun v => wps rm K Q c_Circ_finish_100 kc ks loc (v :: st) h) := rfl
theorem s_Circ_finish_100 {x y : Int64} : wps rm K Q c_Circ_finish_100 kc ks loc (.long y :: .long x :: st) h = wps rm K Q c_Circ_finish_101 kc ks loc (.long (x * y) :: st) h := rfl
theorem s_Circ_finish_101 {x : Nat} {l : eg_Lo} : wps rm K Q c_Circ_finish_101 kc ks (some (.ref x) :: l) (st) h = wps rm K Q c_Circ_finish_102 kc ks (some (.ref x) :: l) (.ref x :: st) h := rfl
theorem s_Circ_finish_102 {x : Nat} : wps rm K Q c_Circ_finish_102 kc ks loc (.ref (x + 1) :: st) h = eg_gf h x 1 3 (fun v => wps rm K Q c_Circ_finish_105 kc ks loc (v :: st) h) := rfl
theorem s_Circ_finish_105 {x y : Int64} : wps rm K Q c_Circ_finish_105 kc ks loc (.long y :: .long x :: st) h = wps rm K Q c_Circ_finish_106 kc ks loc (.long (x + y) :: st) h := rfl
theorem s_Circ_finish_106 {x : Nat} {l : eg_Lo} : wps rm K Q c_Circ_finish_106 kc ks (some (.ref x) :: l) (st) h = wps rm K Q c_Circ_finish_107 kc ks (some (.ref x) :: l) (.ref x :: st) h := rfl
theorem s_Circ_finish_107 {x : Nat} : wps rm K Q c_Circ_finish_107 kc ks loc (.ref (x + 1) :: st) h = eg_gf h x 1 4 (fun v => wps rm K Q c_Circ_finish_110 kc ks loc (v :: st) h) := rfl
theorem s_Circ_finish_110  {a1 : Value} {a2 : Value} {x : Nat} : wps rm K Q c_Circ_finish_110 kc ks loc (a2 :: a1 :: .ref (x + 1) :: st) h = (eg_cls h x 4 ∧ st.length ≤ 4 ∧ eg_Cs n_Frac_become (.ref (x + 1) :: [a1, a2]) h (fun v h9 => wps rm K Q c_Circ_finish_113 kc ks loc (v.toList ++ st) h9)) := eg_c1_2
theorem s_Circ_finish_113  : wps rm K Q c_Circ_finish_113 kc ks loc ([]) h = (kc = rm.cells ∧ Q none h) := rfl
def T_Circ_finish : List (Nat × List eg_I) := []
end
theorem q_Circ_finish : (T_Circ_finish.all fun q => eg_seq m_Circ_finish q.1 q.2) = true := by decide +kernel
theorem b_Circ_finish {as : List Value} {h : List eg_E} {Q : Option Value → List eg_E → Prop} (hf : (eg_fl as).length ≤ 3) (hw : wps (eg_rm m_Circ_finish) (eg_run (eg_rm m_Circ_finish) (eg_R m_Circ_finish Q (h.length + 0)) Q T_Circ_finish 2) Q c_Circ_finish_0 0 0 (eg_entry 3 as) [] h) : eg_Runs n_Circ_finish as h Q := eg_begin (d := m_Circ_finish) rfl (by decide) (by decide +kernel) q_Circ_finish hf hw
/-! ===== Fig_init ===== -/
def c_Fig_init_57 : List eg_I := .inl (57, 1, .return_, 0, 0) :: []
def c_Fig_init_54 : List eg_I := .inl (54, 3, .putfield 32, 2, 5) :: c_Fig_init_57
def c_Fig_init_53 : List eg_I := .inl (53, 1, .iconst (-1), 0, 0) :: c_Fig_init_54
def c_Fig_init_52 : List eg_I := .inl (52, 1, .aload 0, 0, 0) :: c_Fig_init_53
def c_Fig_init_49 : List eg_I := .inl (49, 3, .putfield 29, 2, 4) :: c_Fig_init_52
def c_Fig_init_46 : List eg_I := .inr (46, 3, 21, n_Frac_init, 0, 4, 0, 0) :: c_Fig_init_49
def c_Fig_init_45 : List eg_I := .inl (45, 1, .dup, 0, 0) :: c_Fig_init_46
def c_Fig_init_42 : List eg_I := .inl (42, 3, .new 19, 4, 2) :: c_Fig_init_45
def c_Fig_init_41 : List eg_I := .inl (41, 1, .aload 0, 0, 0) :: c_Fig_init_42
def c_Fig_init_38 : List eg_I := .inl (38, 3, .putfield 26, 2, 3) :: c_Fig_init_41
def c_Fig_init_35 : List eg_I := .inr (35, 3, 21, n_Frac_init, 0, 4, 0, 0) :: c_Fig_init_38
def c_Fig_init_34 : List eg_I := .inl (34, 1, .dup, 0, 0) :: c_Fig_init_35
def c_Fig_init_31 : List eg_I := .inl (31, 3, .new 19, 4, 2) :: c_Fig_init_34
def c_Fig_init_30 : List eg_I := .inl (30, 1, .aload 0, 0, 0) :: c_Fig_init_31
def c_Fig_init_27 : List eg_I := .inl (27, 3, .putfield 22, 2, 2) :: c_Fig_init_30
def c_Fig_init_24 : List eg_I := .inr (24, 3, 21, n_Frac_init, 0, 4, 0, 0) :: c_Fig_init_27
def c_Fig_init_23 : List eg_I := .inl (23, 1, .dup, 0, 0) :: c_Fig_init_24
def c_Fig_init_20 : List eg_I := .inl (20, 3, .new 19, 4, 2) :: c_Fig_init_23
def c_Fig_init_19 : List eg_I := .inl (19, 1, .aload 0, 0, 0) :: c_Fig_init_20
def c_Fig_init_16 : List eg_I := .inl (16, 3, .putfield 15, 2, 1) :: c_Fig_init_19
def c_Fig_init_14 : List eg_I := .inl (14, 2, .newarray .long, 1, 0) :: c_Fig_init_16
def c_Fig_init_13 : List eg_I := .inl (13, 1, .iconst (3), 0, 0) :: c_Fig_init_14
def c_Fig_init_12 : List eg_I := .inl (12, 1, .aload 0, 0, 0) :: c_Fig_init_13
def c_Fig_init_9 : List eg_I := .inl (9, 3, .putfield 9, 2, 0) :: c_Fig_init_12
def c_Fig_init_7 : List eg_I := .inl (7, 2, .newarray .int, 0, 0) :: c_Fig_init_9
def c_Fig_init_5 : List eg_I := .inl (5, 2, .iconst (6), 0, 0) :: c_Fig_init_7
def c_Fig_init_4 : List eg_I := .inl (4, 1, .aload 0, 0, 0) :: c_Fig_init_5
def c_Fig_init_1 : List eg_I := .inl (1, 3, .athrow, 3, 0) :: c_Fig_init_4
def c_Fig_init_0 : List eg_I := .inl (0, 1, .aload 0, 0, 0) :: c_Fig_init_1
section
variable {rm : Room} {K : Nat → Nat → Nat → eg_Lo → List Value → List eg_E → Prop} {Q : Option Value → List eg_E → Prop} {kc ks : Nat} {loc : eg_Lo} {st : List Value} {h : List eg_E}
theorem s_Fig_init_0 {x : Nat} {l : eg_Lo} : wps rm K Q c_Fig_init_0 kc ks (some (.ref x) :: l) (st) h = wps rm K Q c_Fig_init_1 kc ks (some (.ref x) :: l) (.ref x :: st) h := rfl
theorem s_Fig_init_1 {x : Nat} : wps rm K Q c_Fig_init_1 kc ks loc (.ref (x + 1) :: st) h = (st.length ≤ 4 ∧ wps rm K Q c_Fig_init_4 kc ks loc (st) h) := rfl
theorem s_Fig_init_4 {x : Nat} {l : eg_Lo} : wps rm K Q c_Fig_init_4 kc ks (some (.ref x) :: l) (st) h = wps rm K Q c_Fig_init_5 kc ks (some (.ref x) :: l) (.ref x :: st) h := rfl
theorem s_Fig_init_5  : wps rm K Q c_Fig_init_5 kc ks loc (st) h = wps rm K Q c_Fig_init_7 kc ks loc (.int (6) :: st) h := rfl
theorem s_Fig_init_7 {x : Int32} : wps rm K Q c_Fig_init_7 kc ks loc (.int x :: st) h = (¬ x < 0 ∧ x.toNatClampNeg ≤ 1000 ∧ kc + 1 ≤ rm.cells ∧ ks + x.toNatClampNeg ≤ rm.slots ∧ wps rm K Q c_Fig_init_9 (kc + 1) (ks + x.toNatClampNeg) loc (.ref (h.length + 1) :: st) (h ++ [.inl (0, eg_zero 0 x.toNatClampNeg)])) := rfl
theorem s_Fig_init_9 {x : Nat} {v : Value} : wps rm K Q c_Fig_init_9 kc ks loc (v :: .ref (x + 1) :: st) h = eg_pf h x 2 0 v (fun h9 => wps rm K Q c_Fig_init_12 kc ks loc (st) h9) := rfl
theorem s_Fig_init_12 {x : Nat} {l : eg_Lo} : wps rm K Q c_Fig_init_12 kc ks (some (.ref x) :: l) (st) h = wps rm K Q c_Fig_init_13 kc ks (some (.ref x) :: l) (.ref x :: st) h := rfl
theorem s_Fig_init_13  : wps rm K Q c_Fig_init_13 kc ks loc (st) h = wps rm K Q c_Fig_init_14 kc ks loc (.int (3) :: st) h := rfl
theorem s_Fig_init_14 {x : Int32} : wps rm K Q c_Fig_init_14 kc ks loc (.int x :: st) h = (¬ x < 0 ∧ x.toNatClampNeg ≤ 1000 ∧ kc + 1 ≤ rm.cells ∧ ks + x.toNatClampNeg ≤ rm.slots ∧ wps rm K Q c_Fig_init_16 (kc + 1) (ks + x.toNatClampNeg) loc (.ref (h.length + 1) :: st) (h ++ [.inl (1, eg_zero 1 x.toNatClampNeg)])) := rfl
theorem s_Fig_init_16 {x : Nat} {v : Value} : wps rm K Q c_Fig_init_16 kc ks loc (v :: .ref (x + 1) :: st) h = eg_pf h x 2 1 v (fun h9 => wps rm K Q c_Fig_init_19 kc ks loc (st) h9) := rfl
theorem s_Fig_init_19 {x : Nat} {l : eg_Lo} : wps rm K Q c_Fig_init_19 kc ks (some (.ref x) :: l) (st) h = wps rm K Q c_Fig_init_20 kc ks (some (.ref x) :: l) (.ref x :: st) h := rfl
theorem s_Fig_init_20  : wps rm K Q c_Fig_init_20 kc ks loc (st) h = (kc + 1 ≤ rm.cells ∧ ks + 2 ≤ rm.slots ∧ wps rm K Q c_Fig_init_23 (kc + 1) (ks + 2) loc (.ref (h.length + 1) :: st) (h ++ [.inr (4, eg_df 4)])) := rfl
theorem s_Fig_init_23 {x : Nat} : wps rm K Q c_Fig_init_23 kc ks loc (.ref x :: st) h = wps rm K Q c_Fig_init_24 kc ks loc (.ref x :: .ref x :: st) h := rfl
theorem s_Fig_init_24  {x : Nat} : wps rm K Q c_Fig_init_24 kc ks loc (.ref (x + 1) :: st) h = (st.length ≤ 4 ∧ kc + 0 ≤ rm.cells ∧ ks + 0 ≤ rm.slots ∧ eg_Cs n_Frac_init [.ref (x + 1)] h (fun v h9 => wps rm K Q c_Fig_init_27 (kc + 0) (ks + 0) loc (v.toList ++ st) h9)) := eg_c3_0
theorem s_Fig_init_27 {x : Nat} {v : Value} : wps rm K Q c_Fig_init_27 kc ks loc (v :: .ref (x + 1) :: st) h = eg_pf h x 2 2 v (fun h9 => wps rm K Q c_Fig_init_30 kc ks loc (st) h9) := rfl
theorem s_Fig_init_30 {x : Nat} {l : eg_Lo} : wps rm K Q c_Fig_init_30 kc ks (some (.ref x) :: l) (st) h = wps rm K Q c_Fig_init_31 kc ks (some (.ref x) :: l) (.ref x :: st) h := rfl
theorem s_Fig_init_31  : wps rm K Q c_Fig_init_31 kc ks loc (st) h = (kc + 1 ≤ rm.cells ∧ ks + 2 ≤ rm.slots ∧ wps rm K Q c_Fig_init_34 (kc + 1) (ks + 2) loc (.ref (h.length + 1) :: st) (h ++ [.inr (4, eg_df 4)])) := rfl
theorem s_Fig_init_34 {x : Nat} : wps rm K Q c_Fig_init_34 kc ks loc (.ref x :: st) h = wps rm K Q c_Fig_init_35 kc ks loc (.ref x :: .ref x :: st) h := rfl
theorem s_Fig_init_35  {x : Nat} : wps rm K Q c_Fig_init_35 kc ks loc (.ref (x + 1) :: st) h = (st.length ≤ 4 ∧ kc + 0 ≤ rm.cells ∧ ks + 0 ≤ rm.slots ∧ eg_Cs n_Frac_init [.ref (x + 1)] h (fun v h9 => wps rm K Q c_Fig_init_38 (kc + 0) (ks + 0) loc (v.toList ++ st) h9)) := eg_c3_0
theorem s_Fig_init_38 {x : Nat} {v : Value} : wps rm K Q c_Fig_init_38 kc ks loc (v :: .ref (x + 1) :: st) h = eg_pf h x 2 3 v (fun h9 => wps rm K Q c_Fig_init_41 kc ks loc (st) h9) := rfl
theorem s_Fig_init_41 {x : Nat} {l : eg_Lo} : wps rm K Q c_Fig_init_41 kc ks (some (.ref x) :: l) (st) h = wps rm K Q c_Fig_init_42 kc ks (some (.ref x) :: l) (.ref x :: st) h := rfl
theorem s_Fig_init_42  : wps rm K Q c_Fig_init_42 kc ks loc (st) h = (kc + 1 ≤ rm.cells ∧ ks + 2 ≤ rm.slots ∧ wps rm K Q c_Fig_init_45 (kc + 1) (ks + 2) loc (.ref (h.length + 1) :: st) (h ++ [.inr (4, eg_df 4)])) := rfl
theorem s_Fig_init_45 {x : Nat} : wps rm K Q c_Fig_init_45 kc ks loc (.ref x :: st) h = wps rm K Q c_Fig_init_46 kc ks loc (.ref x :: .ref x :: st) h := rfl
theorem s_Fig_init_46  {x : Nat} : wps rm K Q c_Fig_init_46 kc ks loc (.ref (x + 1) :: st) h = (st.length ≤ 4 ∧ kc + 0 ≤ rm.cells ∧ ks + 0 ≤ rm.slots ∧ eg_Cs n_Frac_init [.ref (x + 1)] h (fun v h9 => wps rm K Q c_Fig_init_49 (kc + 0) (ks + 0) loc (v.toList ++ st) h9)) := eg_c3_0
theorem s_Fig_init_49 {x : Nat} {v : Value} : wps rm K Q c_Fig_init_49 kc ks loc (v :: .ref (x + 1) :: st) h = eg_pf h x 2 4 v (fun h9 => wps rm K Q c_Fig_init_52 kc ks loc (st) h9) := rfl
theorem s_Fig_init_52 {x : Nat} {l : eg_Lo} : wps rm K Q c_Fig_init_52 kc ks (some (.ref x) :: l) (st) h = wps rm K Q c_Fig_init_53 kc ks (some (.ref x) :: l) (.ref x :: st) h := rfl
theorem s_Fig_init_53  : wps rm K Q c_Fig_init_53 kc ks loc (st) h = wps rm K Q c_Fig_init_54 kc ks loc (.int (-1) :: st) h := rfl
theorem s_Fig_init_54 {x : Nat} {v : Value} : wps rm K Q c_Fig_init_54 kc ks loc (v :: .ref (x + 1) :: st) h = eg_pf h x 2 5 v (fun h9 => wps rm K Q c_Fig_init_57 kc ks loc (st) h9) := rfl
theorem s_Fig_init_57  : wps rm K Q c_Fig_init_57 kc ks loc ([]) h = (kc = rm.cells ∧ Q none h) := rfl
def T_Fig_init : List (Nat × List eg_I) := []
end
theorem q_Fig_init : (T_Fig_init.all fun q => eg_seq m_Fig_init q.1 q.2) = true := by decide +kernel
theorem b_Fig_init {as : List Value} {h : List eg_E} {Q : Option Value → List eg_E → Prop} (hf : (eg_fl as).length ≤ 1) (hw : wps (eg_rm m_Fig_init) (eg_run (eg_rm m_Fig_init) (eg_R m_Fig_init Q (h.length + 5)) Q T_Fig_init 2) Q c_Fig_init_0 0 0 (eg_entry 1 as) [] h) : eg_Runs n_Fig_init as h Q := eg_begin (d := m_Fig_init) rfl (by decide) (by decide +kernel) q_Fig_init hf hw
/-! ===== Fig_isOne ===== -/
def c_Fig_isOne_13 : List eg_I := .inl (13, 1, .ireturn, 0, 1) :: []
def c_Fig_isOne_12 : List eg_I := .inl (12, 1, .iconst (0), 0, 0) :: c_Fig_isOne_13
def c_Fig_isOne_9 : List eg_I := .inl (9, 3, .goto (4), 13, 0) :: []
def c_Fig_isOne_8 : List eg_I := .inl (8, 1, .iconst (1), 0, 0) :: c_Fig_isOne_9
def c_Fig_isOne_5 : List eg_I := .inl (5, 3, .if_icmp .eq (7), 12, 0) :: c_Fig_isOne_8
def c_Fig_isOne_4 : List eg_I := .inl (4, 1, .iconst (-1), 0, 0) :: c_Fig_isOne_5
def c_Fig_isOne_1 : List eg_I := .inl (1, 3, .getfield 32, 2, 5) :: c_Fig_isOne_4
def c_Fig_isOne_0 : List eg_I := .inl (0, 1, .aload 0, 0, 0) :: c_Fig_isOne_1
section
variable {rm : Room} {K : Nat → Nat → Nat → eg_Lo → List Value → List eg_E → Prop} {Q : Option Value → List eg_E → Prop} {kc ks : Nat} {loc : eg_Lo} {st : List Value} {h : List eg_E}
theorem s_Fig_isOne_0 {x : Nat} {l : eg_Lo} : wps rm K Q c_Fig_isOne_0 kc ks (some (.ref x) :: l) (st) h = wps rm K Q c_Fig_isOne_1 kc ks (some (.ref x) :: l) (.ref x :: st) h := rfl
theorem s_Fig_isOne_1 {x : Nat} : wps rm K Q c_Fig_isOne_1 kc ks loc (.ref (x + 1) :: st) h = eg_gf h x 2 5 (fun v => wps rm K Q c_Fig_isOne_4 kc ks loc (v :: st) h) := rfl
theorem s_Fig_isOne_4  : wps rm K Q c_Fig_isOne_4 kc ks loc (st) h = wps rm K Q c_Fig_isOne_5 kc ks loc (.int (-1) :: st) h := rfl
theorem s_Fig_isOne_5 {x y : Int32} : wps rm K Q c_Fig_isOne_5 kc ks loc (.int y :: .int x :: st) h = ((x = y → K 12 kc ks loc st h) ∧ (¬ x = y → wps rm K Q c_Fig_isOne_8 kc ks loc (st) h)) := rfl
theorem s_Fig_isOne_8  : wps rm K Q c_Fig_isOne_8 kc ks loc (st) h = wps rm K Q c_Fig_isOne_9 kc ks loc (.int (1) :: st) h := rfl
theorem s_Fig_isOne_9  : wps rm K Q c_Fig_isOne_9 kc ks loc (st) h = K 13 kc ks loc st h := rfl
theorem s_Fig_isOne_12  : wps rm K Q c_Fig_isOne_12 kc ks loc (st) h = wps rm K Q c_Fig_isOne_13 kc ks loc (.int (0) :: st) h := rfl
theorem s_Fig_isOne_13 {x : Int32} : wps rm K Q c_Fig_isOne_13 kc ks loc ([.int x]) h = (kc = rm.cells ∧ ((1 : Nat) = 1 → x = 0 ∨ x = 1) ∧ Q (some (.int x)) h) := rfl
def T_Fig_isOne : List (Nat × List eg_I) := [(12, c_Fig_isOne_12), (13, c_Fig_isOne_13)]
theorem j_Fig_isOne_12 {R : Nat → Nat → Nat → eg_Lo → List Value → List eg_E → Prop} {f pc0 : Nat} : eg_run rm R Q T_Fig_isOne (f + 1) 12 kc ks loc st h = wps rm (eg_run rm R Q T_Fig_isOne f) Q c_Fig_isOne_12 kc ks loc st h := rfl
theorem j_Fig_isOne_13 {R : Nat → Nat → Nat → eg_Lo → List Value → List eg_E → Prop} {f pc0 : Nat} : eg_run rm R Q T_Fig_isOne (f + 1) 13 kc ks loc st h = wps rm (eg_run rm R Q T_Fig_isOne f) Q c_Fig_isOne_13 kc ks loc st h := rfl
end
theorem q_Fig_isOne : (T_Fig_isOne.all fun q => eg_seq m_Fig_isOne q.1 q.2) = true := by decide +kernel
theorem b_Fig_isOne {as : List Value} {h : List eg_E} {Q : Option Value → List eg_E → Prop} (hf : (eg_fl as).length ≤ 1) (hw : wps (eg_rm m_Fig_isOne) (eg_run (eg_rm m_Fig_isOne) (eg_R m_Fig_isOne Q (h.length + 0)) Q T_Fig_isOne 4) Q c_Fig_isOne_0 0 0 (eg_entry 1 as) [] h) : eg_Runs n_Fig_isOne as h Q := eg_begin (d := m_Fig_isOne) rfl (by decide) (by decide +kernel) q_Fig_isOne hf hw
/-! ===== Fig_isOfKind ===== -/
def c_Fig_isOfKind_47 : List eg_I := .inl (47, 1, .ireturn, 0, 1) :: []
def c_Fig_isOfKind_46 : List eg_I := .inl (46, 1, .iconst (0), 0, 0) :: c_Fig_isOfKind_47
def c_Fig_isOfKind_43 : List eg_I := .inl (43, 3, .goto (-36), 7, 0) :: []
def c_Fig_isOfKind_40 : List eg_I := .inl (40, 3, .iinc 3 (1), 0, 0) :: c_Fig_isOfKind_43
def c_Fig_isOfKind_39 : List eg_I := .inl (39, 1, .istore 2, 0, 0) :: c_Fig_isOfKind_40
def c_Fig_isOfKind_38 : List eg_I := .inl (38, 1, .iaload, 0, 0) :: c_Fig_isOfKind_39
def c_Fig_isOfKind_37 : List eg_I := .inl (37, 1, .iload 2, 0, 0) :: c_Fig_isOfKind_38
def c_Fig_isOfKind_34 : List eg_I := .inl (34, 3, .getstatic 36, 0, 0) :: c_Fig_isOfKind_37
def c_Fig_isOfKind_33 : List eg_I := .inl (33, 1, .ireturn, 0, 1) :: []
def c_Fig_isOfKind_32 : List eg_I := .inl (32, 1, .iconst (1), 0, 0) :: c_Fig_isOfKind_33
def c_Fig_isOfKind_29 : List eg_I := .inl (29, 3, .if_icmp .ne (5), 34, 0) :: c_Fig_isOfKind_32
def c_Fig_isOfKind_28 : List eg_I := .inl (28, 1, .iload 1, 0, 0) :: c_Fig_isOfKind_29
def c_Fig_isOfKind_27 : List eg_I := .inl (27, 1, .iload 2, 0, 0) :: c_Fig_isOfKind_28
def c_Fig_isOfKind_24 : List eg_I := .inl (24, 3, .if_icmp .ge (22), 46, 0) :: c_Fig_isOfKind_27
def c_Fig_isOfKind_23 : List eg_I := .inl (23, 1, .arraylength, 0, 0) :: c_Fig_isOfKind_24
def c_Fig_isOfKind_20 : List eg_I := .inl (20, 3, .getstatic 36, 0, 0) :: c_Fig_isOfKind_23
def c_Fig_isOfKind_19 : List eg_I := .inl (19, 1, .iload 2, 0, 0) :: c_Fig_isOfKind_20
def c_Fig_isOfKind_16 : List eg_I := .inl (16, 3, .ifCond .lt (30), 46, 0) :: c_Fig_isOfKind_19
def c_Fig_isOfKind_15 : List eg_I := .inl (15, 1, .iload 2, 0, 0) :: c_Fig_isOfKind_16
def c_Fig_isOfKind_12 : List eg_I := .inl (12, 3, .if_icmp .ge (34), 46, 0) :: c_Fig_isOfKind_15
def c_Fig_isOfKind_11 : List eg_I := .inl (11, 1, .arraylength, 0, 0) :: c_Fig_isOfKind_12
def c_Fig_isOfKind_8 : List eg_I := .inl (8, 3, .getstatic 36, 0, 0) :: c_Fig_isOfKind_11
def c_Fig_isOfKind_7 : List eg_I := .inl (7, 1, .iload 3, 0, 0) :: c_Fig_isOfKind_8
def c_Fig_isOfKind_6 : List eg_I := .inl (6, 1, .istore 3, 0, 0) :: [.inl (7, 0, .nop, 0, 0)]
def c_Fig_isOfKind_5 : List eg_I := .inl (5, 1, .iconst (0), 0, 0) :: c_Fig_isOfKind_6
def c_Fig_isOfKind_4 : List eg_I := .inl (4, 1, .istore 2, 0, 0) :: c_Fig_isOfKind_5
def c_Fig_isOfKind_1 : List eg_I := .inl (1, 3, .getfield 32, 2, 5) :: c_Fig_isOfKind_4
def c_Fig_isOfKind_0 : List eg_I := .inl (0, 1, .aload 0, 0, 0) :: c_Fig_isOfKind_1
section
variable {rm : Room} {K : Nat → Nat → Nat → eg_Lo → List Value → List eg_E → Prop} {Q : Option Value → List eg_E → Prop} {kc ks : Nat} {loc : eg_Lo} {st : List Value} {h : List eg_E}
theorem s_Fig_isOfKind_0 {x : Nat} {l : eg_Lo} : wps rm K Q c_Fig_isOfKind_0 kc ks (some (.ref x) :: l) (st) h = wps rm K Q c_Fig_isOfKind_1 kc ks (some (.ref x) :: l) (.ref x :: st) h := rfl
theorem s_Fig_isOfKind_1 {x : Nat} : wps rm K Q c_Fig_isOfKind_1 kc ks loc (.ref (x + 1) :: st) h = eg_gf h x 2 5 (fun v => wps rm K Q c_Fig_isOfKind_4 kc ks loc (v :: st) h) := rfl
theorem s_Fig_isOfKind_4 {x : Int32} : wps rm K Q c_Fig_isOfKind_4 kc ks loc (.int x :: st) h = wps rm K Q c_Fig_isOfKind_5 kc ks (eg_set1 loc 2 (.int x)) (st) h := rfl
theorem s_Fig_isOfKind_5  : wps rm K Q c_Fig_isOfKind_5 kc ks loc (st) h = wps rm K Q c_Fig_isOfKind_6 kc ks loc (.int (0) :: st) h := rfl
theorem s_Fig_isOfKind_6 {x : Int32} : wps rm K Q c_Fig_isOfKind_6 kc ks loc (.int x :: st) h = K 7 kc ks (eg_set1 loc 3 (.int x)) (st) h := rfl
theorem s_Fig_isOfKind_7 {x : Int32} {l0 l1 l2 : Option Value} {l : eg_Lo} : wps rm K Q c_Fig_isOfKind_7 kc ks (l0 :: l1 :: l2 :: some (.int x) :: l) (st) h = wps rm K Q c_Fig_isOfKind_8 kc ks (l0 :: l1 :: l2 :: some (.int x) :: l) (.int x :: st) h := rfl
theorem s_Fig_isOfKind_8  : wps rm K Q c_Fig_isOfKind_8 kc ks loc (st) h = wps rm K Q c_Fig_isOfKind_11 kc ks loc (.ref 0 :: st) h := rfl
theorem s_Fig_isOfKind_11  : wps rm K Q c_Fig_isOfKind_11 kc ks loc (.ref 0 :: st) h = wps rm K Q c_Fig_isOfKind_12 kc ks loc (.int 6 :: st) h := rfl
theorem s_Fig_isOfKind_12 {x y : Int32} : wps rm K Q c_Fig_isOfKind_12 kc ks loc (.int y :: .int x :: st) h = ((y ≤ x → K 46 kc ks loc st h) ∧ (¬ y ≤ x → wps rm K Q c_Fig_isOfKind_15 kc ks loc (st) h)) := rfl
theorem s_Fig_isOfKind_15 {x : Int32} {l0 l1 : Option Value} {l : eg_Lo} : wps rm K Q c_Fig_isOfKind_15 kc ks (l0 :: l1 :: some (.int x) :: l) (st) h = wps rm K Q c_Fig_isOfKind_16 kc ks (l0 :: l1 :: some (.int x) :: l) (.int x :: st) h := rfl
theorem s_Fig_isOfKind_16 {x : Int32} : wps rm K Q c_Fig_isOfKind_16 kc ks loc (.int x :: st) h = ((x < 0 → K 46 kc ks loc st h) ∧ (¬ x < 0 → wps rm K Q c_Fig_isOfKind_19 kc ks loc (st) h)) := rfl
theorem s_Fig_isOfKind_19 {x : Int32} {l0 l1 : Option Value} {l : eg_Lo} : wps rm K Q c_Fig_isOfKind_19 kc ks (l0 :: l1 :: some (.int x) :: l) (st) h = wps rm K Q c_Fig_isOfKind_20 kc ks (l0 :: l1 :: some (.int x) :: l) (.int x :: st) h := rfl
theorem s_Fig_isOfKind_20  : wps rm K Q c_Fig_isOfKind_20 kc ks loc (st) h = wps rm K Q c_Fig_isOfKind_23 kc ks loc (.ref 0 :: st) h := rfl
theorem s_Fig_isOfKind_23  : wps rm K Q c_Fig_isOfKind_23 kc ks loc (.ref 0 :: st) h = wps rm K Q c_Fig_isOfKind_24 kc ks loc (.int 6 :: st) h := rfl
theorem s_Fig_isOfKind_24 {x y : Int32} : wps rm K Q c_Fig_isOfKind_24 kc ks loc (.int y :: .int x :: st) h = ((y ≤ x → K 46 kc ks loc st h) ∧ (¬ y ≤ x → wps rm K Q c_Fig_isOfKind_27 kc ks loc (st) h)) := rfl
theorem s_Fig_isOfKind_27 {x : Int32} {l0 l1 : Option Value} {l : eg_Lo} : wps rm K Q c_Fig_isOfKind_27 kc ks (l0 :: l1 :: some (.int x) :: l) (st) h = wps rm K Q c_Fig_isOfKind_28 kc ks (l0 :: l1 :: some (.int x) :: l) (.int x :: st) h := rfl
theorem s_Fig_isOfKind_28 {x : Int32} {l0 : Option Value} {l : eg_Lo} : wps rm K Q c_Fig_isOfKind_28 kc ks (l0 :: some (.int x) :: l) (st) h = wps rm K Q c_Fig_isOfKind_29 kc ks (l0 :: some (.int x) :: l) (.int x :: st) h := rfl
theorem s_Fig_isOfKind_29 {x y : Int32} : wps rm K Q c_Fig_isOfKind_29 kc ks loc (.int y :: .int x :: st) h = ((¬ x = y → K 34 kc ks loc st h) ∧ (x = y → wps rm K Q c_Fig_isOfKind_32 kc ks loc (st) h)) := rfl
theorem s_Fig_isOfKind_32  : wps rm K Q c_Fig_isOfKind_32 kc ks loc (st) h = wps rm K Q c_Fig_isOfKind_33 kc ks loc (.int (1) :: st) h := rfl
theorem s_Fig_isOfKind_33 {x : Int32} : wps rm K Q c_Fig_isOfKind_33 kc ks loc ([.int x]) h = (kc = rm.cells ∧ ((1 : Nat) = 1 → x = 0 ∨ x = 1) ∧ Q (some (.int x)) h) := rfl
theorem s_Fig_isOfKind_34  : wps rm K Q c_Fig_isOfKind_34 kc ks loc (st) h = wps rm K Q c_Fig_isOfKind_37 kc ks loc (.ref 0 :: st) h := rfl
theorem s_Fig_isOfKind_37 {x : Int32} {l0 l1 : Option Value} {l : eg_Lo} : wps rm K Q c_Fig_isOfKind_37 kc ks (l0 :: l1 :: some (.int x) :: l) (st) h = wps rm K Q c_Fig_isOfKind_38 kc ks (l0 :: l1 :: some (.int x) :: l) (.int x :: st) h := rfl
theorem s_Fig_isOfKind_38 {i : Int32} : wps rm K Q c_Fig_isOfKind_38 kc ks loc (.int i :: .ref 0 :: st) h = (vp_in i 6 ∧ wps rm K Q c_Fig_isOfKind_39 kc ks loc (.int (eg_under i.toNatClampNeg) :: st) h) := rfl
theorem s_Fig_isOfKind_39 {x : Int32} : wps rm K Q c_Fig_isOfKind_39 kc ks loc (.int x :: st) h = wps rm K Q c_Fig_isOfKind_40 kc ks (eg_set1 loc 2 (.int x)) (st) h := rfl
theorem s_Fig_isOfKind_40 {x : Int32} {l0 l1 l2 : Option Value} {l9 : eg_Lo} : wps rm K Q c_Fig_isOfKind_40 kc ks (l0 :: l1 :: l2 :: some (.int x) :: l9) (st) h = wps rm K Q c_Fig_isOfKind_43 kc ks (eg_set1 (l0 :: l1 :: l2 :: some (.int x) :: l9) 3 (.int (x + (1)))) (st) h := rfl
theorem s_Fig_isOfKind_43  : wps rm K Q c_Fig_isOfKind_43 kc ks loc (st) h = K 7 kc ks loc st h := rfl
theorem s_Fig_isOfKind_46  : wps rm K Q c_Fig_isOfKind_46 kc ks loc (st) h = wps rm K Q c_Fig_isOfKind_47 kc ks loc (.int (0) :: st) h := rfl
theorem s_Fig_isOfKind_47 {x : Int32} : wps rm K Q c_Fig_isOfKind_47 kc ks loc ([.int x]) h = (kc = rm.cells ∧ ((1 : Nat) = 1 → x = 0 ∨ x = 1) ∧ Q (some (.int x)) h) := rfl
def T_Fig_isOfKind : List (Nat × List eg_I) := [(34, c_Fig_isOfKind_34), (46, c_Fig_isOfKind_46)]
theorem j_Fig_isOfKind_34 {R : Nat → Nat → Nat → eg_Lo → List Value → List eg_E → Prop} {f pc0 : Nat} : eg_run rm R Q T_Fig_isOfKind (f + 1) 34 kc ks loc st h = wps rm (eg_run rm R Q T_Fig_isOfKind f) Q c_Fig_isOfKind_34 kc ks loc st h := rfl
theorem j_Fig_isOfKind_46 {R : Nat → Nat → Nat → eg_Lo → List Value → List eg_E → Prop} {f pc0 : Nat} : eg_run rm R Q T_Fig_isOfKind (f + 1) 46 kc ks loc st h = wps rm (eg_run rm R Q T_Fig_isOfKind f) Q c_Fig_isOfKind_46 kc ks loc st h := rfl
theorem j_Fig_isOfKind_7 {R : Nat → Nat → Nat → eg_Lo → List Value → List eg_E → Prop} {f pc0 : Nat} : eg_run rm R Q T_Fig_isOfKind (f + 1) 7 kc ks loc st h = R 7 kc ks loc st h := rfl
end
theorem q_Fig_isOfKind : (T_Fig_isOfKind.all fun q => eg_seq m_Fig_isOfKind q.1 q.2) = true := by decide +kernel
theorem b_Fig_isOfKind {as : List Value} {h : List eg_E} {Q : Option Value → List eg_E → Prop} (hf : (eg_fl as).length ≤ 4) (hw : wps (eg_rm m_Fig_isOfKind) (eg_run (eg_rm m_Fig_isOfKind) (eg_R m_Fig_isOfKind Q (h.length + 0)) Q T_Fig_isOfKind 4) Q c_Fig_isOfKind_0 0 0 (eg_entry 4 as) [] h) : eg_Runs n_Fig_isOfKind as h Q := eg_begin (d := m_Fig_isOfKind) rfl (by decide) (by decide +kernel) q_Fig_isOfKind hf hw
theorem p_Fig_isOfKind_7 {Q : Option Value → List eg_E → Prop} {n0 kc ks : Nat} {loc : eg_Lo} {st : List Value} {h : List eg_E} (hw : wps (eg_rm m_Fig_isOfKind) (eg_run (eg_rm m_Fig_isOfKind) (eg_R m_Fig_isOfKind Q n0) Q T_Fig_isOfKind 4) Q c_Fig_isOfKind_7 kc ks loc st h) : eg_R m_Fig_isOfKind Q n0 7 kc ks loc st h := eg_go (by decide +kernel) q_Fig_isOfKind hw
/-! ===== Fig_keeps ===== -/
def c_Fig_keeps_49 : List eg_I := .inl (49, 1, .ireturn, 0, 1) :: []
def c_Fig_keeps_48 : List eg_I := .inl (48, 1, .iconst (0), 0, 0) :: c_Fig_keeps_49
def c_Fig_keeps_45 : List eg_I := .inl (45, 3, .goto (4), 49, 0) :: []
def c_Fig_keeps_44 : List eg_I := .inl (44, 1, .iconst (1), 0, 0) :: c_Fig_keeps_45
def c_Fig_keeps_41 : List eg_I := .inl (41, 3, .ifCond .gt (7), 48, 0) :: c_Fig_keeps_44
def c_Fig_keeps_40 : List eg_I := .inl (40, 1, .lcmp, 0, 0) :: c_Fig_keeps_41
def c_Fig_keeps_39 : List eg_I := .inl (39, 1, .lmul, 0, 0) :: c_Fig_keeps_40
def c_Fig_keeps_36 : List eg_I := .inr (36, 1, 41, n_Frac_side, 1, 4, 0, 0) :: c_Fig_keeps_39
def c_Fig_keeps_35 : List eg_I := .inl (35, 1, .iconst (1), 0, 0) :: c_Fig_keeps_36
def c_Fig_keeps_32 : List eg_I := .inl (32, 3, .getfield 22, 2, 2) :: c_Fig_keeps_35
def c_Fig_keeps_31 : List eg_I := .inl (31, 1, .aload 0, 0, 0) :: c_Fig_keeps_32
def c_Fig_keeps_30 : List eg_I := .inl (30, 1, .lmul, 0, 0) :: c_Fig_keeps_31
def c_Fig_keeps_29 : List eg_I := .inl (29, 1, .i2l, 0, 0) :: c_Fig_keeps_30
def c_Fig_keeps_28 : List eg_I := .inl (28, 1, .iload 1, 0, 0) :: c_Fig_keeps_29
def c_Fig_keeps_27 : List eg_I := .inl (27, 1, .i2l, 0, 0) :: c_Fig_keeps_28
def c_Fig_keeps_26 : List eg_I := .inl (26, 1, .iload 1, 0, 0) :: c_Fig_keeps_27
def c_Fig_keeps_25 : List eg_I := .inl (25, 1, .lmul, 0, 0) :: c_Fig_keeps_26
def c_Fig_keeps_22 : List eg_I := .inr (22, 1, 41, n_Frac_side, 1, 4, 0, 0) :: c_Fig_keeps_25
def c_Fig_keeps_21 : List eg_I := .inl (21, 1, .iconst (0), 0, 0) :: c_Fig_keeps_22
def c_Fig_keeps_18 : List eg_I := .inl (18, 3, .getfield 22, 2, 2) :: c_Fig_keeps_21
def c_Fig_keeps_17 : List eg_I := .inl (17, 1, .aload 0, 0, 0) :: c_Fig_keeps_18
def c_Fig_keeps_16 : List eg_I := .inl (16, 1, .lload 2, 0, 0) :: c_Fig_keeps_17
def c_Fig_keeps_15 : List eg_I := .inl (15, 1, .lstore 2, 0, 0) :: c_Fig_keeps_16
def c_Fig_keeps_14 : List eg_I := .inl (14, 1, .sipush (1), 0, 0) :: c_Fig_keeps_15
def c_Fig_keeps_11 : List eg_I := .inl (11, 3, .goto (4), 15, 0) :: []
def c_Fig_keeps_8 : List eg_I := .inl (8, 3, .sipush (4), 39, 0) :: c_Fig_keeps_11
def c_Fig_keeps_5 : List eg_I := .inl (5, 3, .if_icmp .ne (9), 14, 0) :: c_Fig_keeps_8
def c_Fig_keeps_4 : List eg_I := .inl (4, 1, .iconst (5), 0, 0) :: c_Fig_keeps_5
def c_Fig_keeps_1 : List eg_I := .inl (1, 3, .getfield 32, 2, 5) :: c_Fig_keeps_4
def c_Fig_keeps_0 : List eg_I := .inl (0, 1, .aload 0, 0, 0) :: c_Fig_keeps_1
section
variable {rm : Room} {K : Nat → Nat → Nat → eg_Lo → List Value → List eg_E → Prop} {Q : Option Value → List eg_E → Prop} {kc ks : Nat} {loc : eg_Lo} {st : List Value} {h : List eg_E}
theorem s_Fig_keeps_0 {x : Nat} {l : eg_Lo} : wps rm K Q c_Fig_keeps_0 kc ks (some (.ref x) :: l) (st) h = wps rm K Q c_Fig_keeps_1 kc ks (some (.ref x) :: l) (.ref x :: st) h := rfl
theorem s_Fig_keeps_1 {x : Nat} : wps rm K Q c_Fig_keeps_1 kc ks loc (.ref (x + 1) :: st) h = eg_gf h x 2 5 (fun v => wps rm K Q c_Fig_keeps_4 kc ks loc (v :: st) h) := rfl
theorem s_Fig_keeps_4  : wps rm K Q c_Fig_keeps_4 kc ks loc (st) h = wps rm K Q c_Fig_keeps_5 kc ks loc (.int (5) :: st) h := rfl
theorem s_Fig_keeps_5 {x y : Int32} : wps rm K Q c_Fig_keeps_5 kc ks loc (.int y :: .int x :: st) h = ((¬ x = y → K 14 kc ks loc st h) ∧ (x = y → wps rm K Q c_Fig_keeps_8 kc ks loc (st) h)) := rfl
theorem s_Fig_keeps_8  : wps rm K Q c_Fig_keeps_8 kc ks loc (st) h = wps rm K Q c_Fig_keeps_11 kc ks loc (.long (4) :: st) h := rfl
theorem s_Fig_keeps_11  : wps rm K Q c_Fig_keeps_11 kc ks loc (st) h = K 15 kc ks loc st h := rfl
theorem s_Fig_keeps_14  : wps rm K Q c_Fig_keeps_14 kc ks loc (st) h = wps rm K Q c_Fig_keeps_15 kc ks loc (.long (1) :: st) h := rfl
theorem s_Fig_keeps_15 {x : Int64} : wps rm K Q c_Fig_keeps_15 kc ks loc (.long x :: st) h = wps rm K Q c_Fig_keeps_16 kc ks (eg_set2 loc 2 (.long x)) (st) h := rfl
theorem s_Fig_keeps_16 {x : Int64} {l0 l1 : Option Value} {l : eg_Lo} : wps rm K Q c_Fig_keeps_16 kc ks (l0 :: l1 :: some (.long x) :: l) (st) h = wps rm K Q c_Fig_keeps_17 kc ks (l0 :: l1 :: some (.long x) :: l) (.long x :: st) h := rfl
theorem s_Fig_keeps_17 {x : Nat} {l : eg_Lo} : wps rm K Q c_Fig_keeps_17 kc ks (some (.ref x) :: l) (st) h = wps rm K Q c_Fig_keeps_18 kc ks (some (.ref x) :: l) (.ref x :: st) h := rfl
theorem s_Fig_keeps_18 {x : Nat} : wps rm K Q c_Fig_keeps_18 kc ks loc (.ref (x + 1) :: st) h = eg_gf h x 2 2 (fun v => wps rm K Q c_Fig_keeps_21 kc ks loc (v :: st) h) := rfl
theorem s_Fig_keeps_21  : wps rm K Q c_Fig_keeps_21 kc ks loc (st) h = wps rm K Q c_Fig_keeps_22 kc ks loc (.int (0) :: st) h := rfl
theorem s_Fig_keeps_22  {a1 : Value} {x : Nat} : wps rm K Q c_Fig_keeps_22 kc ks loc (a1 :: .ref (x + 1) :: st) h = (eg_cls h x 4 ∧ st.length ≤ 4 ∧ eg_Cs n_Frac_side (.ref (x + 1) :: [a1]) h (fun v h9 => wps rm K Q c_Fig_keeps_25 kc ks loc (v.toList ++ st) h9)) := eg_c1_1
theorem s_Fig_keeps_25 {x y : Int64} : wps rm K Q c_Fig_keeps_25 kc ks loc (.long y :: .long x :: st) h = wps rm K Q c_Fig_keeps_26 kc ks loc (.long (x * y) :: st) h := rfl
theorem s_Fig_keeps_26 {x : Int32} {l0 : Option Value} {l : eg_Lo} : wps rm K Q c_Fig_keeps_26 kc ks (l0 :: some (.int x) :: l) (st) h = wps rm K Q c_Fig_keeps_27 kc ks (l0 :: some (.int x) :: l) (.int x :: st) h := rfl
theorem s_Fig_keeps_27 {x : Int32} : wps rm K Q c_Fig_keeps_27 kc ks loc (.int x :: st) h = wps rm K Q c_Fig_keeps_28 kc ks loc (.long (x.toInt64) :: st) h := rfl
theorem s_Fig_keeps_28 {x : Int32} {l0 : Option Value} {l : eg_Lo} : wps rm K Q c_Fig_keeps_28 kc ks (l0 :: some (.int x) :: l) (st) h = wps rm K Q c_Fig_keeps_29 kc ks (l0 :: some (.int x) :: l) (.int x :: st) h := rfl
theorem s_Fig_keeps_29 {x : Int32} : wps rm K Q c_Fig_keeps_29 kc ks loc (.int x :: st) h = wps rm K Q c_Fig_keeps_30 kc ks loc (.long (x.toInt64) :: st) h := rfl
theorem s_Fig_keeps_30 {x y : Int64} : wps rm K Q c_Fig_keeps_30 kc ks loc (.long y :: .long x :: st) h = wps rm K Q c_Fig_keeps_31 kc ks loc (.long (x * y) :: st) h := rfl
theorem s_Fig_keeps_31 {x : Nat} {l : eg_Lo} : wps rm K Q c_Fig_keeps_31 kc ks (some (.ref x) :: l) (st) h = wps rm K Q c_Fig_keeps_32 kc ks (some (.ref x) :: l) (.ref x :: st) h := rfl
theorem s_Fig_keeps_32 {x : Nat} : wps rm K Q c_Fig_keeps_32 kc ks loc (.ref (x + 1) :: st) h = eg_gf h x 2 2 (fun v => wps rm K Q c_Fig_keeps_35 kc ks loc (v :: st) h) := rfl
theorem s_Fig_keeps_35  : wps rm K Q c_Fig_keeps_35 kc ks loc (st) h = wps rm K Q c_Fig_keeps_36 kc ks loc (.int (1) :: st) h := rfl
theorem s_Fig_keeps_36  {a1 : Value} {x : Nat} : wps rm K Q c_Fig_keeps_36 kc ks loc (a1 :: .ref (x + 1) :: st) h = (eg_cls h x 4 ∧ st.length ≤ 4 ∧ eg_Cs n_Frac_side (.ref (x + 1) :: [a1]) h (fun v h9 => wps rm K Q c_Fig_keeps_39 kc ks loc (v.toList ++ st) h9)) := eg_c1_1
theorem s_Fig_keeps_39 {x y : Int64} : wps rm K Q c_Fig_keeps_39 kc ks loc (.long y :: .long x :: st) h = wps rm K Q c_Fig_keeps_40 kc ks loc (.long (x * y) :: st) h := rfl
theorem s_Fig_keeps_40 {x y : Int64} : wps rm K Q c_Fig_keeps_40 kc ks loc (.long y :: .long x :: st) h = wps rm K Q c_Fig_keeps_41 kc ks loc (.int (lg_cmp x y) :: st) h := rfl
theorem s_Fig_keeps_41 {x : Int32} : wps rm K Q c_Fig_keeps_41 kc ks loc (.int x :: st) h = ((0 < x → K 48 kc ks loc st h) ∧ (¬ 0 < x → wps rm K Q c_Fig_keeps_44 kc ks loc (st) h)) := rfl
theorem s_Fig_keeps_44  : wps rm K Q c_Fig_keeps_44 kc ks loc (st) h = wps rm K Q c_Fig_keeps_45 kc ks loc (.int (1) :: st) h := rfl
theorem s_Fig_keeps_45  : wps rm K Q c_Fig_keeps_45 kc ks loc (st) h = K 49 kc ks loc st h := rfl
theorem s_Fig_keeps_48  : wps rm K Q c_Fig_keeps_48 kc ks loc (st) h = wps rm K Q c_Fig_keeps_49 kc ks loc (.int (0) :: st) h := rfl
theorem s_Fig_keeps_49 {x : Int32} : wps rm K Q c_Fig_keeps_49 kc ks loc ([.int x]) h = (kc = rm.cells ∧ ((1 : Nat) = 1 → x = 0 ∨ x = 1) ∧ Q (some (.int x)) h) := rfl
def T_Fig_keeps : List (Nat × List eg_I) := [(14, c_Fig_keeps_14), (15, c_Fig_keeps_15), (48, c_Fig_keeps_48), (49, c_Fig_keeps_49)]
theorem j_Fig_keeps_14 {R : Nat → Nat → Nat → eg_Lo → List Value → List eg_E → Prop} {f pc0 : Nat} : eg_run rm R Q T_Fig_keeps (f + 1) 14 kc ks loc st h = wps rm (eg_run rm R Q T_Fig_keeps f) Q c_Fig_keeps_14 kc ks loc st h := rfl
theorem j_Fig_keeps_15 {R : Nat → Nat → Nat → eg_Lo → List Value → List eg_E → Prop} {f pc0 : Nat} : eg_run rm R Q T_Fig_keeps (f + 1) 15 kc ks loc st h = wps rm (eg_run rm R Q T_Fig_keeps f) Q c_Fig_keeps_15 kc ks loc st h := rfl
theorem j_Fig_keeps_48 {R : Nat → Nat → Nat → eg_Lo → List Value → List eg_E → Prop} {f pc0 : Nat} : eg_run rm R Q T_Fig_keeps (f + 1) 48 kc ks loc st h = wps rm (eg_run rm R Q T_Fig_keeps f) Q c_Fig_keeps_48 kc ks loc st h := rfl
theorem j_Fig_keeps_49 {R : Nat → Nat → Nat → eg_Lo → List Value → List eg_E → Prop} {f pc0 : Nat} : eg_run rm R Q T_Fig_keeps (f + 1) 49 kc ks loc st h = wps rm (eg_run rm R Q T_Fig_keeps f) Q c_Fig_keeps_49 kc ks loc st h := rfl
end
theorem q_Fig_keeps : (T_Fig_keeps.all fun q => eg_seq m_Fig_keeps q.1 q.2) = true := by decide +kernel
theorem b_Fig_keeps {as : List Value} {h : List eg_E} {Q : Option Value → List eg_E → Prop} (hf : (eg_fl as).length ≤ 4) (hw : wps (eg_rm m_Fig_keeps) (eg_run (eg_rm m_Fig_keeps) (eg_R m_Fig_keeps Q (h.length + 0)) Q T_Fig_keeps 6) Q c_Fig_keeps_0 0 0 (eg_entry 4 as) [] h) : eg_Runs n_Fig_keeps as h Q := eg_begin (d := m_Fig_keeps) rfl (by decide) (by decide +kernel) q_Fig_keeps hf hw
/-! ===== Fig_leastKept ===== -/
def c_Fig_leastKept_28 : List eg_I := .inl (28, 1, .ireturn, 0, 0) :: []
def c_Fig_leastKept_25 : List eg_I := .inl (25, 3, .iconst (2000), 0, 0) :: c_Fig_leastKept_28
def c_Fig_leastKept_22 : List eg_I := .inl (22, 3, .goto (-20), 2, 0) :: []
def c_Fig_leastKept_19 : List eg_I := .inl (19, 3, .iinc 1 (1), 0, 0) :: c_Fig_leastKept_22
def c_Fig_leastKept_18 : List eg_I := .inl (18, 1, .ireturn, 0, 0) :: []
def c_Fig_leastKept_17 : List eg_I := .inl (17, 1, .iload 1, 0, 0) :: c_Fig_leastKept_18
def c_Fig_leastKept_14 : List eg_I := .inl (14, 3, .ifCond .eq (5), 19, 0) :: c_Fig_leastKept_17
def c_Fig_leastKept_11 : List eg_I := .inr (11, 1, 45, n_Fig_keeps, 1, 2, 0, 0) :: c_Fig_leastKept_14
def c_Fig_leastKept_10 : List eg_I := .inl (10, 1, .iload 1, 0, 0) :: c_Fig_leastKept_11
def c_Fig_leastKept_9 : List eg_I := .inl (9, 1, .aload 0, 0, 0) :: c_Fig_leastKept_10
def c_Fig_leastKept_6 : List eg_I := .inl (6, 3, .if_icmp .ge (19), 25, 0) :: c_Fig_leastKept_9
def c_Fig_leastKept_3 : List eg_I := .inl (3, 3, .iconst (2000), 0, 0) :: c_Fig_leastKept_6
def c_Fig_leastKept_2 : List eg_I := .inl (2, 1, .iload 1, 0, 0) :: c_Fig_leastKept_3
def c_Fig_leastKept_1 : List eg_I := .inl (1, 1, .istore 1, 0, 0) :: [.inl (2, 0, .nop, 0, 0)]
def c_Fig_leastKept_0 : List eg_I := .inl (0, 1, .iconst (0), 0, 0) :: c_Fig_leastKept_1
section
variable {rm : Room} {K : Nat → Nat → Nat → eg_Lo → List Value → List eg_E → Prop} {Q : Option Value → List eg_E → Prop} {kc ks : Nat} {loc : eg_Lo} {st : List Value} {h : List eg_E}
theorem s_Fig_leastKept_0  : wps rm K Q c_Fig_leastKept_0 kc ks loc (st) h = wps rm K Q c_Fig_leastKept_1 kc ks loc (.int (0) :: st) h := rfl
theorem s_Fig_leastKept_1 {x : Int32} : wps rm K Q c_Fig_leastKept_1 kc ks loc (.int x :: st) h = K 2 kc ks (eg_set1 loc 1 (.int x)) (st) h := rfl
theorem s_Fig_leastKept_2 {x : Int32} {l0 : Option Value} {l : eg_Lo} : wps rm K Q c_Fig_leastKept_2 kc ks (l0 :: some (.int x) :: l) (st) h = wps rm K Q c_Fig_leastKept_3 kc ks (l0 :: some (.int x) :: l) (.int x :: st) h := rfl
theorem s_Fig_leastKept_3  : wps rm K Q c_Fig_leastKept_3 kc ks loc (st) h = wps rm K Q c_Fig_leastKept_6 kc ks loc (.int (2000) :: st) h := rfl
theorem s_Fig_leastKept_6 {x y : Int32} : wps rm K Q c_Fig_leastKept_6 kc ks loc (.int y :: .int x :: st) h = ((y ≤ x → K 25 kc ks loc st h) ∧ (¬ y ≤ x → wps rm K Q c_Fig_leastKept_9 kc ks loc (st) h)) := rfl
theorem s_Fig_leastKept_9 {x : Nat} {l : eg_Lo} : wps rm K Q c_Fig_leastKept_9 kc ks (some (.ref x) :: l) (st) h = wps rm K Q c_Fig_leastKept_10 kc ks (some (.ref x) :: l) (.ref x :: st) h := rfl
theorem s_Fig_leastKept_10 {x : Int32} {l0 : Option Value} {l : eg_Lo} : wps rm K Q c_Fig_leastKept_10 kc ks (l0 :: some (.int x) :: l) (st) h = wps rm K Q c_Fig_leastKept_11 kc ks (l0 :: some (.int x) :: l) (.int x :: st) h := rfl
theorem s_Fig_leastKept_11  {a1 : Value} {x : Nat} : wps rm K Q c_Fig_leastKept_11 kc ks loc (a1 :: .ref (x + 1) :: st) h = (eg_cls h x 2 ∧ st.length ≤ 4 ∧ eg_Cs n_Fig_keeps (.ref (x + 1) :: [a1]) h (fun v h9 => wps rm K Q c_Fig_leastKept_14 kc ks loc (v.toList ++ st) h9)) := eg_c1_1
theorem s_Fig_leastKept_14 {x : Int32} : wps rm K Q c_Fig_leastKept_14 kc ks loc (.int x :: st) h = ((x = 0 → K 19 kc ks loc st h) ∧ (¬ x = 0 → wps rm K Q c_Fig_leastKept_17 kc ks loc (st) h)) := rfl
theorem s_Fig_leastKept_17 {x : Int32} {l0 : Option Value} {l : eg_Lo} : wps rm K Q c_Fig_leastKept_17 kc ks (l0 :: some (.int x) :: l) (st) h = wps rm K Q c_Fig_leastKept_18 kc ks (l0 :: some (.int x) :: l) (.int x :: st) h := rfl
theorem s_Fig_leastKept_18 {x : Int32} : wps rm K Q c_Fig_leastKept_18 kc ks loc ([.int x]) h = (kc = rm.cells ∧ (0 = 1 → x = 0 ∨ x = 1) ∧ Q (some (.int x)) h) := rfl
theorem s_Fig_leastKept_19 {x : Int32} {l0 : Option Value} {l9 : eg_Lo} : wps rm K Q c_Fig_leastKept_19 kc ks (l0 :: some (.int x) :: l9) (st) h = wps rm K Q c_Fig_leastKept_22 kc ks (eg_set1 (l0 :: some (.int x) :: l9) 1 (.int (x + (1)))) (st) h := rfl
theorem s_Fig_leastKept_22  : wps rm K Q c_Fig_leastKept_22 kc ks loc (st) h = K 2 kc ks loc st h := rfl
theorem s_Fig_leastKept_25  : wps rm K Q c_Fig_leastKept_25 kc ks loc (st) h = wps rm K Q c_Fig_leastKept_28 kc ks loc (.int (2000) :: st) h := rfl
theorem s_Fig_leastKept_28 {x : Int32} : wps rm K Q c_Fig_leastKept_28 kc ks loc ([.int x]) h = (kc = rm.cells ∧ (0 = 1 → x = 0 ∨ x = 1) ∧ Q (some (.int x)) h) := rfl
def T_Fig_leastKept : List (Nat × List eg_I) := [(19, c_Fig_leastKept_19), (25, c_Fig_leastKept_25)]
theorem j_Fig_leastKept_19 {R : Nat → Nat → Nat → eg_Lo → List Value → List eg_E → Prop} {f pc0 : Nat} : eg_run rm R Q T_Fig_leastKept (f + 1) 19 kc ks loc st h = wps rm (eg_run rm R Q T_Fig_leastKept f) Q c_Fig_leastKept_19 kc ks loc st h := rfl
theorem j_Fig_leastKept_25 {R : Nat → Nat → Nat → eg_Lo → List Value → List eg_E → Prop} {f pc0 : Nat} : eg_run rm R Q T_Fig_leastKept (f + 1) 25 kc ks loc st h = wps rm (eg_run rm R Q T_Fig_leastKept f) Q c_Fig_leastKept_25 kc ks loc st h := rfl
theorem j_Fig_leastKept_2 {R : Nat → Nat → Nat → eg_Lo → List Value → List eg_E → Prop} {f pc0 : Nat} : eg_run rm R Q T_Fig_leastKept (f + 1) 2 kc ks loc st h = R 2 kc ks loc st h := rfl
end
theorem q_Fig_leastKept : (T_Fig_leastKept.all fun q => eg_seq m_Fig_leastKept q.1 q.2) = true := by decide +kernel
theorem b_Fig_leastKept {as : List Value} {h : List eg_E} {Q : Option Value → List eg_E → Prop} (hf : (eg_fl as).length ≤ 2) (hw : wps (eg_rm m_Fig_leastKept) (eg_run (eg_rm m_Fig_leastKept) (eg_R m_Fig_leastKept Q (h.length + 0)) Q T_Fig_leastKept 4) Q c_Fig_leastKept_0 0 0 (eg_entry 2 as) [] h) : eg_Runs n_Fig_leastKept as h Q := eg_begin (d := m_Fig_leastKept) rfl (by decide) (by decide +kernel) q_Fig_leastKept hf hw
theorem p_Fig_leastKept_2 {Q : Option Value → List eg_E → Prop} {n0 kc ks : Nat} {loc : eg_Lo} {st : List Value} {h : List eg_E} (hw : wps (eg_rm m_Fig_leastKept) (eg_run (eg_rm m_Fig_leastKept) (eg_R m_Fig_leastKept Q n0) Q T_Fig_leastKept 4) Q c_Fig_leastKept_2 kc ks loc st h) : eg_R m_Fig_leastKept Q n0 2 kc ks loc st h := eg_go (by decide +kernel) q_Fig_leastKept hw
/-! ===== Fig_setDirection ===== -/
def c_Fig_setDirection_79 : List eg_I := .inl (79, 1, .return_, 0, 0) :: []
def c_Fig_setDirection_76 : List eg_I := .inr (76, 0, 51, n_Frac_lower, 2, 4, 0, 0) :: c_Fig_setDirection_79
def c_Fig_setDirection_75 : List eg_I := .inl (75, 1, .iconst (0), 0, 0) :: c_Fig_setDirection_76
def c_Fig_setDirection_72 : List eg_I := .inl (72, 3, .getfield 15, 2, 1) :: c_Fig_setDirection_75
def c_Fig_setDirection_71 : List eg_I := .inl (71, 1, .aload 0, 0, 0) :: c_Fig_setDirection_72
def c_Fig_setDirection_70 : List eg_I := .inl (70, 1, .lastore, 0, 0) :: c_Fig_setDirection_71
def c_Fig_setDirection_69 : List eg_I := .inl (69, 1, .lmul, 0, 0) :: c_Fig_setDirection_70
def c_Fig_setDirection_67 : List eg_I := .inl (67, 2, .lload 5, 0, 0) :: c_Fig_setDirection_69
def c_Fig_setDirection_65 : List eg_I := .inl (65, 2, .lload 7, 0, 0) :: c_Fig_setDirection_67
def c_Fig_setDirection_64 : List eg_I := .inl (64, 1, .iconst (2), 0, 0) :: c_Fig_setDirection_65
def c_Fig_setDirection_61 : List eg_I := .inl (61, 3, .getfield 15, 2, 1) :: c_Fig_setDirection_64
def c_Fig_setDirection_60 : List eg_I := .inl (60, 1, .aload 0, 0, 0) :: c_Fig_setDirection_61
def c_Fig_setDirection_59 : List eg_I := .inl (59, 1, .lastore, 0, 0) :: c_Fig_setDirection_60
def c_Fig_setDirection_58 : List eg_I := .inl (58, 1, .lmul, 0, 0) :: c_Fig_setDirection_59
def c_Fig_setDirection_57 : List eg_I := .inl (57, 1, .lload 3, 0, 0) :: c_Fig_setDirection_58
def c_Fig_setDirection_55 : List eg_I := .inl (55, 2, .lload 7, 0, 0) :: c_Fig_setDirection_57
def c_Fig_setDirection_54 : List eg_I := .inl (54, 1, .iconst (1), 0, 0) :: c_Fig_setDirection_55
def c_Fig_setDirection_51 : List eg_I := .inl (51, 3, .getfield 15, 2, 1) :: c_Fig_setDirection_54
def c_Fig_setDirection_50 : List eg_I := .inl (50, 1, .aload 0, 0, 0) :: c_Fig_setDirection_51
def c_Fig_setDirection_49 : List eg_I := .inl (49, 1, .lastore, 0, 0) :: c_Fig_setDirection_50
def c_Fig_setDirection_48 : List eg_I := .inl (48, 1, .lmul, 0, 0) :: c_Fig_setDirection_49
def c_Fig_setDirection_47 : List eg_I := .inl (47, 1, .lload 1, 0, 0) :: c_Fig_setDirection_48
def c_Fig_setDirection_45 : List eg_I := .inl (45, 2, .lload 7, 0, 0) :: c_Fig_setDirection_47
def c_Fig_setDirection_44 : List eg_I := .inl (44, 1, .iconst (0), 0, 0) :: c_Fig_setDirection_45
def c_Fig_setDirection_41 : List eg_I := .inl (41, 3, .getfield 15, 2, 1) :: c_Fig_setDirection_44
def c_Fig_setDirection_40 : List eg_I := .inl (40, 1, .aload 0, 0, 0) :: c_Fig_setDirection_41
def c_Fig_setDirection_38 : List eg_I := .inl (38, 2, .lstore 7, 0, 0) :: c_Fig_setDirection_40
def c_Fig_setDirection_37 : List eg_I := .inl (37, 1, .sipush (1), 0, 0) :: c_Fig_setDirection_38
def c_Fig_setDirection_34 : List eg_I := .inl (34, 3, .goto (4), 38, 0) :: []
def c_Fig_setDirection_31 : List eg_I := .inl (31, 3, .sipush (-1), 49, 0) :: c_Fig_setDirection_34
def c_Fig_setDirection_28 : List eg_I := .inl (28, 3, .ifCond .ge (9), 37, 0) :: c_Fig_setDirection_31
def c_Fig_setDirection_27 : List eg_I := .inl (27, 1, .lcmp, 0, 0) :: c_Fig_setDirection_28
def c_Fig_setDirection_26 : List eg_I := .inl (26, 1, .sipush (0), 0, 0) :: c_Fig_setDirection_27
def c_Fig_setDirection_24 : List eg_I := .inl (24, 2, .lload 5, 0, 0) :: c_Fig_setDirection_26
def c_Fig_setDirection_21 : List eg_I := .inl (21, 3, .ifCond .ne (16), 37, 0) :: c_Fig_setDirection_24
def c_Fig_setDirection_20 : List eg_I := .inl (20, 1, .lcmp, 0, 0) :: c_Fig_setDirection_21
def c_Fig_setDirection_19 : List eg_I := .inl (19, 1, .sipush (0), 0, 0) :: c_Fig_setDirection_20
def c_Fig_setDirection_18 : List eg_I := .inl (18, 1, .lload 3, 0, 0) :: c_Fig_setDirection_19
def c_Fig_setDirection_15 : List eg_I := .inl (15, 3, .ifCond .lt (16), 31, 0) :: c_Fig_setDirection_18
def c_Fig_setDirection_14 : List eg_I := .inl (14, 1, .lcmp, 0, 0) :: c_Fig_setDirection_15
def c_Fig_setDirection_13 : List eg_I := .inl (13, 1, .sipush (0), 0, 0) :: c_Fig_setDirection_14
def c_Fig_setDirection_12 : List eg_I := .inl (12, 1, .lload 3, 0, 0) :: c_Fig_setDirection_13
def c_Fig_setDirection_9 : List eg_I := .inl (9, 3, .ifCond .ne (28), 37, 0) :: c_Fig_setDirection_12
def c_Fig_setDirection_8 : List eg_I := .inl (8, 1, .lcmp, 0, 0) :: c_Fig_setDirection_9
def c_Fig_setDirection_7 : List eg_I := .inl (7, 1, .sipush (0), 0, 0) :: c_Fig_setDirection_8
def c_Fig_setDirection_6 : List eg_I := .inl (6, 1, .lload 1, 0, 0) :: c_Fig_setDirection_7
def c_Fig_setDirection_3 : List eg_I := .inl (3, 3, .ifCond .lt (28), 31, 0) :: c_Fig_setDirection_6
def c_Fig_setDirection_2 : List eg_I := .inl (2, 1, .lcmp, 0, 0) :: c_Fig_setDirection_3
def c_Fig_setDirection_1 : List eg_I := .inl (1, 1, .sipush (0), 0, 0) :: c_Fig_setDirection_2
def c_Fig_setDirection_0 : List eg_I := .inl (0, 1, .lload 1, 0, 0) :: c_Fig_setDirection_1
section
variable {rm : Room} {K : Nat → Nat → Nat → eg_Lo → List Value → List eg_E → Prop} {Q : Option Value → List eg_E → Prop} {kc ks : Nat} {loc : eg_Lo} {st : List Value} {h : List eg_E}
theorem s_Fig_setDirection_0 {x : Int64} {l0 : Option Value} {l : eg_Lo} : wps rm K Q c_Fig_setDirection_0 kc ks (l0 :: some (.long x) :: l) (st) h = wps rm K Q c_Fig_setDirection_1 kc ks (l0 :: some (.long x) :: l) (.long x :: st) h := rfl
theorem s_Fig_setDirection_1  : wps rm K Q c_Fig_setDirection_1 kc ks loc (st) h = wps rm K Q c_Fig_setDirection_2 kc ks loc (.long (0) :: st) h := rfl
theorem s_Fig_setDirection_2 {x y : Int64} : wps rm K Q c_Fig_setDirection_2 kc ks loc (.long y :: .long x :: st) h = wps rm K Q c_Fig_setDirection_3 kc ks loc (.int (lg_cmp x y) :: st) h := rfl
theorem s_Fig_setDirection_3 {x : Int32} : wps rm K Q c_Fig_setDirection_3 kc ks loc (.int x :: st) h = ((x < 0 → K 31 kc ks loc st h) ∧ (¬ x < 0 → wps rm K Q c_Fig_setDirection_6 kc ks loc (st) h)) := rfl
theorem s_Fig_setDirection_6 {x : Int64} {l0 : Option Value} {l : eg_Lo} : wps rm K Q c_Fig_setDirection_6 kc ks (l0 :: some (.long x) :: l) (st) h = wps rm K Q c_Fig_setDirection_7 kc ks (l0 :: some (.long x) :: l) (.long x :: st) h := rfl
theorem s_Fig_setDirection_7  : wps rm K Q c_Fig_setDirection_7 kc ks loc (st) h = wps rm K Q c_Fig_setDirection_8 kc ks loc (.long (0) :: st) h := rfl
theorem s_Fig_setDirection_8 {x y : Int64} : wps rm K Q c_Fig_setDirection_8 kc ks loc (.long y :: .long x :: st) h = wps rm K Q c_Fig_setDirection_9 kc ks loc (.int (lg_cmp x y) :: st) h := rfl
theorem s_Fig_setDirection_9 {x : Int32} : wps rm K Q c_Fig_setDirection_9 kc ks loc (.int x :: st) h = ((¬ x = 0 → K 37 kc ks loc st h) ∧ (x = 0 → wps rm K Q c_Fig_setDirection_12 kc ks loc (st) h)) := rfl
theorem s_Fig_setDirection_12 {x : Int64} {l0 l1 l2 : Option Value} {l : eg_Lo} : wps rm K Q c_Fig_setDirection_12 kc ks (l0 :: l1 :: l2 :: some (.long x) :: l) (st) h = wps rm K Q c_Fig_setDirection_13 kc ks (l0 :: l1 :: l2 :: some (.long x) :: l) (.long x :: st) h := rfl
theorem s_Fig_setDirection_13  : wps rm K Q c_Fig_setDirection_13 kc ks loc (st) h = wps rm K Q c_Fig_setDirection_14 kc ks loc (.long (0) :: st) h := rfl
theorem s_Fig_setDirection_14 {x y : Int64} : wps rm K Q c_Fig_setDirection_14 kc ks loc (.long y :: .long x :: st) h = wps rm K Q c_Fig_setDirection_15 kc ks loc (.int (lg_cmp x y) :: st) h := rfl
theorem s_Fig_setDirection_15 {x : Int32} : wps rm K Q c_Fig_setDirection_15 kc ks loc (.int x :: st) h = ((x < 0 → K 31 kc ks loc st h) ∧ (¬ x < 0 → wps rm K Q c_Fig_setDirection_18 kc ks loc (st) h)) := rfl
theorem s_Fig_setDirection_18 {x : Int64} {l0 l1 l2 : Option Value} {l : eg_Lo} : wps rm K Q c_Fig_setDirection_18 kc ks (l0 :: l1 :: l2 :: some (.long x) :: l) (st) h = wps rm K Q c_Fig_setDirection_19 kc ks (l0 :: l1 :: l2 :: some (.long x) :: l) (.long x :: st) h := rfl
theorem s_Fig_setDirection_19  : wps rm K Q c_Fig_setDirection_19 kc ks loc (st) h = wps rm K Q c_Fig_setDirection_20 kc ks loc (.long (0) :: st) h := rfl
theorem s_Fig_setDirection_20 {x y : Int64} : wps rm K Q c_Fig_setDirection_20 kc ks loc (.long y :: .long x :: st) h = wps rm K Q c_Fig_setDirection_21 kc ks loc (.int (lg_cmp x y) :: st) h := rfl
theorem s_Fig_setDirection_21 {x : Int32} : wps rm K Q c_Fig_setDirection_21 kc ks loc (.int x :: st) h = ((¬ x = 0 → K 37 kc ks loc st h) ∧ (x = 0 → wps rm K Q c_Fig_setDirection_24 kc ks loc (st) h)) := rfl
theorem s_Fig_setDirection_24 {x : Int64} {l0 l1 l2 l3 l4 : Option Value} {l : eg_Lo} : wps rm K Q c_Fig_setDirection_24 kc ks (l0 :: l1 :: l2 :: l3 :: l4 :: some (.long x) :: l) (st) h = wps rm K Q c_Fig_setDirection_26 kc ks (l0 :: l1 :: l2 :: l3 :: l4 :: some (.long x) :: l) (.long x :: st) h := rfl
theorem s_Fig_setDirection_26  : wps rm K Q c_Fig_setDirection_26 kc ks loc (st) h = wps rm K Q c_Fig_setDirection_27 kc ks loc (.long (0) :: st) h := rfl
theorem s_Fig_setDirection_27 {x y : Int64} : wps rm K Q c_Fig_setDirection_27 kc ks loc (.long y :: .long x :: st) h = wps rm K Q c_Fig_setDirection_28 kc ks loc (.int (lg_cmp x y) :: st) h := rfl
theorem s_Fig_setDirection_28 {x : Int32} : wps rm K Q c_Fig_setDirection_28 kc ks loc (.int x :: st) h = ((0 ≤ x → K 37 kc ks loc st h) ∧ (¬ 0 ≤ x → wps rm K Q c_Fig_setDirection_31 kc ks loc (st) h)) := rfl
theorem s_Fig_setDirection_31  : wps rm K Q c_Fig_setDirection_31 kc ks loc (st) h = wps rm K Q c_Fig_setDirection_34 kc ks loc (.long (-1) :: st) h := rfl
theorem s_Fig_setDirection_34  : wps rm K Q c_Fig_setDirection_34 kc ks loc (st) h = K 38 kc ks loc st h := rfl
theorem s_Fig_setDirection_37  : wps rm K Q c_Fig_setDirection_37 kc ks loc (st) h = wps rm K Q c_Fig_setDirection_38 kc ks loc (.long (1) :: st) h := rfl
theorem s_Fig_setDirection_38 {x : Int64} : wps rm K Q c_Fig_setDirection_38 kc ks loc (.long x :: st) h = wps rm K Q c_Fig_setDirection_40 kc ks (eg_set2 loc 7 (.long x)) (st) h := rfl
theorem s_Fig_setDirection_40 {x : Nat} {l : eg_Lo} : wps rm K Q c_Fig_setDirection_40 kc ks (some (.ref x) :: l) (st) h = wps rm K Q c_Fig_setDirection_41 kc ks (some (.ref x) :: l) (.ref x :: st) h := rfl
theorem s_Fig_setDirection_41 {x : Nat} : wps rm K Q c_Fig_setDirection_41 kc ks loc (.ref (x + 1) :: st) h = eg_gf h x 2 1 (fun v => wps rm K Q c_Fig_setDirection_44 kc ks loc (v :: st) h) := rfl
theorem s_Fig_setDirection_44  : wps rm K Q c_Fig_setDirection_44 kc ks loc (st) h = wps rm K Q c_Fig_setDirection_45 kc ks loc (.int (0) :: st) h := rfl
theorem s_Fig_setDirection_45 {x : Int64} {l0 l1 l2 l3 l4 l5 l6 : Option Value} {l : eg_Lo} : wps rm K Q c_Fig_setDirection_45 kc ks (l0 :: l1 :: l2 :: l3 :: l4 :: l5 :: l6 :: some (.long x) :: l) (st) h = wps rm K Q c_Fig_setDirection_47 kc ks (l0 :: l1 :: l2 :: l3 :: l4 :: l5 :: l6 :: some (.long x) :: l) (.long x :: st) h := rfl
theorem s_Fig_setDirection_47 {x : Int64} {l0 : Option Value} {l : eg_Lo} : wps rm K Q c_Fig_setDirection_47 kc ks (l0 :: some (.long x) :: l) (st) h = wps rm K Q c_Fig_setDirection_48 kc ks (l0 :: some (.long x) :: l) (.long x :: st) h := rfl
theorem s_Fig_setDirection_48 {x y : Int64} : wps rm K Q c_Fig_setDirection_48 kc ks loc (.long y :: .long x :: st) h = wps rm K Q c_Fig_setDirection_49 kc ks loc (.long (x * y) :: st) h := rfl
theorem s_Fig_setDirection_49 {x : Nat} {i : Int32} {v : Int64} : wps rm K Q c_Fig_setDirection_49 kc ks loc (.long v :: .int i :: .ref (x + 1) :: st) h = eg_lst h x i v (fun h9 => wps rm K Q c_Fig_setDirection_50 kc ks loc (st) h9) := rfl
theorem s_Fig_setDirection_50 {x : Nat} {l : eg_Lo} : wps rm K Q c_Fig_setDirection_50 kc ks (some (.ref x) :: l) (st) h = wps rm K Q c_Fig_setDirection_51 kc ks (some (.ref x) :: l) (.ref x :: st) h := rfl
theorem s_Fig_setDirection_51 {x : Nat} : wps rm K Q c_Fig_setDirection_51 kc ks loc (.ref (x + 1) :: st) h = eg_gf h x 2 1 (fun v => wps rm K Q c_Fig_setDirection_54 kc ks loc (v :: st) h) := rfl
theorem s_Fig_setDirection_54  : wps rm K Q c_Fig_setDirection_54 kc ks loc (st) h = wps rm K Q c_Fig_setDirection_55 kc ks loc (.int (1) :: st) h := rfl
theorem s_Fig_setDirection_55 {x : Int64} {l0 l1 l2 l3 l4 l5 l6 : Option Value} {l : eg_Lo} : wps rm K Q c_Fig_setDirection_55 kc ks (l0 :: l1 :: l2 :: l3 :: l4 :: l5 :: l6 :: some (.long x) :: l) (st) h = wps rm K Q c_Fig_setDirection_57 kc ks (l0 :: l1 :: l2 :: l3 :: l4 :: l5 :: l6 :: some (.long x) :: l) (.long x :: st) h := rfl
theorem s_Fig_setDirection_57 {x : Int64} {l0 l1 l2 : Option Value} {l : eg_Lo} : wps rm K Q c_Fig_setDirection_57 kc ks (l0 :: l1 :: l2 :: some (.long x) :: l) (st) h = wps rm K Q c_Fig_setDirection_58 kc ks (l0 :: l1 :: l2 :: some (.long x) :: l) (.long x :: st) h := rfl
theorem s_Fig_setDirection_58 {x y : Int64} : wps rm K Q c_Fig_setDirection_58 kc ks loc (.long y :: .long x :: st) h = wps rm K Q c_Fig_setDirection_59 kc ks loc (.long (x * y) :: st) h := rfl
theorem s_Fig_setDirection_59 {x : Nat} {i : Int32} {v : Int64} : wps rm K Q c_Fig_setDirection_59 kc ks loc (.long v :: .int i :: .ref (x + 1) :: st) h = eg_lst h x i v (fun h9 => wps rm K Q c_Fig_setDirection_60 kc ks loc (st) h9) := rfl
theorem s_Fig_setDirection_60 {x : Nat} {l : eg_Lo} : wps rm K Q c_Fig_setDirection_60 kc ks (some (.ref x) :: l) (st) h = wps rm K Q c_Fig_setDirection_61 kc ks (some (.ref x) :: l) (.ref x :: st) h := rfl
theorem s_Fig_setDirection_61 {x : Nat} : wps rm K Q c_Fig_setDirection_61 kc ks loc (.ref (x + 1) :: st) h = eg_gf h x 2 1 (fun v => wps rm K Q c_Fig_setDirection_64 kc ks loc (v :: st) h) := rfl
theorem s_Fig_setDirection_64  : wps rm K Q c_Fig_setDirection_64 kc ks loc (st) h = wps rm K Q c_Fig_setDirection_65 kc ks loc (.int (2) :: st) h := rfl
theorem s_Fig_setDirection_65 {x : Int64} {l0 l1 l2 l3 l4 l5 l6 : Option Value} {l : eg_Lo} : wps rm K Q c_Fig_setDirection_65 kc ks (l0 :: l1 :: l2 :: l3 :: l4 :: l5 :: l6 :: some (.long x) :: l) (st) h = wps rm K Q c_Fig_setDirection_67 kc ks (l0 :: l1 :: l2 :: l3 :: l4 :: l5 :: l6 :: some (.long x) :: l) (.long x :: st) h := rfl
theorem s_Fig_setDirection_67 {x : Int64} {l0 l1 l2 l3 l4 : Option Value} {l : eg_Lo} : wps rm K Q c_Fig_setDirection_67 kc ks (l0 :: l1 :: l2 :: l3 :: l4 :: some (.long x) :: l) (st) h = wps rm K Q c_Fig_setDirection_69 kc ks (l0 :: l1 :: l2 :: l3 :: l4 :: some (.long x) :: l) (.long x :: st) h := rfl
theorem s_Fig_setDirection_69 {x y : Int64} : wps rm K Q c_Fig_setDirection_69 kc ks loc (.long y :: .long x :: st) h = wps rm K Q c_Fig_setDirection_70 kc ks loc (.long (x * y) :: st) h := rfl
theorem s_Fig_setDirection_70 {x : Nat} {i : Int32} {v : Int64} : wps rm K Q c_Fig_setDirection_70 kc ks loc (.long v :: .int i :: .ref (x + 1) :: st) h = eg_lst h x i v (fun h9 => wps rm K Q c_Fig_setDirection_71 kc ks loc (st) h9) := rfl
theorem s_Fig_setDirection_71 {x : Nat} {l : eg_Lo} : wps rm K Q c_Fig_setDirection_71 kc ks (some (.ref x) :: l) (st) h = wps rm K Q c_Fig_setDirection_72 kc ks (some (.ref x) :: l) (.ref x :: st) h := rfl
theorem s_Fig_setDirection_72 {x : Nat} : wps rm K Q c_Fig_setDirection_72 kc ks loc (.ref (x + 1) :: st) h = eg_gf h x 2 1 (fun v => wps rm K Q c_Fig_setDirection_75 kc ks loc (v :: st) h) := rfl
theorem s_Fig_setDirection_75  : wps rm K Q c_Fig_setDirection_75 kc ks loc (st) h = wps rm K Q c_Fig_setDirection_76 kc ks loc (.int (0) :: st) h := rfl
theorem s_Fig_setDirection_76  {a1 : Value} {a2 : Value} : wps rm K Q c_Fig_setDirection_76 kc ks loc (a2 :: a1 :: st) h = (st.length ≤ 4 ∧ eg_Cs n_Frac_lower [a1, a2] h (fun v h9 => wps rm K Q c_Fig_setDirection_79 kc ks loc (v.toList ++ st) h9)) := eg_c0_2
theorem s_Fig_setDirection_79  : wps rm K Q c_Fig_setDirection_79 kc ks loc ([]) h = (kc = rm.cells ∧ Q none h) := rfl
def T_Fig_setDirection : List (Nat × List eg_I) := [(31, c_Fig_setDirection_31), (37, c_Fig_setDirection_37), (38, c_Fig_setDirection_38)]
theorem j_Fig_setDirection_31 {R : Nat → Nat → Nat → eg_Lo → List Value → List eg_E → Prop} {f pc0 : Nat} : eg_run rm R Q T_Fig_setDirection (f + 1) 31 kc ks loc st h = wps rm (eg_run rm R Q T_Fig_setDirection f) Q c_Fig_setDirection_31 kc ks loc st h := rfl
theorem j_Fig_setDirection_37 {R : Nat → Nat → Nat → eg_Lo → List Value → List eg_E → Prop} {f pc0 : Nat} : eg_run rm R Q T_Fig_setDirection (f + 1) 37 kc ks loc st h = wps rm (eg_run rm R Q T_Fig_setDirection f) Q c_Fig_setDirection_37 kc ks loc st h := rfl
theorem j_Fig_setDirection_38 {R : Nat → Nat → Nat → eg_Lo → List Value → List eg_E → Prop} {f pc0 : Nat} : eg_run rm R Q T_Fig_setDirection (f + 1) 38 kc ks loc st h = wps rm (eg_run rm R Q T_Fig_setDirection f) Q c_Fig_setDirection_38 kc ks loc st h := rfl
end
theorem q_Fig_setDirection : (T_Fig_setDirection.all fun q => eg_seq m_Fig_setDirection q.1 q.2) = true := by decide +kernel
theorem b_Fig_setDirection {as : List Value} {h : List eg_E} {Q : Option Value → List eg_E → Prop} (hf : (eg_fl as).length ≤ 9) (hw : wps (eg_rm m_Fig_setDirection) (eg_run (eg_rm m_Fig_setDirection) (eg_R m_Fig_setDirection Q (h.length + 0)) Q T_Fig_setDirection 5) Q c_Fig_setDirection_0 0 0 (eg_entry 9 as) [] h) : eg_Runs n_Fig_setDirection as h Q := eg_begin (d := m_Fig_setDirection) rfl (by decide) (by decide +kernel) q_Fig_setDirection hf hw
/-! ===== Flat_init ===== -/
def c_Flat_init_37 : List eg_I := .inl (37, 1, .return_, 0, 0) :: []
def c_Flat_init_34 : List eg_I := .inl (34, 3, .putfield 25, 3, 3) :: c_Flat_init_37
def c_Flat_init_32 : List eg_I := .inl (32, 2, .newarray .int, 0, 0) :: c_Flat_init_34
def c_Flat_init_30 : List eg_I := .inl (30, 2, .iconst (6), 0, 0) :: c_Flat_init_32
def c_Flat_init_29 : List eg_I := .inl (29, 1, .aload 0, 0, 0) :: c_Flat_init_30
def c_Flat_init_26 : List eg_I := .inl (26, 3, .putfield 22, 3, 2) :: c_Flat_init_29
def c_Flat_init_24 : List eg_I := .inl (24, 2, .newarray .long, 1, 0) :: c_Flat_init_26
def c_Flat_init_23 : List eg_I := .inl (23, 1, .iconst (3), 0, 0) :: c_Flat_init_24
def c_Flat_init_22 : List eg_I := .inl (22, 1, .aload 0, 0, 0) :: c_Flat_init_23
def c_Flat_init_19 : List eg_I := .inl (19, 3, .putfield 18, 3, 1) :: c_Flat_init_22
def c_Flat_init_17 : List eg_I := .inl (17, 2, .newarray .long, 1, 0) :: c_Flat_init_19
def c_Flat_init_16 : List eg_I := .inl (16, 1, .iconst (3), 0, 0) :: c_Flat_init_17
def c_Flat_init_15 : List eg_I := .inl (15, 1, .aload 0, 0, 0) :: c_Flat_init_16
def c_Flat_init_12 : List eg_I := .inl (12, 3, .putfield 12, 3, 0) :: c_Flat_init_15
def c_Flat_init_9 : List eg_I := .inr (9, 3, 11, n_Tou_init, 0, 10, 4, 64) :: c_Flat_init_12
def c_Flat_init_8 : List eg_I := .inl (8, 1, .dup, 0, 0) :: c_Flat_init_9
def c_Flat_init_5 : List eg_I := .inl (5, 3, .new 9, 10, 5) :: c_Flat_init_8
def c_Flat_init_4 : List eg_I := .inl (4, 1, .aload 0, 0, 0) :: c_Flat_init_5
def c_Flat_init_1 : List eg_I := .inl (1, 3, .athrow, 3, 0) :: c_Flat_init_4
def c_Flat_init_0 : List eg_I := .inl (0, 1, .aload 0, 0, 0) :: c_Flat_init_1
section
variable {rm : Room} {K : Nat → Nat → Nat → eg_Lo → List Value → List eg_E → Prop} {Q : Option Value → List eg_E → Prop} {kc ks : Nat} {loc : eg_Lo} {st : List Value} {h : List eg_E}
theorem s_Flat_init_0 {x : Nat} {l : eg_Lo} : wps rm K Q c_Flat_init_0 kc ks (some (.ref x) :: l) (st) h = wps rm K Q c_Flat_init_1 kc ks (some (.ref x) :: l) (.ref x :: st) h := rfl
theorem s_Flat_init_1 {x : Nat} : wps rm K Q c_Flat_init_1 kc ks loc (.ref (x + 1) :: st) h = (st.length ≤ 4 ∧ wps rm K Q c_Flat_init_4 kc ks loc (st) h) := rfl
theorem s_Flat_init_4 {x : Nat} {l : eg_Lo} : wps rm K Q c_Flat_init_4 kc ks (some (.ref x) :: l) (st) h = wps rm K Q c_Flat_init_5 kc ks (some (.ref x) :: l) (.ref x :: st) h := rfl
theorem s_Flat_init_5  : wps rm K Q c_Flat_init_5 kc ks loc (st) h = (kc + 1 ≤ rm.cells ∧ ks + 5 ≤ rm.slots ∧ wps rm K Q c_Flat_init_8 (kc + 1) (ks + 5) loc (.ref (h.length + 1) :: st) (h ++ [.inr (10, eg_df 10)])) := rfl
theorem s_Flat_init_8 {x : Nat} : wps rm K Q c_Flat_init_8 kc ks loc (.ref x :: st) h = wps rm K Q c_Flat_init_9 kc ks loc (.ref x :: .ref x :: st) h := rfl
theorem s_Flat_init_9  {x : Nat} : wps rm K Q c_Flat_init_9 kc ks loc (.ref (x + 1) :: st) h = (st.length ≤ 4 ∧ kc + 4 ≤ rm.cells ∧ ks + 64 ≤ rm.slots ∧ eg_Cs n_Tou_init [.ref (x + 1)] h (fun v h9 => wps rm K Q c_Flat_init_12 (kc + 4) (ks + 64) loc (v.toList ++ st) h9)) := eg_c3_0
theorem s_Flat_init_12 {x : Nat} {v : Value} : wps rm K Q c_Flat_init_12 kc ks loc (v :: .ref (x + 1) :: st) h = eg_pf h x 3 0 v (fun h9 => wps rm K Q c_Flat_init_15 kc ks loc (st) h9) := rfl
theorem s_Flat_init_15 {x : Nat} {l : eg_Lo} : wps rm K Q c_Flat_init_15 kc ks (some (.ref x) :: l) (st) h = wps rm K Q c_Flat_init_16 kc ks (some (.ref x) :: l) (.ref x :: st) h := rfl
theorem s_Flat_init_16  : wps rm K Q c_Flat_init_16 kc ks loc (st) h = wps rm K Q c_Flat_init_17 kc ks loc (.int (3) :: st) h := rfl
theorem s_Flat_init_17 {x : Int32} : wps rm K Q c_Flat_init_17 kc ks loc (.int x :: st) h = (¬ x < 0 ∧ x.toNatClampNeg ≤ 1000 ∧ kc + 1 ≤ rm.cells ∧ ks + x.toNatClampNeg ≤ rm.slots ∧ wps rm K Q c_Flat_init_19 (kc + 1) (ks + x.toNatClampNeg) loc (.ref (h.length + 1) :: st) (h ++ [.inl (1, eg_zero 1 x.toNatClampNeg)])) := rfl
theorem s_Flat_init_19 {x : Nat} {v : Value} : wps rm K Q c_Flat_init_19 kc ks loc (v :: .ref (x + 1) :: st) h = eg_pf h x 3 1 v (fun h9 => wps rm K Q c_Flat_init_22 kc ks loc (st) h9) := rfl
theorem s_Flat_init_22 {x : Nat} {l : eg_Lo} : wps rm K Q c_Flat_init_22 kc ks (some (.ref x) :: l) (st) h = wps rm K Q c_Flat_init_23 kc ks (some (.ref x) :: l) (.ref x :: st) h := rfl
theorem s_Flat_init_23  : wps rm K Q c_Flat_init_23 kc ks loc (st) h = wps rm K Q c_Flat_init_24 kc ks loc (.int (3) :: st) h := rfl
theorem s_Flat_init_24 {x : Int32} : wps rm K Q c_Flat_init_24 kc ks loc (.int x :: st) h = (¬ x < 0 ∧ x.toNatClampNeg ≤ 1000 ∧ kc + 1 ≤ rm.cells ∧ ks + x.toNatClampNeg ≤ rm.slots ∧ wps rm K Q c_Flat_init_26 (kc + 1) (ks + x.toNatClampNeg) loc (.ref (h.length + 1) :: st) (h ++ [.inl (1, eg_zero 1 x.toNatClampNeg)])) := rfl
theorem s_Flat_init_26 {x : Nat} {v : Value} : wps rm K Q c_Flat_init_26 kc ks loc (v :: .ref (x + 1) :: st) h = eg_pf h x 3 2 v (fun h9 => wps rm K Q c_Flat_init_29 kc ks loc (st) h9) := rfl
theorem s_Flat_init_29 {x : Nat} {l : eg_Lo} : wps rm K Q c_Flat_init_29 kc ks (some (.ref x) :: l) (st) h = wps rm K Q c_Flat_init_30 kc ks (some (.ref x) :: l) (.ref x :: st) h := rfl
theorem s_Flat_init_30  : wps rm K Q c_Flat_init_30 kc ks loc (st) h = wps rm K Q c_Flat_init_32 kc ks loc (.int (6) :: st) h := rfl
theorem s_Flat_init_32 {x : Int32} : wps rm K Q c_Flat_init_32 kc ks loc (.int x :: st) h = (¬ x < 0 ∧ x.toNatClampNeg ≤ 1000 ∧ kc + 1 ≤ rm.cells ∧ ks + x.toNatClampNeg ≤ rm.slots ∧ wps rm K Q c_Flat_init_34 (kc + 1) (ks + x.toNatClampNeg) loc (.ref (h.length + 1) :: st) (h ++ [.inl (0, eg_zero 0 x.toNatClampNeg)])) := rfl
theorem s_Flat_init_34 {x : Nat} {v : Value} : wps rm K Q c_Flat_init_34 kc ks loc (v :: .ref (x + 1) :: st) h = eg_pf h x 3 3 v (fun h9 => wps rm K Q c_Flat_init_37 kc ks loc (st) h9) := rfl
theorem s_Flat_init_37  : wps rm K Q c_Flat_init_37 kc ks loc ([]) h = (kc = rm.cells ∧ Q none h) := rfl
def T_Flat_init : List (Nat × List eg_I) := []
end
theorem q_Flat_init : (T_Flat_init.all fun q => eg_seq m_Flat_init q.1 q.2) = true := by decide +kernel
theorem b_Flat_init {as : List Value} {h : List eg_E} {Q : Option Value → List eg_E → Prop} (hf : (eg_fl as).length ≤ 1) (hw : wps (eg_rm m_Flat_init) (eg_run (eg_rm m_Flat_init) (eg_R m_Flat_init Q (h.length + 8)) Q T_Flat_init 2) Q c_Flat_init_0 0 0 (eg_entry 1 as) [] h) : eg_Runs n_Flat_init as h Q := eg_begin (d := m_Flat_init) rfl (by decide) (by decide +kernel) q_Flat_init hf hw
/-! ===== Flat_fitLine ===== -/
def c_Flat_fitLine_160 : List eg_I := .inl (160, 1, .ireturn, 0, 1) :: []
def c_Flat_fitLine_157 : List eg_I := .inl (157, 3, .getfield 51, 3, 4) :: c_Flat_fitLine_160
def c_Flat_fitLine_156 : List eg_I := .inl (156, 1, .aload 0, 0, 0) :: c_Flat_fitLine_157
def c_Flat_fitLine_153 : List eg_I := .inr (153, 1, 61, n_Flat_finish, 3, 3, 0, 0) :: c_Flat_fitLine_156
def c_Flat_fitLine_152 : List eg_I := .inl (152, 1, .iconst (2), 0, 0) :: c_Flat_fitLine_153
def c_Flat_fitLine_151 : List eg_I := .inl (151, 1, .iconst (2), 0, 0) :: c_Flat_fitLine_152
def c_Flat_fitLine_150 : List eg_I := .inl (150, 1, .aload 2, 0, 0) :: c_Flat_fitLine_151
def c_Flat_fitLine_149 : List eg_I := .inl (149, 1, .aload 0, 0, 0) :: c_Flat_fitLine_150
def c_Flat_fitLine_146 : List eg_I := .inr (146, 1, 55, n_Fig_setDirection, 3, 2, 0, 0) :: c_Flat_fitLine_149
def c_Flat_fitLine_145 : List eg_I := .inl (145, 1, .sipush (0), 0, 0) :: c_Flat_fitLine_146
def c_Flat_fitLine_144 : List eg_I := .inl (144, 1, .lneg, 0, 0) :: c_Flat_fitLine_145
def c_Flat_fitLine_143 : List eg_I := .inl (143, 1, .laload, 0, 0) :: c_Flat_fitLine_144
def c_Flat_fitLine_142 : List eg_I := .inl (142, 1, .iconst (0), 0, 0) :: c_Flat_fitLine_143
def c_Flat_fitLine_139 : List eg_I := .inl (139, 3, .getfield 22, 3, 2) :: c_Flat_fitLine_142
def c_Flat_fitLine_138 : List eg_I := .inl (138, 1, .aload 0, 0, 0) :: c_Flat_fitLine_139
def c_Flat_fitLine_137 : List eg_I := .inl (137, 1, .laload, 0, 0) :: c_Flat_fitLine_138
def c_Flat_fitLine_136 : List eg_I := .inl (136, 1, .iconst (1), 0, 0) :: c_Flat_fitLine_137
def c_Flat_fitLine_133 : List eg_I := .inl (133, 3, .getfield 22, 3, 2) :: c_Flat_fitLine_136
def c_Flat_fitLine_132 : List eg_I := .inl (132, 1, .aload 0, 0, 0) :: c_Flat_fitLine_133
def c_Flat_fitLine_131 : List eg_I := .inl (131, 1, .aload 2, 0, 0) :: c_Flat_fitLine_132
def c_Flat_fitLine_128 : List eg_I := .inl (128, 3, .ifCond .eq (28), 156, 0) :: c_Flat_fitLine_131
def c_Flat_fitLine_125 : List eg_I := .inl (125, 3, .getfield 51, 3, 4) :: c_Flat_fitLine_128
def c_Flat_fitLine_124 : List eg_I := .inl (124, 1, .aload 0, 0, 0) :: c_Flat_fitLine_125
def c_Flat_fitLine_121 : List eg_I := .inl (121, 3, .goto (-114), 7, 0) :: []
def c_Flat_fitLine_118 : List eg_I := .inl (118, 3, .iinc 3 (1), 0, 0) :: c_Flat_fitLine_121
def c_Flat_fitLine_115 : List eg_I := .inl (115, 3, .goto (-92), 23, 0) :: []
def c_Flat_fitLine_112 : List eg_I := .inl (112, 3, .iinc 4 (1), 0, 0) :: c_Flat_fitLine_115
def c_Flat_fitLine_109 : List eg_I := .inr (109, 1, 47, n_Flat_hold, 3, 3, 0, 0) :: c_Flat_fitLine_112
def c_Flat_fitLine_107 : List eg_I := .inl (107, 2, .iload 4, 0, 0) :: c_Flat_fitLine_109
def c_Flat_fitLine_106 : List eg_I := .inl (106, 1, .iload 3, 0, 0) :: c_Flat_fitLine_107
def c_Flat_fitLine_105 : List eg_I := .inl (105, 1, .iconst (0), 0, 0) :: c_Flat_fitLine_106
def c_Flat_fitLine_104 : List eg_I := .inl (104, 1, .aload 0, 0, 0) :: c_Flat_fitLine_105
def c_Flat_fitLine_101 : List eg_I := .inl (101, 3, .ifCond .eq (11), 112, 0) :: c_Flat_fitLine_104
def c_Flat_fitLine_98 : List eg_I := .inr (98, 1, 43, n_Flat_isBetter, 1, 3, 0, 0) :: c_Flat_fitLine_101
def c_Flat_fitLine_97 : List eg_I := .inl (97, 1, .iload 3, 0, 0) :: c_Flat_fitLine_98
def c_Flat_fitLine_96 : List eg_I := .inl (96, 1, .aload 0, 0, 0) :: c_Flat_fitLine_97
def c_Flat_fitLine_95 : List eg_I := .inl (95, 1, .lastore, 0, 0) :: c_Flat_fitLine_96
def c_Flat_fitLine_94 : List eg_I := .inl (94, 1, .sipush (0), 0, 0) :: c_Flat_fitLine_95
def c_Flat_fitLine_93 : List eg_I := .inl (93, 1, .iconst (2), 0, 0) :: c_Flat_fitLine_94
def c_Flat_fitLine_90 : List eg_I := .inl (90, 3, .getfield 18, 3, 1) :: c_Flat_fitLine_93
def c_Flat_fitLine_89 : List eg_I := .inl (89, 1, .aload 0, 0, 0) :: c_Flat_fitLine_90
def c_Flat_fitLine_88 : List eg_I := .inl (88, 1, .lastore, 0, 0) :: c_Flat_fitLine_89
def c_Flat_fitLine_87 : List eg_I := .inl (87, 1, .i2l, 0, 0) :: c_Flat_fitLine_88
def c_Flat_fitLine_86 : List eg_I := .inl (86, 1, .isub, 0, 0) :: c_Flat_fitLine_87
def c_Flat_fitLine_85 : List eg_I := .inl (85, 1, .iaload, 0, 0) :: c_Flat_fitLine_86
def c_Flat_fitLine_84 : List eg_I := .inl (84, 1, .iload 3, 0, 0) :: c_Flat_fitLine_85
def c_Flat_fitLine_81 : List eg_I := .inl (81, 3, .getfield 40, 10, 0) :: c_Flat_fitLine_84
def c_Flat_fitLine_78 : List eg_I := .inl (78, 3, .getfield 12, 3, 0) :: c_Flat_fitLine_81
def c_Flat_fitLine_77 : List eg_I := .inl (77, 1, .aload 0, 0, 0) :: c_Flat_fitLine_78
def c_Flat_fitLine_76 : List eg_I := .inl (76, 1, .iaload, 0, 0) :: c_Flat_fitLine_77
def c_Flat_fitLine_74 : List eg_I := .inl (74, 2, .iload 4, 0, 0) :: c_Flat_fitLine_76
def c_Flat_fitLine_71 : List eg_I := .inl (71, 3, .getfield 40, 10, 0) :: c_Flat_fitLine_74
def c_Flat_fitLine_68 : List eg_I := .inl (68, 3, .getfield 12, 3, 0) :: c_Flat_fitLine_71
def c_Flat_fitLine_67 : List eg_I := .inl (67, 1, .aload 0, 0, 0) :: c_Flat_fitLine_68
def c_Flat_fitLine_66 : List eg_I := .inl (66, 1, .iconst (1), 0, 0) :: c_Flat_fitLine_67
def c_Flat_fitLine_63 : List eg_I := .inl (63, 3, .getfield 18, 3, 1) :: c_Flat_fitLine_66
def c_Flat_fitLine_62 : List eg_I := .inl (62, 1, .aload 0, 0, 0) :: c_Flat_fitLine_63
def c_Flat_fitLine_61 : List eg_I := .inl (61, 1, .lastore, 0, 0) :: c_Flat_fitLine_62
def c_Flat_fitLine_60 : List eg_I := .inl (60, 1, .i2l, 0, 0) :: c_Flat_fitLine_61
def c_Flat_fitLine_59 : List eg_I := .inl (59, 1, .isub, 0, 0) :: c_Flat_fitLine_60
def c_Flat_fitLine_58 : List eg_I := .inl (58, 1, .iaload, 0, 0) :: c_Flat_fitLine_59
def c_Flat_fitLine_56 : List eg_I := .inl (56, 2, .iload 4, 0, 0) :: c_Flat_fitLine_58
def c_Flat_fitLine_53 : List eg_I := .inl (53, 3, .getfield 37, 10, 1) :: c_Flat_fitLine_56
def c_Flat_fitLine_50 : List eg_I := .inl (50, 3, .getfield 12, 3, 0) :: c_Flat_fitLine_53
def c_Flat_fitLine_49 : List eg_I := .inl (49, 1, .aload 0, 0, 0) :: c_Flat_fitLine_50
def c_Flat_fitLine_48 : List eg_I := .inl (48, 1, .iaload, 0, 0) :: c_Flat_fitLine_49
def c_Flat_fitLine_47 : List eg_I := .inl (47, 1, .iload 3, 0, 0) :: c_Flat_fitLine_48
def c_Flat_fitLine_44 : List eg_I := .inl (44, 3, .getfield 37, 10, 1) :: c_Flat_fitLine_47
def c_Flat_fitLine_41 : List eg_I := .inl (41, 3, .getfield 12, 3, 0) :: c_Flat_fitLine_44
def c_Flat_fitLine_40 : List eg_I := .inl (40, 1, .aload 0, 0, 0) :: c_Flat_fitLine_41
def c_Flat_fitLine_39 : List eg_I := .inl (39, 1, .iconst (0), 0, 0) :: c_Flat_fitLine_40
def c_Flat_fitLine_36 : List eg_I := .inl (36, 3, .getfield 18, 3, 1) :: c_Flat_fitLine_39
def c_Flat_fitLine_35 : List eg_I := .inl (35, 1, .aload 0, 0, 0) :: c_Flat_fitLine_36
def c_Flat_fitLine_32 : List eg_I := .inl (32, 3, .if_icmp .ge (86), 118, 0) :: c_Flat_fitLine_35
def c_Flat_fitLine_29 : List eg_I := .inl (29, 3, .getfield 33, 10, 4) :: c_Flat_fitLine_32
def c_Flat_fitLine_26 : List eg_I := .inl (26, 3, .getfield 12, 3, 0) :: c_Flat_fitLine_29
def c_Flat_fitLine_25 : List eg_I := .inl (25, 1, .aload 0, 0, 0) :: c_Flat_fitLine_26
def c_Flat_fitLine_23 : List eg_I := .inl (23, 2, .iload 4, 0, 0) :: c_Flat_fitLine_25
def c_Flat_fitLine_21 : List eg_I := .inl (21, 2, .istore 4, 0, 0) :: [.inl (23, 0, .nop, 0, 0)]
def c_Flat_fitLine_20 : List eg_I := .inl (20, 1, .iadd, 0, 0) :: c_Flat_fitLine_21
def c_Flat_fitLine_19 : List eg_I := .inl (19, 1, .iconst (1), 0, 0) :: c_Flat_fitLine_20
def c_Flat_fitLine_18 : List eg_I := .inl (18, 1, .iload 3, 0, 0) :: c_Flat_fitLine_19
def c_Flat_fitLine_15 : List eg_I := .inl (15, 3, .if_icmp .ge (109), 124, 0) :: c_Flat_fitLine_18
def c_Flat_fitLine_12 : List eg_I := .inl (12, 3, .getfield 33, 10, 4) :: c_Flat_fitLine_15
def c_Flat_fitLine_9 : List eg_I := .inl (9, 3, .getfield 12, 3, 0) :: c_Flat_fitLine_12
def c_Flat_fitLine_8 : List eg_I := .inl (8, 1, .aload 0, 0, 0) :: c_Flat_fitLine_9
def c_Flat_fitLine_7 : List eg_I := .inl (7, 1, .iload 3, 0, 0) :: c_Flat_fitLine_8
def c_Flat_fitLine_6 : List eg_I := .inl (6, 1, .istore 3, 0, 0) :: [.inl (7, 0, .nop, 0, 0)]
def c_Flat_fitLine_5 : List eg_I := .inl (5, 1, .iconst (0), 0, 0) :: c_Flat_fitLine_6
def c_Flat_fitLine_2 : List eg_I := .inr (2, 1, 29, n_Flat_start, 1, 3, 0, 0) :: c_Flat_fitLine_5
def c_Flat_fitLine_1 : List eg_I := .inl (1, 1, .aload 1, 0, 0) :: c_Flat_fitLine_2
def c_Flat_fitLine_0 : List eg_I := .inl (0, 1, .aload 0, 0, 0) :: c_Flat_fitLine_1
section
variable {rm : Room} {K : Nat → Nat → Nat → eg_Lo → List Value → List eg_E → Prop} {Q : Option Value → List eg_E → Prop} {kc ks : Nat} {loc : eg_Lo} {st : List Value} {h : List eg_E}
theorem s_Flat_fitLine_0 {x : Nat} {l : eg_Lo} : wps rm K Q c_Flat_fitLine_0 kc ks (some (.ref x) :: l) (st) h = wps rm K Q c_Flat_fitLine_1 kc ks (some (.ref x) :: l) (.ref x :: st) h := rfl
theorem s_Flat_fitLine_1 {x : Nat} {l0 : Option Value} {l : eg_Lo} : wps rm K Q c_Flat_fitLine_1 kc ks (l0 :: some (.ref x) :: l) (st) h = wps rm K Q c_Flat_fitLine_2 kc ks (l0 :: some (.ref x) :: l) (.ref x :: st) h := rfl
theorem s_Flat_fitLine_2  {a1 : Value} {x : Nat} : wps rm K Q c_Flat_fitLine_2 kc ks loc (a1 :: .ref (x + 1) :: st) h = (eg_cls h x 3 ∧ st.length ≤ 4 ∧ eg_Cs n_Flat_start (.ref (x + 1) :: [a1]) h (fun v h9 => wps rm K Q c_Flat_fitLine_5 kc ks loc (v.toList ++ st) h9)) := eg_c1_1
theorem s_Flat_fitLine_5  : wps rm K Q c_Flat_fitLine_5 kc ks loc (st) h = wps rm K Q c_Flat_fitLine_6 kc ks loc (.int (0) :: st) h := rfl
theorem s_Flat_fitLine_6 {x : Int32} : wps rm K Q c_Flat_fitLine_6 kc ks loc (.int x :: st) h = K 7 kc ks (eg_set1 loc 3 (.int x)) (st) h := rfl
theorem s_Flat_fitLine_7 {x : Int32} {l0 l1 l2 : Option Value} {l : eg_Lo} : wps rm K Q c_Flat_fitLine_7 kc ks (l0 :: l1 :: l2 :: some (.int x) :: l) (st) h = wps rm K Q c_Flat_fitLine_8 kc ks (l0 :: l1 :: l2 :: some (.int x) :: l) (.int x :: st) h := rfl
theorem s_Flat_fitLine_8 {x : Nat} {l : eg_Lo} : wps rm K Q c_Flat_fitLine_8 kc ks (some (.ref x) :: l) (st) h = wps rm K Q c_Flat_fitLine_9 kc ks (some (.ref x) :: l) (.ref x :: st) h := rfl
theorem s_Flat_fitLine_9 {x : Nat} : wps rm K Q c_Flat_fitLine_9 kc ks loc (.ref (x + 1) :: st) h = eg_gf h x 3 0 (fun v => wps rm K Q c_Flat_fitLine_12 kc ks loc (v :: st) h) := rfl
theorem s_Flat_fitLine_12 {x : Nat} : wps rm K Q c_Flat_fitLine_12 kc ks loc (.ref (x + 1) :: st) h = eg_gf h x 10 4 (fun v => wps rm K Q c_Flat_fitLine_15 kc ks loc (v :: st) h) := rfl
theorem s_Flat_fitLine_15 {x y : Int32} : wps rm K Q c_Flat_fitLine_15 kc ks loc (.int y :: .int x :: st) h = ((y ≤ x → K 124 kc ks loc st h) ∧ (¬ y ≤ x → wps rm K Q c_Flat_fitLine_18 kc ks loc (st) h)) := rfl
theorem s_Flat_fitLine_18 {x : Int32} {l0 l1 l2 : Option Value} {l : eg_Lo} : wps rm K Q c_Flat_fitLine_18 kc ks (l0 :: l1 :: l2 :: some (.int x) :: l) (st) h = wps rm K Q c_Flat_fitLine_19 kc ks (l0 :: l1 :: l2 :: some (.int x) :: l) (.int x :: st) h := rfl
theorem s_Flat_fitLine_19  : wps rm K Q c_Flat_fitLine_19 kc ks loc (st) h = wps rm K Q c_Flat_fitLine_20 kc ks loc (.int (1) :: st) h := rfl
theorem s_Flat_fitLine_20 {x y : Int32} : wps rm K Q c_Flat_fitLine_20 kc ks loc (.int y :: .int x :: st) h = wps rm K Q c_Flat_fitLine_21 kc ks loc (.int (x + y) :: st) h := rfl
theorem s_Flat_fitLine_21 {x : Int32} : wps rm K Q c_Flat_fitLine_21 kc ks loc (.int x :: st) h = K 23 kc ks (eg_set1 loc 4 (.int x)) (st) h := rfl
theorem s_Flat_fitLine_23 {x : Int32} {l0 l1 l2 l3 : Option Value} {l : eg_Lo} : wps rm K Q c_Flat_fitLine_23 kc ks (l0 :: l1 :: l2 :: l3 :: some (.int x) :: l) (st) h = wps rm K Q c_Flat_fitLine_25 kc ks (l0 :: l1 :: l2 :: l3 :: some (.int x) :: l) (.int x :: st) h := rfl
theorem s_Flat_fitLine_25 {x : Nat} {l : eg_Lo} : wps rm K Q c_Flat_fitLine_25 kc ks (some (.ref x) :: l) (st) h = wps rm K Q c_Flat_fitLine_26 kc ks (some (.ref x) :: l) (.ref x :: st) h := rfl
theorem s_Flat_fitLine_26 {x : Nat} : wps rm K Q c_Flat_fitLine_26 kc ks loc (.ref (x + 1) :: st) h = eg_gf h x 3 0 (fun v => wps rm K Q c_Flat_fitLine_29 kc ks loc (v :: st) h) := rfl
theorem s_Flat_fitLine_29 {x : Nat} : wps rm K Q c_Flat_fitLine_29 kc ks loc (.ref (x + 1) :: st) h = eg_gf h x 10 4 (fun v => wps rm K Q c_Flat_fitLine_32 kc ks loc (v :: st) h) := rfl
theorem s_Flat_fitLine_32 {x y : Int32} : wps rm K Q c_Flat_fitLine_32 kc ks loc (.int y :: .int x :: st) h = ((y ≤ x → K 118 kc ks loc st h) ∧ (¬ y ≤ x → wps rm K Q c_Flat_fitLine_35 kc ks loc (st) h)) := rfl
theorem s_Flat_fitLine_35 {x : Nat} {l : eg_Lo} : wps rm K Q c_Flat_fitLine_35 kc ks (some (.ref x) :: l) (st) h = wps rm K Q c_Flat_fitLine_36 kc ks (some (.ref x) :: l) (.ref x :: st) h := rfl
theorem s_Flat_fitLine_36 {x : Nat} : wps rm K Q c_Flat_fitLine_36 kc ks loc (.ref (x + 1) :: st) h = eg_gf h x 3 1 (fun v => wps rm K Q c_Flat_fitLine_39 kc ks loc (v :: st) h) := rfl
theorem s_Flat_fitLine_39  : wps rm K Q c_Flat_fitLine_39 kc ks loc (st) h = wps rm K Q c_Flat_fitLine_40 kc ks loc (.int (0) :: st) h := rfl
theorem s_Flat_fitLine_40 {x : Nat} {l : eg_Lo} : wps rm K Q c_Flat_fitLine_40 kc ks (some (.ref x) :: l) (st) h = wps rm K Q c_Flat_fitLine_41 kc ks (some (.ref x) :: l) (.ref x :: st) h := rfl
theorem s_Flat_fitLine_41 {x : Nat} : wps rm K Q c_Flat_fitLine_41 kc ks loc (.ref (x + 1) :: st) h = eg_gf h x 3 0 (fun v => wps rm K Q c_Flat_fitLine_44 kc ks loc (v :: st) h) := rfl
theorem s_Flat_fitLine_44 {x : Nat} : wps rm K Q c_Flat_fitLine_44 kc ks loc (.ref (x + 1) :: st) h = eg_gf h x 10 1 (fun v => wps rm K Q c_Flat_fitLine_47 kc ks loc (v :: st) h) := rfl
theorem s_Flat_fitLine_47 {x : Int32} {l0 l1 l2 : Option Value} {l : eg_Lo} : wps rm K Q c_Flat_fitLine_47 kc ks (l0 :: l1 :: l2 :: some (.int x) :: l) (st) h = wps rm K Q c_Flat_fitLine_48 kc ks (l0 :: l1 :: l2 :: some (.int x) :: l) (.int x :: st) h := rfl
theorem s_Flat_fitLine_48 {x : Nat} {i : Int32} : wps rm K Q c_Flat_fitLine_48 kc ks loc (.int i :: .ref (x + 1) :: st) h = eg_ia h x i (fun v => wps rm K Q c_Flat_fitLine_49 kc ks loc (.int v :: st) h) := rfl
theorem s_Flat_fitLine_49 {x : Nat} {l : eg_Lo} : wps rm K Q c_Flat_fitLine_49 kc ks (some (.ref x) :: l) (st) h = wps rm K Q c_Flat_fitLine_50 kc ks (some (.ref x) :: l) (.ref x :: st) h := rfl
theorem s_Flat_fitLine_50 {x : Nat} : wps rm K Q c_Flat_fitLine_50 kc ks loc (.ref (x + 1) :: st) h = eg_gf h x 3 0 (fun v => wps rm K Q c_Flat_fitLine_53 kc ks loc (v :: st) h) := rfl
theorem s_Flat_fitLine_53 {x : Nat} : wps rm K Q c_Flat_fitLine_53 kc ks loc (.ref (x + 1) :: st) h = eg_gf h x 10 1 (fun v => wps rm K Q c_Flat_fitLine_56 kc ks loc (v :: st) h) := rfl
theorem s_Flat_fitLine_56 {x : Int32} {l0 l1 l2 l3 : Option Value} {l : eg_Lo} : wps rm K Q c_Flat_fitLine_56 kc ks (l0 :: l1 :: l2 :: l3 :: some (.int x) :: l) (st) h = wps rm K Q c_Flat_fitLine_58 kc ks (l0 :: l1 :: l2 :: l3 :: some (.int x) :: l) (.int x :: st) h := rfl
theorem s_Flat_fitLine_58 {x : Nat} {i : Int32} : wps rm K Q c_Flat_fitLine_58 kc ks loc (.int i :: .ref (x + 1) :: st) h = eg_ia h x i (fun v => wps rm K Q c_Flat_fitLine_59 kc ks loc (.int v :: st) h) := rfl
theorem s_Flat_fitLine_59 {x y : Int32} : wps rm K Q c_Flat_fitLine_59 kc ks loc (.int y :: .int x :: st) h = wps rm K Q c_Flat_fitLine_60 kc ks loc (.int (x - y) :: st) h := rfl
theorem s_Flat_fitLine_60 {x : Int32} : wps rm K Q c_Flat_fitLine_60 kc ks loc (.int x :: st) h = wps rm K Q c_Flat_fitLine_61 kc ks loc (.long (x.toInt64) :: st) h := rfl
theorem s_Flat_fitLine_61 {x : Nat} {i : Int32} {v : Int64} : wps rm K Q c_Flat_fitLine_61 kc ks loc (.long v :: .int i :: .ref (x + 1) :: st) h = eg_lst h x i v (fun h9 => wps rm K Q c_Flat_fitLine_62 kc ks loc (st) h9) := rfl
theorem s_Flat_fitLine_62 {x : Nat} {l : eg_Lo} : wps rm K Q c_Flat_fitLine_62 kc ks (some (.ref x) :: l) (st) h = wps rm K Q c_Flat_fitLine_63 kc ks (some (.ref x) :: l) (.ref x :: st) h := rfl
theorem s_Flat_fitLine_63 {x : Nat} : wps rm K Q c_Flat_fitLine_63 kc ks loc (.ref (x + 1) :: st) h = eg_gf h x 3 1 (fun v => wps rm K Q c_Flat_fitLine_66 kc ks loc (v :: st) h) := rfl
theorem s_Flat_fitLine_66  : wps rm K Q c_Flat_fitLine_66 kc ks loc (st) h = wps rm K Q c_Flat_fitLine_67 kc ks loc (.int (1) :: st) h := rfl
theorem s_Flat_fitLine_67 {x : Nat} {l : eg_Lo} : wps rm K Q c_Flat_fitLine_67 kc ks (some (.ref x) :: l) (st) h = wps rm K Q c_Flat_fitLine_68 kc ks (some (.ref x) :: l) (.ref x :: st) h := rfl
theorem s_Flat_fitLine_68 {x : Nat} : wps rm K Q c_Flat_fitLine_68 kc ks loc (.ref (x + 1) :: st) h = eg_gf h x 3 0 (fun v => wps rm K Q c_Flat_fitLine_71 kc ks loc (v :: st) h) := rfl
theorem s_Flat_fitLine_71 {x : Nat} : wps rm K Q c_Flat_fitLine_71 kc ks loc (.ref (x + 1) :: st) h = eg_gf h x 10 0 (fun v => wps rm K Q c_Flat_fitLine_74 kc ks loc (v :: st) h) := rfl
theorem s_Flat_fitLine_74 {x : Int32} {l0 l1 l2 l3 : Option Value} {l : eg_Lo} : wps rm K Q c_Flat_fitLine_74 kc ks (l0 :: l1 :: l2 :: l3 :: some (.int x) :: l) (st) h = wps rm K Q c_Flat_fitLine_76 kc ks (l0 :: l1 :: l2 :: l3 :: some (.int x) :: l) (.int x :: st) h := rfl
theorem s_Flat_fitLine_76 {x : Nat} {i : Int32} : wps rm K Q c_Flat_fitLine_76 kc ks loc (.int i :: .ref (x + 1) :: st) h = eg_ia h x i (fun v => wps rm K Q c_Flat_fitLine_77 kc ks loc (.int v :: st) h) := rfl
theorem s_Flat_fitLine_77 {x : Nat} {l : eg_Lo} : wps rm K Q c_Flat_fitLine_77 kc ks (some (.ref x) :: l) (st) h = wps rm K Q c_Flat_fitLine_78 kc ks (some (.ref x) :: l) (.ref x :: st) h := rfl
theorem s_Flat_fitLine_78 {x : Nat} : wps rm K Q c_Flat_fitLine_78 kc ks loc (.ref (x + 1) :: st) h = eg_gf h x 3 0 (fun v => wps rm K Q c_Flat_fitLine_81 kc ks loc (v :: st) h) := rfl
theorem s_Flat_fitLine_81 {x : Nat} : wps rm K Q c_Flat_fitLine_81 kc ks loc (.ref (x + 1) :: st) h = eg_gf h x 10 0 (fun v => wps rm K Q c_Flat_fitLine_84 kc ks loc (v :: st) h) := rfl
theorem s_Flat_fitLine_84 {x : Int32} {l0 l1 l2 : Option Value} {l : eg_Lo} : wps rm K Q c_Flat_fitLine_84 kc ks (l0 :: l1 :: l2 :: some (.int x) :: l) (st) h = wps rm K Q c_Flat_fitLine_85 kc ks (l0 :: l1 :: l2 :: some (.int x) :: l) (.int x :: st) h := rfl
theorem s_Flat_fitLine_85 {x : Nat} {i : Int32} : wps rm K Q c_Flat_fitLine_85 kc ks loc (.int i :: .ref (x + 1) :: st) h = eg_ia h x i (fun v => wps rm K Q c_Flat_fitLine_86 kc ks loc (.int v :: st) h) := rfl
theorem s_Flat_fitLine_86 {x y : Int32} : wps rm K Q c_Flat_fitLine_86 kc ks loc (.int y :: .int x :: st) h = wps rm K Q c_Flat_fitLine_87 kc ks loc (.int (x - y) :: st) h := rfl
theorem s_Flat_fitLine_87 {x : Int32} : wps rm K Q c_Flat_fitLine_87 kc ks loc (.int x :: st) h = wps rm K Q c_Flat_fitLine_88 kc ks loc (.long (x.toInt64) :: st) h := rfl
theorem s_Flat_fitLine_88 {x : Nat} {i : Int32} {v : Int64} : wps rm K Q c_Flat_fitLine_88 kc ks loc (.long v :: .int i :: .ref (x + 1) :: st) h = eg_lst h x i v (fun h9 => wps rm K Q c_Flat_fitLine_89 kc ks loc (st) h9) := rfl
theorem s_Flat_fitLine_89 {x : Nat} {l : eg_Lo} : wps rm K Q c_Flat_fitLine_89 kc ks (some (.ref x) :: l) (st) h = wps rm K Q c_Flat_fitLine_90 kc ks (some (.ref x) :: l) (.ref x :: st) h := rfl
theorem s_Flat_fitLine_90 {x : Nat} : wps rm K Q c_Flat_fitLine_90 kc ks loc (.ref (x + 1) :: st) h = eg_gf h x 3 1 (fun v => wps rm K Q c_Flat_fitLine_93 kc ks loc (v :: st) h) := rfl
theorem s_Flat_fitLine_93  : wps rm K Q c_Flat_fitLine_93 kc ks loc (st) h = wps rm K Q c_Flat_fitLine_94 kc ks loc (.int (2) :: st) h := rfl
theorem s_Flat_fitLine_94  : wps rm K Q c_Flat_fitLine_94 kc ks loc (st) h = wps rm K Q c_Flat_fitLine_95 kc ks loc (.long (0) :: st) h := rfl
theorem s_Flat_fitLine_95 {x : Nat} {i : Int32} {v : Int64} : wps rm K Q c_Flat_fitLine_95 kc ks loc (.long v :: .int i :: .ref (x + 1) :: st) h = eg_lst h x i v (fun h9 => wps rm K Q c_Flat_fitLine_96 kc ks loc (st) h9) := rfl
theorem s_Flat_fitLine_96 {x : Nat} {l : eg_Lo} : wps rm K Q c_Flat_fitLine_96 kc ks (some (.ref x) :: l) (st) h = wps rm K Q c_Flat_fitLine_97 kc ks (some (.ref x) :: l) (.ref x :: st) h := rfl
theorem s_Flat_fitLine_97 {x : Int32} {l0 l1 l2 : Option Value} {l : eg_Lo} : wps rm K Q c_Flat_fitLine_97 kc ks (l0 :: l1 :: l2 :: some (.int x) :: l) (st) h = wps rm K Q c_Flat_fitLine_98 kc ks (l0 :: l1 :: l2 :: some (.int x) :: l) (.int x :: st) h := rfl
theorem s_Flat_fitLine_98  {a1 : Value} {x : Nat} : wps rm K Q c_Flat_fitLine_98 kc ks loc (a1 :: .ref (x + 1) :: st) h = (eg_cls h x 3 ∧ st.length ≤ 4 ∧ eg_Cs n_Flat_isBetter (.ref (x + 1) :: [a1]) h (fun v h9 => wps rm K Q c_Flat_fitLine_101 kc ks loc (v.toList ++ st) h9)) := eg_c1_1
theorem s_Flat_fitLine_101 {x : Int32} : wps rm K Q c_Flat_fitLine_101 kc ks loc (.int x :: st) h = ((x = 0 → K 112 kc ks loc st h) ∧ (¬ x = 0 → wps rm K Q c_Flat_fitLine_104 kc ks loc (st) h)) := rfl
theorem s_Flat_fitLine_104 {x : Nat} {l : eg_Lo} : wps rm K Q c_Flat_fitLine_104 kc ks (some (.ref x) :: l) (st) h = wps rm K Q c_Flat_fitLine_105 kc ks (some (.ref x) :: l) (.ref x :: st) h := rfl
theorem s_Flat_fitLine_105  : wps rm K Q c_Flat_fitLine_105 kc ks loc (st) h = wps rm K Q c_Flat_fitLine_106 kc ks loc (.int (0) :: st) h := rfl
theorem s_Flat_fitLine_106 {x : Int32} {l0 l1 l2 : Option Value} {l : eg_Lo} : wps rm K Q c_Flat_fitLine_106 kc ks (l0 :: l1 :: l2 :: some (.int x) :: l) (st) h = wps rm K Q c_Flat_fitLine_107 kc ks (l0 :: l1 :: l2 :: some (.int x) :: l) (.int x :: st) h := rfl
theorem s_Flat_fitLine_107 {x : Int32} {l0 l1 l2 l3 : Option Value} {l : eg_Lo} : wps rm K Q c_Flat_fitLine_107 kc ks (l0 :: l1 :: l2 :: l3 :: some (.int x) :: l) (st) h = wps rm K Q c_Flat_fitLine_109 kc ks (l0 :: l1 :: l2 :: l3 :: some (.int x) :: l) (.int x :: st) h := rfl
theorem s_Flat_fitLine_109  {a1 : Value} {a2 : Value} {a3 : Value} {x : Nat} : wps rm K Q c_Flat_fitLine_109 kc ks loc (a3 :: a2 :: a1 :: .ref (x + 1) :: st) h = (eg_cls h x 3 ∧ st.length ≤ 4 ∧ eg_Cs n_Flat_hold (.ref (x + 1) :: [a1, a2, a3]) h (fun v h9 => wps rm K Q c_Flat_fitLine_112 kc ks loc (v.toList ++ st) h9)) := eg_c1_3
theorem s_Flat_fitLine_112 {x : Int32} {l0 l1 l2 l3 : Option Value} {l9 : eg_Lo} : wps rm K Q c_Flat_fitLine_112 kc ks (l0 :: l1 :: l2 :: l3 :: some (.int x) :: l9) (st) h = wps rm K Q c_Flat_fitLine_115 kc ks (eg_set1 (l0 :: l1 :: l2 :: l3 :: some (.int x) :: l9) 4 (.int (x + (1)))) (st) h := rfl
theorem s_Flat_fitLine_115  : wps rm K Q c_Flat_fitLine_115 kc ks loc (st) h = K 23 kc ks loc st h := rfl
theorem s_Flat_fitLine_118 {x : Int32} {l0 l1 l2 : Option Value} {l9 : eg_Lo} : wps rm K Q c_Flat_fitLine_118 kc ks (l0 :: l1 :: l2 :: some (.int x) :: l9) (st) h = wps rm K Q c_Flat_fitLine_121 kc ks (eg_set1 (l0 :: l1 :: l2 :: some (.int x) :: l9) 3 (.int (x + (1)))) (st) h := rfl
theorem s_Flat_fitLine_121  : wps rm K Q c_Flat_fitLine_121 kc ks loc (st) h = K 7 kc ks loc st h := rfl
theorem s_Flat_fitLine_124 {x : Nat} {l : eg_Lo} : wps rm K Q c_Flat_fitLine_124 kc ks (some (.ref x) :: l) (st) h = wps rm K Q c_Flat_fitLine_125 kc ks (some (.ref x) :: l) (.ref x :: st) h := rfl
theorem s_Flat_fitLine_125 {x : Nat} : wps rm K Q c_Flat_fitLine_125 kc ks loc (.ref (x + 1) :: st) h = eg_gf h x 3 4 (fun v => wps rm K Q c_Flat_fitLine_128 kc ks loc (v :: st) h) := rfl
theorem s_Flat_fitLine_128 {x : Int32} : wps rm K Q c_Flat_fitLine_128 kc ks loc (.int x :: st) h = ((x = 0 → K 156 kc ks loc st h) ∧ (¬ x = 0 → wps rm K Q c_Flat_fitLine_131 kc ks loc (st) h)) := rfl
theorem s_Flat_fitLine_131 {x : Nat} {l0 l1 : Option Value} {l : eg_Lo} : wps rm K Q c_Flat_fitLine_131 kc ks (l0 :: l1 :: some (.ref x) :: l) (st) h = wps rm K Q c_Flat_fitLine_132 kc ks (l0 :: l1 :: some (.ref x) :: l) (.ref x :: st) h := rfl
theorem s_Flat_fitLine_132 {x : Nat} {l : eg_Lo} : wps rm K Q c_Flat_fitLine_132 kc ks (some (.ref x) :: l) (st) h = wps rm K Q c_Flat_fitLine_133 kc ks (some (.ref x) :: l) (.ref x :: st) h := rfl
theorem s_Flat_fitLine_133 {x : Nat} : wps rm K Q c_Flat_fitLine_133 kc ks loc (.ref (x + 1) :: st) h = eg_gf h x 3 2 (fun v => wps rm K Q c_Flat_fitLine_136 kc ks loc (v :: st) h) := rfl
theorem s_Flat_fitLine_136  : wps rm K Q c_Flat_fitLine_136 kc ks loc (st) h = wps rm K Q c_Flat_fitLine_137 kc ks loc (.int (1) :: st) h := rfl
theorem s_Flat_fitLine_137 {x : Nat} {i : Int32} : wps rm K Q c_Flat_fitLine_137 kc ks loc (.int i :: .ref (x + 1) :: st) h = eg_la h x i (fun v => wps rm K Q c_Flat_fitLine_138 kc ks loc (.long v :: st) h) := rfl
theorem s_Flat_fitLine_138 {x : Nat} {l : eg_Lo} : wps rm K Q c_Flat_fitLine_138 kc ks (some (.ref x) :: l) (st) h = wps rm K Q c_Flat_fitLine_139 kc ks (some (.ref x) :: l) (.ref x :: st) h := rfl
theorem s_Flat_fitLine_139 {x : Nat} : wps rm K Q c_Flat_fitLine_139 kc ks loc (.ref (x + 1) :: st) h = eg_gf h x 3 2 (fun v => wps rm K Q c_Flat_fitLine_142 kc ks loc (v :: st) h) := rfl
theorem s_Flat_fitLine_142  : wps rm K Q c_Flat_fitLine_142 kc ks loc (st) h = wps rm K Q c_Flat_fitLine_143 kc ks loc (.int (0) :: st) h := rfl
theorem s_Flat_fitLine_143 {x : Nat} {i : Int32} : wps rm K Q c_Flat_fitLine_143 kc ks loc (.int i :: .ref (x + 1) :: st) h = eg_la h x i (fun v => wps rm K Q c_Flat_fitLine_144 kc ks loc (.long v :: st) h) := rfl
theorem s_Flat_fitLine_144 {x : Int64} : wps rm K Q c_Flat_fitLine_144 kc ks loc (.long x :: st) h = wps rm K Q c_Flat_fitLine_145 kc ks loc (.long (-x) :: st) h := rfl
theorem s_Flat_fitLine_145  : wps rm K Q c_Flat_fitLine_145 kc ks loc (st) h = wps rm K Q c_Flat_fitLine_146 kc ks loc (.long (0) :: st) h := rfl
theorem s_Flat_fitLine_146  {a1 : Value} {a2 : Value} {a3 : Value} {x : Nat} : wps rm K Q c_Flat_fitLine_146 kc ks loc (a3 :: a2 :: a1 :: .ref (x + 1) :: st) h = (eg_cls h x 2 ∧ st.length ≤ 4 ∧ eg_Cs n_Fig_setDirection (.ref (x + 1) :: [a1, a2, a3]) h (fun v h9 => wps rm K Q c_Flat_fitLine_149 kc ks loc (v.toList ++ st) h9)) := eg_c1_3
theorem s_Flat_fitLine_149 {x : Nat} {l : eg_Lo} : wps rm K Q c_Flat_fitLine_149 kc ks (some (.ref x) :: l) (st) h = wps rm K Q c_Flat_fitLine_150 kc ks (some (.ref x) :: l) (.ref x :: st) h := rfl
theorem s_Flat_fitLine_150 {x : Nat} {l0 l1 : Option Value} {l : eg_Lo} : wps rm K Q c_Flat_fitLine_150 kc ks (l0 :: l1 :: some (.ref x) :: l) (st) h = wps rm K Q c_Flat_fitLine_151 kc ks (l0 :: l1 :: some (.ref x) :: l) (.ref x :: st) h := rfl
theorem s_Flat_fitLine_151  : wps rm K Q c_Flat_fitLine_151 kc ks loc (st) h = wps rm K Q c_Flat_fitLine_152 kc ks loc (.int (2) :: st) h := rfl
theorem s_Flat_fitLine_152  : wps rm K Q c_Flat_fitLine_152 kc ks loc (st) h = wps rm K Q c_Flat_fitLine_153 kc ks loc (.int (2) :: st) h := rfl
theorem s_Flat_fitLine_153  {a1 : Value} {a2 : Value} {a3 : Value} {x : Nat} : wps rm K Q c_Flat_fitLine_153 kc ks loc (a3 :: a2 :: a1 :: .ref (x + 1) :: st) h = (eg_cls h x 3 ∧ st.length ≤ 4 ∧ eg_Cs n_Flat_finish (.ref (x + 1) :: [a1, a2, a3]) h (fun v h9 => wps rm K Q c_Flat_fitLine_156 kc ks loc (v.toList ++ st) h9)) := eg_c1_3
theorem s_Flat_fitLine_156 {x : Nat} {l : eg_Lo} : wps rm K Q c_Flat_fitLine_156 kc ks (some (.ref x) :: l) (st) h = wps rm K Q c_Flat_fitLine_157 kc ks (some (.ref x) :: l) (.ref x :: st) h := rfl
theorem s_Flat_fitLine_157 {x : Nat} : wps rm K Q c_Flat_fitLine_157 kc ks loc (.ref (x + 1) :: st) h = eg_gf h x 3 4 (fun v => wps rm K Q c_Flat_fitLine_160 kc ks loc (v :: st) h) := rfl
theorem s_Flat_fitLine_160 {x : Int32} : wps rm K Q c_Flat_fitLine_160 kc ks loc ([.int x]) h = (kc = rm.cells ∧ ((1 : Nat) = 1 → x = 0 ∨ x = 1) ∧ Q (some (.int x)) h) := rfl
def T_Flat_fitLine : List (Nat × List eg_I) := [(112, c_Flat_fitLine_112), (118, c_Flat_fitLine_118), (124, c_Flat_fitLine_124), (156, c_Flat_fitLine_156)]
theorem j_Flat_fitLine_112 {R : Nat → Nat → Nat → eg_Lo → List Value → List eg_E → Prop} {f pc0 : Nat} : eg_run rm R Q T_Flat_fitLine (f + 1) 112 kc ks loc st h = wps rm (eg_run rm R Q T_Flat_fitLine f) Q c_Flat_fitLine_112 kc ks loc st h := rfl
theorem j_Flat_fitLine_118 {R : Nat → Nat → Nat → eg_Lo → List Value → List eg_E → Prop} {f pc0 : Nat} : eg_run rm R Q T_Flat_fitLine (f + 1) 118 kc ks loc st h = wps rm (eg_run rm R Q T_Flat_fitLine f) Q c_Flat_fitLine_118 kc ks loc st h := rfl
theorem j_Flat_fitLine_124 {R : Nat → Nat → Nat → eg_Lo → List Value → List eg_E → Prop} {f pc0 : Nat} : eg_run rm R Q T_Flat_fitLine (f + 1) 124 kc ks loc st h = wps rm (eg_run rm R Q T_Flat_fitLine f) Q c_Flat_fitLine_124 kc ks loc st h := rfl
theorem j_Flat_fitLine_156 {R : Nat → Nat → Nat → eg_Lo → List Value → List eg_E → Prop} {f pc0 : Nat} : eg_run rm R Q T_Flat_fitLine (f + 1) 156 kc ks loc st h = wps rm (eg_run rm R Q T_Flat_fitLine f) Q c_Flat_fitLine_156 kc ks loc st h := rfl
theorem j_Flat_fitLine_7 {R : Nat → Nat → Nat → eg_Lo → List Value → List eg_E → Prop} {f pc0 : Nat} : eg_run rm R Q T_Flat_fitLine (f + 1) 7 kc ks loc st h = R 7 kc ks loc st h := rfl
theorem j_Flat_fitLine_23 {R : Nat → Nat → Nat → eg_Lo → List Value → List eg_E → Prop} {f pc0 : Nat} : eg_run rm R Q T_Flat_fitLine (f + 1) 23 kc ks loc st h = R 23 kc ks loc st h := rfl
end
theorem q_Flat_fitLine : (T_Flat_fitLine.all fun q => eg_seq m_Flat_fitLine q.1 q.2) = true := by decide +kernel
theorem b_Flat_fitLine {as : List Value} {h : List eg_E} {Q : Option Value → List eg_E → Prop} (hf : (eg_fl as).length ≤ 5) (hw : wps (eg_rm m_Flat_fitLine) (eg_run (eg_rm m_Flat_fitLine) (eg_R m_Flat_fitLine Q (h.length + 0)) Q T_Flat_fitLine 6) Q c_Flat_fitLine_0 0 0 (eg_entry 5 as) [] h) : eg_Runs n_Flat_fitLine as h Q := eg_begin (d := m_Flat_fitLine) rfl (by decide) (by decide +kernel) q_Flat_fitLine hf hw
theorem p_Flat_fitLine_7 {Q : Option Value → List eg_E → Prop} {n0 kc ks : Nat} {loc : eg_Lo} {st : List Value} {h : List eg_E} (hw : wps (eg_rm m_Flat_fitLine) (eg_run (eg_rm m_Flat_fitLine) (eg_R m_Flat_fitLine Q n0) Q T_Flat_fitLine 6) Q c_Flat_fitLine_7 kc ks loc st h) : eg_R m_Flat_fitLine Q n0 7 kc ks loc st h := eg_go (by decide +kernel) q_Flat_fitLine hw
theorem p_Flat_fitLine_23 {Q : Option Value → List eg_E → Prop} {n0 kc ks : Nat} {loc : eg_Lo} {st : List Value} {h : List eg_E} (hw : wps (eg_rm m_Flat_fitLine) (eg_run (eg_rm m_Flat_fitLine) (eg_R m_Flat_fitLine Q n0) Q T_Flat_fitLine 6) Q c_Flat_fitLine_23 kc ks loc st h) : eg_R m_Flat_fitLine Q n0 23 kc ks loc st h := eg_go (by decide +kernel) q_Flat_fitLine hw
/-! ===== Flat_fitPlane ===== -/
def c_Flat_fitPlane_94 : List eg_I := .inl (94, 1, .ireturn, 0, 1) :: []
def c_Flat_fitPlane_91 : List eg_I := .inl (91, 3, .getfield 51, 3, 4) :: c_Flat_fitPlane_94
def c_Flat_fitPlane_90 : List eg_I := .inl (90, 1, .aload 0, 0, 0) :: c_Flat_fitPlane_91
def c_Flat_fitPlane_87 : List eg_I := .inr (87, 1, 61, n_Flat_finish, 3, 3, 0, 0) :: c_Flat_fitPlane_90
def c_Flat_fitPlane_86 : List eg_I := .inl (86, 1, .iconst (4), 0, 0) :: c_Flat_fitPlane_87
def c_Flat_fitPlane_85 : List eg_I := .inl (85, 1, .iconst (3), 0, 0) :: c_Flat_fitPlane_86
def c_Flat_fitPlane_84 : List eg_I := .inl (84, 1, .aload 2, 0, 0) :: c_Flat_fitPlane_85
def c_Flat_fitPlane_83 : List eg_I := .inl (83, 1, .aload 0, 0, 0) :: c_Flat_fitPlane_84
def c_Flat_fitPlane_80 : List eg_I := .inr (80, 1, 55, n_Fig_setDirection, 3, 2, 0, 0) :: c_Flat_fitPlane_83
def c_Flat_fitPlane_79 : List eg_I := .inl (79, 1, .laload, 0, 0) :: c_Flat_fitPlane_80
def c_Flat_fitPlane_78 : List eg_I := .inl (78, 1, .iconst (2), 0, 0) :: c_Flat_fitPlane_79
def c_Flat_fitPlane_75 : List eg_I := .inl (75, 3, .getfield 22, 3, 2) :: c_Flat_fitPlane_78
def c_Flat_fitPlane_74 : List eg_I := .inl (74, 1, .aload 0, 0, 0) :: c_Flat_fitPlane_75
def c_Flat_fitPlane_73 : List eg_I := .inl (73, 1, .laload, 0, 0) :: c_Flat_fitPlane_74
def c_Flat_fitPlane_72 : List eg_I := .inl (72, 1, .iconst (1), 0, 0) :: c_Flat_fitPlane_73
def c_Flat_fitPlane_69 : List eg_I := .inl (69, 3, .getfield 22, 3, 2) :: c_Flat_fitPlane_72
def c_Flat_fitPlane_68 : List eg_I := .inl (68, 1, .aload 0, 0, 0) :: c_Flat_fitPlane_69
def c_Flat_fitPlane_67 : List eg_I := .inl (67, 1, .laload, 0, 0) :: c_Flat_fitPlane_68
def c_Flat_fitPlane_66 : List eg_I := .inl (66, 1, .iconst (0), 0, 0) :: c_Flat_fitPlane_67
def c_Flat_fitPlane_63 : List eg_I := .inl (63, 3, .getfield 22, 3, 2) :: c_Flat_fitPlane_66
def c_Flat_fitPlane_62 : List eg_I := .inl (62, 1, .aload 0, 0, 0) :: c_Flat_fitPlane_63
def c_Flat_fitPlane_61 : List eg_I := .inl (61, 1, .aload 2, 0, 0) :: c_Flat_fitPlane_62
def c_Flat_fitPlane_58 : List eg_I := .inl (58, 3, .ifCond .eq (32), 90, 0) :: c_Flat_fitPlane_61
def c_Flat_fitPlane_55 : List eg_I := .inl (55, 3, .getfield 51, 3, 4) :: c_Flat_fitPlane_58
def c_Flat_fitPlane_54 : List eg_I := .inl (54, 1, .aload 0, 0, 0) :: c_Flat_fitPlane_55
def c_Flat_fitPlane_51 : List eg_I := .inl (51, 3, .goto (-44), 7, 0) :: []
def c_Flat_fitPlane_48 : List eg_I := .inl (48, 3, .iinc 3 (1), 0, 0) :: c_Flat_fitPlane_51
def c_Flat_fitPlane_45 : List eg_I := .inl (45, 3, .goto (-22), 23, 0) :: []
def c_Flat_fitPlane_42 : List eg_I := .inl (42, 3, .iinc 4 (1), 0, 0) :: c_Flat_fitPlane_45
def c_Flat_fitPlane_39 : List eg_I := .inr (39, 1, 65, n_Flat_trySecondPairs, 2, 3, 0, 0) :: c_Flat_fitPlane_42
def c_Flat_fitPlane_37 : List eg_I := .inl (37, 2, .iload 4, 0, 0) :: c_Flat_fitPlane_39
def c_Flat_fitPlane_36 : List eg_I := .inl (36, 1, .iload 3, 0, 0) :: c_Flat_fitPlane_37
def c_Flat_fitPlane_35 : List eg_I := .inl (35, 1, .aload 0, 0, 0) :: c_Flat_fitPlane_36
def c_Flat_fitPlane_32 : List eg_I := .inl (32, 3, .if_icmp .ge (16), 48, 0) :: c_Flat_fitPlane_35
def c_Flat_fitPlane_29 : List eg_I := .inl (29, 3, .getfield 33, 10, 4) :: c_Flat_fitPlane_32
def c_Flat_fitPlane_26 : List eg_I := .inl (26, 3, .getfield 12, 3, 0) :: c_Flat_fitPlane_29
def c_Flat_fitPlane_25 : List eg_I := .inl (25, 1, .aload 0, 0, 0) :: c_Flat_fitPlane_26
def c_Flat_fitPlane_23 : List eg_I := .inl (23, 2, .iload 4, 0, 0) :: c_Flat_fitPlane_25
def c_Flat_fitPlane_21 : List eg_I := .inl (21, 2, .istore 4, 0, 0) :: [.inl (23, 0, .nop, 0, 0)]
def c_Flat_fitPlane_20 : List eg_I := .inl (20, 1, .iadd, 0, 0) :: c_Flat_fitPlane_21
def c_Flat_fitPlane_19 : List eg_I := .inl (19, 1, .iconst (1), 0, 0) :: c_Flat_fitPlane_20
def c_Flat_fitPlane_18 : List eg_I := .inl (18, 1, .iload 3, 0, 0) :: c_Flat_fitPlane_19
def c_Flat_fitPlane_15 : List eg_I := .inl (15, 3, .if_icmp .ge (39), 54, 0) :: c_Flat_fitPlane_18
def c_Flat_fitPlane_12 : List eg_I := .inl (12, 3, .getfield 33, 10, 4) :: c_Flat_fitPlane_15
def c_Flat_fitPlane_9 : List eg_I := .inl (9, 3, .getfield 12, 3, 0) :: c_Flat_fitPlane_12
def c_Flat_fitPlane_8 : List eg_I := .inl (8, 1, .aload 0, 0, 0) :: c_Flat_fitPlane_9
def c_Flat_fitPlane_7 : List eg_I := .inl (7, 1, .iload 3, 0, 0) :: c_Flat_fitPlane_8
def c_Flat_fitPlane_6 : List eg_I := .inl (6, 1, .istore 3, 0, 0) :: [.inl (7, 0, .nop, 0, 0)]
def c_Flat_fitPlane_5 : List eg_I := .inl (5, 1, .iconst (0), 0, 0) :: c_Flat_fitPlane_6
def c_Flat_fitPlane_2 : List eg_I := .inr (2, 1, 29, n_Flat_start, 1, 3, 0, 0) :: c_Flat_fitPlane_5
def c_Flat_fitPlane_1 : List eg_I := .inl (1, 1, .aload 1, 0, 0) :: c_Flat_fitPlane_2
def c_Flat_fitPlane_0 : List eg_I := .inl (0, 1, .aload 0, 0, 0) :: c_Flat_fitPlane_1
section
variable {rm : Room} {K : Nat → Nat → Nat → eg_Lo → List Value → List eg_E → Prop} {Q : Option Value → List eg_E → Prop} {kc ks : Nat} {loc : eg_Lo} {st : List Value} {h : List eg_E}
theorem s_Flat_fitPlane_0 {x : Nat} {l : eg_Lo} : wps rm K Q c_Flat_fitPlane_0 kc ks (some (.ref x) :: l) (st) h = wps rm K Q c_Flat_fitPlane_1 kc ks (some (.ref x) :: l) (.ref x :: st) h := rfl
theorem s_Flat_fitPlane_1 {x : Nat} {l0 : Option Value} {l : eg_Lo} : wps rm K Q c_Flat_fitPlane_1 kc ks (l0 :: some (.ref x) :: l) (st) h = wps rm K Q c_Flat_fitPlane_2 kc ks (l0 :: some (.ref x) :: l) (.ref x :: st) h := rfl
theorem s_Flat_fitPlane_2  {a1 : Value} {x : Nat} : wps rm K Q c_Flat_fitPlane_2 kc ks loc (a1 :: .ref (x + 1) :: st) h = (eg_cls h x 3 ∧ st.length ≤ 4 ∧ eg_Cs n_Flat_start (.ref (x + 1) :: [a1]) h (fun v h9 => wps rm K Q c_Flat_fitPlane_5 kc ks loc (v.toList ++ st) h9)) := eg_c1_1
theorem s_Flat_fitPlane_5  : wps rm K Q c_Flat_fitPlane_5 kc ks loc (st) h = wps rm K Q c_Flat_fitPlane_6 kc ks loc (.int (0) :: st) h := rfl
theorem s_Flat_fitPlane_6 {x : Int32} : wps rm K Q c_Flat_fitPlane_6 kc ks loc (.int x :: st) h = K 7 kc ks (eg_set1 loc 3 (.int x)) (st) h := rfl
theorem s_Flat_fitPlane_7 {x : Int32} {l0 l1 l2 : Option Value} {l : eg_Lo} : wps rm K Q c_Flat_fitPlane_7 kc ks (l0 :: l1 :: l2 :: some (.int x) :: l) (st) h = wps rm K Q c_Flat_fitPlane_8 kc ks (l0 :: l1 :: l2 :: some (.int x) :: l) (.int x :: st) h := rfl
theorem s_Flat_fitPlane_8 {x : Nat} {l : eg_Lo} : wps rm K Q c_Flat_fitPlane_8 kc ks (some (.ref x) :: l) (st) h = wps rm K Q c_Flat_fitPlane_9 kc ks (some (.ref x) :: l) (.ref x :: st) h := rfl
theorem s_Flat_fitPlane_9 {x : Nat} : wps rm K Q c_Flat_fitPlane_9 kc ks loc (.ref (x + 1) :: st) h = eg_gf h x 3 0 (fun v => wps rm K Q c_Flat_fitPlane_12 kc ks loc (v :: st) h) := rfl
theorem s_Flat_fitPlane_12 {x : Nat} : wps rm K Q c_Flat_fitPlane_12 kc ks loc (.ref (x + 1) :: st) h = eg_gf h x 10 4 (fun v => wps rm K Q c_Flat_fitPlane_15 kc ks loc (v :: st) h) := rfl
theorem s_Flat_fitPlane_15 {x y : Int32} : wps rm K Q c_Flat_fitPlane_15 kc ks loc (.int y :: .int x :: st) h = ((y ≤ x → K 54 kc ks loc st h) ∧ (¬ y ≤ x → wps rm K Q c_Flat_fitPlane_18 kc ks loc (st) h)) := rfl
theorem s_Flat_fitPlane_18 {x : Int32} {l0 l1 l2 : Option Value} {l : eg_Lo} : wps rm K Q c_Flat_fitPlane_18 kc ks (l0 :: l1 :: l2 :: some (.int x) :: l) (st) h = wps rm K Q c_Flat_fitPlane_19 kc ks (l0 :: l1 :: l2 :: some (.int x) :: l) (.int x :: st) h := rfl
theorem s_Flat_fitPlane_19  : wps rm K Q c_Flat_fitPlane_19 kc ks loc (st) h = wps rm K Q c_Flat_fitPlane_20 kc ks loc (.int (1) :: st) h := rfl
theorem s_Flat_fitPlane_20 {x y : Int32} : wps rm K Q c_Flat_fitPlane_20 kc ks loc (.int y :: .int x :: st) h = wps rm K Q c_Flat_fitPlane_21 kc ks loc (.int (x + y) :: st) h := rfl
theorem s_Flat_fitPlane_21 {x : Int32} : wps rm K Q c_Flat_fitPlane_21 kc ks loc (.int x :: st) h = K 23 kc ks (eg_set1 loc 4 (.int x)) (st) h := rfl
theorem s_Flat_fitPlane_23 {x : Int32} {l0 l1 l2 l3 : Option Value} {l : eg_Lo} : wps rm K Q c_Flat_fitPlane_23 kc ks (l0 :: l1 :: l2 :: l3 :: some (.int x) :: l) (st) h = wps rm K Q c_Flat_fitPlane_25 kc ks (l0 :: l1 :: l2 :: l3 :: some (.int x) :: l) (.int x :: st) h := rfl
theorem s_Flat_fitPlane_25 {x : Nat} {l : eg_Lo} : wps rm K Q c_Flat_fitPlane_25 kc ks (some (.ref x) :: l) (st) h = wps rm K Q c_Flat_fitPlane_26 kc ks (some (.ref x) :: l) (.ref x :: st) h := rfl
theorem s_Flat_fitPlane_26 {x : Nat} : wps rm K Q c_Flat_fitPlane_26 kc ks loc (.ref (x + 1) :: st) h = eg_gf h x 3 0 (fun v => wps rm K Q c_Flat_fitPlane_29 kc ks loc (v :: st) h) := rfl
theorem s_Flat_fitPlane_29 {x : Nat} : wps rm K Q c_Flat_fitPlane_29 kc ks loc (.ref (x + 1) :: st) h = eg_gf h x 10 4 (fun v => wps rm K Q c_Flat_fitPlane_32 kc ks loc (v :: st) h) := rfl
theorem s_Flat_fitPlane_32 {x y : Int32} : wps rm K Q c_Flat_fitPlane_32 kc ks loc (.int y :: .int x :: st) h = ((y ≤ x → K 48 kc ks loc st h) ∧ (¬ y ≤ x → wps rm K Q c_Flat_fitPlane_35 kc ks loc (st) h)) := rfl
theorem s_Flat_fitPlane_35 {x : Nat} {l : eg_Lo} : wps rm K Q c_Flat_fitPlane_35 kc ks (some (.ref x) :: l) (st) h = wps rm K Q c_Flat_fitPlane_36 kc ks (some (.ref x) :: l) (.ref x :: st) h := rfl
theorem s_Flat_fitPlane_36 {x : Int32} {l0 l1 l2 : Option Value} {l : eg_Lo} : wps rm K Q c_Flat_fitPlane_36 kc ks (l0 :: l1 :: l2 :: some (.int x) :: l) (st) h = wps rm K Q c_Flat_fitPlane_37 kc ks (l0 :: l1 :: l2 :: some (.int x) :: l) (.int x :: st) h := rfl
theorem s_Flat_fitPlane_37 {x : Int32} {l0 l1 l2 l3 : Option Value} {l : eg_Lo} : wps rm K Q c_Flat_fitPlane_37 kc ks (l0 :: l1 :: l2 :: l3 :: some (.int x) :: l) (st) h = wps rm K Q c_Flat_fitPlane_39 kc ks (l0 :: l1 :: l2 :: l3 :: some (.int x) :: l) (.int x :: st) h := rfl
theorem s_Flat_fitPlane_39  {a1 : Value} {a2 : Value} {x : Nat} : wps rm K Q c_Flat_fitPlane_39 kc ks loc (a2 :: a1 :: .ref (x + 1) :: st) h = (eg_cls h x 3 ∧ st.length ≤ 4 ∧ eg_Cs n_Flat_trySecondPairs (.ref (x + 1) :: [a1, a2]) h (fun v h9 => wps rm K Q c_Flat_fitPlane_42 kc ks loc (v.toList ++ st) h9)) := eg_c1_2
theorem s_Flat_fitPlane_42 {x : Int32} {l0 l1 l2 l3 : Option Value} {l9 : eg_Lo} : wps rm K Q c_Flat_fitPlane_42 kc ks (l0 :: l1 :: l2 :: l3 :: some (.int x) :: l9) (st) h = wps rm K Q c_Flat_fitPlane_45 kc ks (eg_set1 (l0 :: l1 :: l2 :: l3 :: some (.int x) :: l9) 4 (.int (x + (1)))) (st) h := rfl
theorem s_Flat_fitPlane_45  : wps rm K Q c_Flat_fitPlane_45 kc ks loc (st) h = K 23 kc ks loc st h := rfl
theorem s_Flat_fitPlane_48 {x : Int32} {l0 l1 l2 : Option Value} {l9 : eg_Lo} : wps rm K Q c_Flat_fitPlane_48 kc ks (l0 :: l1 :: l2 :: some (.int x) :: l9) (st) h = wps rm K Q c_Flat_fitPlane_51 kc ks (eg_set1 (l0 :: l1 :: l2 :: some (.int x) :: l9) 3 (.int (x + (1)))) (st) h := rfl
theorem s_Flat_fitPlane_51  : wps rm K Q c_Flat_fitPlane_51 kc ks loc (st) h = K 7 kc ks loc st h := rfl
theorem s_Flat_fitPlane_54 {x : Nat} {l : eg_Lo} : wps rm K Q c_Flat_fitPlane_54 kc ks (some (.ref x) :: l) (st) h = wps rm K Q c_Flat_fitPlane_55 kc ks (some (.ref x) :: l) (.ref x :: st) h := rfl
theorem s_Flat_fitPlane_55 {x : Nat} : wps rm K Q c_Flat_fitPlane_55 kc ks loc (.ref (x + 1) :: st) h = eg_gf h x 3 4 (fun v => wps rm K Q c_Flat_fitPlane_58 kc ks loc (v :: st) h) := rfl
theorem s_Flat_fitPlane_58 {x : Int32} : wps rm K Q c_Flat_fitPlane_58 kc ks loc (.int x :: st) h = ((x = 0 → K 90 kc ks loc st h) ∧ (¬ x = 0 → wps rm K Q c_Flat_fitPlane_61 kc ks loc (st) h)) := rfl
theorem s_Flat_fitPlane_61 {x : Nat} {l0 l1 : Option Value} {l : eg_Lo} : wps rm K Q c_Flat_fitPlane_61 kc ks (l0 :: l1 :: some (.ref x) :: l) (st) h = wps rm K Q c_Flat_fitPlane_62 kc ks (l0 :: l1 :: some (.ref x) :: l) (.ref x :: st) h := rfl
theorem s_Flat_fitPlane_62 {x : Nat} {l : eg_Lo} : wps rm K Q c_Flat_fitPlane_62 kc ks (some (.ref x) :: l) (st) h = wps rm K Q c_Flat_fitPlane_63 kc ks (some (.ref x) :: l) (.ref x :: st) h := rfl
theorem s_Flat_fitPlane_63 {x : Nat} : wps rm K Q c_Flat_fitPlane_63 kc ks loc (.ref (x + 1) :: st) h = eg_gf h x 3 2 (fun v => wps rm K Q c_Flat_fitPlane_66 kc ks loc (v :: st) h) := rfl
theorem s_Flat_fitPlane_66  : wps rm K Q c_Flat_fitPlane_66 kc ks loc (st) h = wps rm K Q c_Flat_fitPlane_67 kc ks loc (.int (0) :: st) h := rfl
theorem s_Flat_fitPlane_67 {x : Nat} {i : Int32} : wps rm K Q c_Flat_fitPlane_67 kc ks loc (.int i :: .ref (x + 1) :: st) h = eg_la h x i (fun v => wps rm K Q c_Flat_fitPlane_68 kc ks loc (.long v :: st) h) := rfl
theorem s_Flat_fitPlane_68 {x : Nat} {l : eg_Lo} : wps rm K Q c_Flat_fitPlane_68 kc ks (some (.ref x) :: l) (st) h = wps rm K Q c_Flat_fitPlane_69 kc ks (some (.ref x) :: l) (.ref x :: st) h := rfl
theorem s_Flat_fitPlane_69 {x : Nat} : wps rm K Q c_Flat_fitPlane_69 kc ks loc (.ref (x + 1) :: st) h = eg_gf h x 3 2 (fun v => wps rm K Q c_Flat_fitPlane_72 kc ks loc (v :: st) h) := rfl
theorem s_Flat_fitPlane_72  : wps rm K Q c_Flat_fitPlane_72 kc ks loc (st) h = wps rm K Q c_Flat_fitPlane_73 kc ks loc (.int (1) :: st) h := rfl
theorem s_Flat_fitPlane_73 {x : Nat} {i : Int32} : wps rm K Q c_Flat_fitPlane_73 kc ks loc (.int i :: .ref (x + 1) :: st) h = eg_la h x i (fun v => wps rm K Q c_Flat_fitPlane_74 kc ks loc (.long v :: st) h) := rfl
theorem s_Flat_fitPlane_74 {x : Nat} {l : eg_Lo} : wps rm K Q c_Flat_fitPlane_74 kc ks (some (.ref x) :: l) (st) h = wps rm K Q c_Flat_fitPlane_75 kc ks (some (.ref x) :: l) (.ref x :: st) h := rfl
theorem s_Flat_fitPlane_75 {x : Nat} : wps rm K Q c_Flat_fitPlane_75 kc ks loc (.ref (x + 1) :: st) h = eg_gf h x 3 2 (fun v => wps rm K Q c_Flat_fitPlane_78 kc ks loc (v :: st) h) := rfl
theorem s_Flat_fitPlane_78  : wps rm K Q c_Flat_fitPlane_78 kc ks loc (st) h = wps rm K Q c_Flat_fitPlane_79 kc ks loc (.int (2) :: st) h := rfl
theorem s_Flat_fitPlane_79 {x : Nat} {i : Int32} : wps rm K Q c_Flat_fitPlane_79 kc ks loc (.int i :: .ref (x + 1) :: st) h = eg_la h x i (fun v => wps rm K Q c_Flat_fitPlane_80 kc ks loc (.long v :: st) h) := rfl
theorem s_Flat_fitPlane_80  {a1 : Value} {a2 : Value} {a3 : Value} {x : Nat} : wps rm K Q c_Flat_fitPlane_80 kc ks loc (a3 :: a2 :: a1 :: .ref (x + 1) :: st) h = (eg_cls h x 2 ∧ st.length ≤ 4 ∧ eg_Cs n_Fig_setDirection (.ref (x + 1) :: [a1, a2, a3]) h (fun v h9 => wps rm K Q c_Flat_fitPlane_83 kc ks loc (v.toList ++ st) h9)) := eg_c1_3
theorem s_Flat_fitPlane_83 {x : Nat} {l : eg_Lo} : wps rm K Q c_Flat_fitPlane_83 kc ks (some (.ref x) :: l) (st) h = wps rm K Q c_Flat_fitPlane_84 kc ks (some (.ref x) :: l) (.ref x :: st) h := rfl
theorem s_Flat_fitPlane_84 {x : Nat} {l0 l1 : Option Value} {l : eg_Lo} : wps rm K Q c_Flat_fitPlane_84 kc ks (l0 :: l1 :: some (.ref x) :: l) (st) h = wps rm K Q c_Flat_fitPlane_85 kc ks (l0 :: l1 :: some (.ref x) :: l) (.ref x :: st) h := rfl
theorem s_Flat_fitPlane_85  : wps rm K Q c_Flat_fitPlane_85 kc ks loc (st) h = wps rm K Q c_Flat_fitPlane_86 kc ks loc (.int (3) :: st) h := rfl
theorem s_Flat_fitPlane_86  : wps rm K Q c_Flat_fitPlane_86 kc ks loc (st) h = wps rm K Q c_Flat_fitPlane_87 kc ks loc (.int (4) :: st) h := rfl
theorem s_Flat_fitPlane_87  {a1 : Value} {a2 : Value} {a3 : Value} {x : Nat} : wps rm K Q c_Flat_fitPlane_87 kc ks loc (a3 :: a2 :: a1 :: .ref (x + 1) :: st) h = (eg_cls h x 3 ∧ st.length ≤ 4 ∧ eg_Cs n_Flat_finish (.ref (x + 1) :: [a1, a2, a3]) h (fun v h9 => wps rm K Q c_Flat_fitPlane_90 kc ks loc (v.toList ++ st) h9)) := eg_c1_3
theorem s_Flat_fitPlane_90 {x : Nat} {l : eg_Lo} : wps rm K Q c_Flat_fitPlane_90 kc ks (some (.ref x) :: l) (st) h = wps rm K Q c_Flat_fitPlane_91 kc ks (some (.ref x) :: l) (.ref x :: st) h := rfl
theorem s_Flat_fitPlane_91 {x : Nat} : wps rm K Q c_Flat_fitPlane_91 kc ks loc (.ref (x + 1) :: st) h = eg_gf h x 3 4 (fun v => wps rm K Q c_Flat_fitPlane_94 kc ks loc (v :: st) h) := rfl
theorem s_Flat_fitPlane_94 {x : Int32} : wps rm K Q c_Flat_fitPlane_94 kc ks loc ([.int x]) h = (kc = rm.cells ∧ ((1 : Nat) = 1 → x = 0 ∨ x = 1) ∧ Q (some (.int x)) h) := rfl
def T_Flat_fitPlane : List (Nat × List eg_I) := [(48, c_Flat_fitPlane_48), (54, c_Flat_fitPlane_54), (90, c_Flat_fitPlane_90)]
theorem j_Flat_fitPlane_48 {R : Nat → Nat → Nat → eg_Lo → List Value → List eg_E → Prop} {f pc0 : Nat} : eg_run rm R Q T_Flat_fitPlane (f + 1) 48 kc ks loc st h = wps rm (eg_run rm R Q T_Flat_fitPlane f) Q c_Flat_fitPlane_48 kc ks loc st h := rfl
theorem j_Flat_fitPlane_54 {R : Nat → Nat → Nat → eg_Lo → List Value → List eg_E → Prop} {f pc0 : Nat} : eg_run rm R Q T_Flat_fitPlane (f + 1) 54 kc ks loc st h = wps rm (eg_run rm R Q T_Flat_fitPlane f) Q c_Flat_fitPlane_54 kc ks loc st h := rfl
theorem j_Flat_fitPlane_90 {R : Nat → Nat → Nat → eg_Lo → List Value → List eg_E → Prop} {f pc0 : Nat} : eg_run rm R Q T_Flat_fitPlane (f + 1) 90 kc ks loc st h = wps rm (eg_run rm R Q T_Flat_fitPlane f) Q c_Flat_fitPlane_90 kc ks loc st h := rfl
theorem j_Flat_fitPlane_7 {R : Nat → Nat → Nat → eg_Lo → List Value → List eg_E → Prop} {f pc0 : Nat} : eg_run rm R Q T_Flat_fitPlane (f + 1) 7 kc ks loc st h = R 7 kc ks loc st h := rfl
theorem j_Flat_fitPlane_23 {R : Nat → Nat → Nat → eg_Lo → List Value → List eg_E → Prop} {f pc0 : Nat} : eg_run rm R Q T_Flat_fitPlane (f + 1) 23 kc ks loc st h = R 23 kc ks loc st h := rfl
end
theorem q_Flat_fitPlane : (T_Flat_fitPlane.all fun q => eg_seq m_Flat_fitPlane q.1 q.2) = true := by decide +kernel
theorem b_Flat_fitPlane {as : List Value} {h : List eg_E} {Q : Option Value → List eg_E → Prop} (hf : (eg_fl as).length ≤ 5) (hw : wps (eg_rm m_Flat_fitPlane) (eg_run (eg_rm m_Flat_fitPlane) (eg_R m_Flat_fitPlane Q (h.length + 0)) Q T_Flat_fitPlane 5) Q c_Flat_fitPlane_0 0 0 (eg_entry 5 as) [] h) : eg_Runs n_Flat_fitPlane as h Q := eg_begin (d := m_Flat_fitPlane) rfl (by decide) (by decide +kernel) q_Flat_fitPlane hf hw
theorem p_Flat_fitPlane_7 {Q : Option Value → List eg_E → Prop} {n0 kc ks : Nat} {loc : eg_Lo} {st : List Value} {h : List eg_E} (hw : wps (eg_rm m_Flat_fitPlane) (eg_run (eg_rm m_Flat_fitPlane) (eg_R m_Flat_fitPlane Q n0) Q T_Flat_fitPlane 5) Q c_Flat_fitPlane_7 kc ks loc st h) : eg_R m_Flat_fitPlane Q n0 7 kc ks loc st h := eg_go (by decide +kernel) q_Flat_fitPlane hw
theorem p_Flat_fitPlane_23 {Q : Option Value → List eg_E → Prop} {n0 kc ks : Nat} {loc : eg_Lo} {st : List Value} {h : List eg_E} (hw : wps (eg_rm m_Flat_fitPlane) (eg_run (eg_rm m_Flat_fitPlane) (eg_R m_Flat_fitPlane Q n0) Q T_Flat_fitPlane 5) Q c_Flat_fitPlane_23 kc ks loc st h) : eg_R m_Flat_fitPlane Q n0 23 kc ks loc st h := eg_go (by decide +kernel) q_Flat_fitPlane hw
/-! ===== Flat_start ===== -/
def c_Flat_start_13 : List eg_I := .inl (13, 1, .return_, 0, 0) :: []
def c_Flat_start_10 : List eg_I := .inl (10, 3, .putstatic 51, 3, 4) :: c_Flat_start_13
def c_Flat_start_9 : List eg_I := .inl (9, 1, .iconst (0), 0, 0) :: c_Flat_start_10
def c_Flat_start_8 : List eg_I := .inl (8, 1, .aload 0, 0, 0) :: c_Flat_start_9
def c_Flat_start_5 : List eg_I := .inr (5, 1, 69, n_Tou_gather, 1, 10, 0, 0) :: c_Flat_start_8
def c_Flat_start_4 : List eg_I := .inl (4, 1, .aload 1, 0, 0) :: c_Flat_start_5
def c_Flat_start_1 : List eg_I := .inl (1, 3, .getfield 12, 3, 0) :: c_Flat_start_4
def c_Flat_start_0 : List eg_I := .inl (0, 1, .aload 0, 0, 0) :: c_Flat_start_1
section
variable {rm : Room} {K : Nat → Nat → Nat → eg_Lo → List Value → List eg_E → Prop} {Q : Option Value → List eg_E → Prop} {kc ks : Nat} {loc : eg_Lo} {st : List Value} {h : List eg_E}
theorem s_Flat_start_0 {x : Nat} {l : eg_Lo} : wps rm K Q c_Flat_start_0 kc ks (some (.ref x) :: l) (st) h = wps rm K Q c_Flat_start_1 kc ks (some (.ref x) :: l) (.ref x :: st) h := rfl
theorem s_Flat_start_1 {x : Nat} : wps rm K Q c_Flat_start_1 kc ks loc (.ref (x + 1) :: st) h = eg_gf h x 3 0 (fun v => wps rm K Q c_Flat_start_4 kc ks loc (v :: st) h) := rfl
theorem s_Flat_start_4 {x : Nat} {l0 : Option Value} {l : eg_Lo} : wps rm K Q c_Flat_start_4 kc ks (l0 :: some (.ref x) :: l) (st) h = wps rm K Q c_Flat_start_5 kc ks (l0 :: some (.ref x) :: l) (.ref x :: st) h := rfl
theorem s_Flat_start_5  {a1 : Value} {x : Nat} : wps rm K Q c_Flat_start_5 kc ks loc (a1 :: .ref (x + 1) :: st) h = (eg_cls h x 10 ∧ st.length ≤ 4 ∧ eg_Cs n_Tou_gather (.ref (x + 1) :: [a1]) h (fun v h9 => wps rm K Q c_Flat_start_8 kc ks loc (v.toList ++ st) h9)) := eg_c1_1
theorem s_Flat_start_8 {x : Nat} {l : eg_Lo} : wps rm K Q c_Flat_start_8 kc ks (some (.ref x) :: l) (st) h = wps rm K Q c_Flat_start_9 kc ks (some (.ref x) :: l) (.ref x :: st) h := rfl
theorem s_Flat_start_9  : wps rm K Q c_Flat_start_9 kc ks loc (st) h = wps rm K Q c_Flat_start_10 kc ks loc (.int (0) :: st) h := rfl
theorem s_Flat_start_10 {x : Nat} {v : Int32} : wps rm K Q c_Flat_start_10 kc ks loc (.int v :: .ref (x + 1) :: st) h = eg_pb h x 3 4 v (fun h9 => wps rm K Q c_Flat_start_13 kc ks loc (st) h9) := rfl
theorem s_Flat_start_13  : wps rm K Q c_Flat_start_13 kc ks loc ([]) h = (kc = rm.cells ∧ Q none h) := rfl
def T_Flat_start : List (Nat × List eg_I) := []
end
theorem q_Flat_start : (T_Flat_start.all fun q => eg_seq m_Flat_start q.1 q.2) = true := by decide +kernel
theorem b_Flat_start {as : List Value} {h : List eg_E} {Q : Option Value → List eg_E → Prop} (hf : (eg_fl as).length ≤ 2) (hw : wps (eg_rm m_Flat_start) (eg_run (eg_rm m_Flat_start) (eg_R m_Flat_start Q (h.length + 0)) Q T_Flat_start 2) Q c_Flat_start_0 0 0 (eg_entry 2 as) [] h) : eg_Runs n_Flat_start as h Q := eg_begin (d := m_Flat_start) rfl (by decide) (by decide +kernel) q_Flat_start hf hw
/-! ===== Flat_trySecondPairs ===== -/
def c_Flat_trySecondPairs_85 : List eg_I := .inl (85, 1, .return_, 0, 0) :: []
def c_Flat_trySecondPairs_82 : List eg_I := .inl (82, 3, .goto (-80), 2, 0) :: []
def c_Flat_trySecondPairs_79 : List eg_I := .inl (79, 3, .iinc 3 (1), 0, 0) :: c_Flat_trySecondPairs_82
def c_Flat_trySecondPairs_76 : List eg_I := .inl (76, 3, .goto (-47), 29, 0) :: []
def c_Flat_trySecondPairs_73 : List eg_I := .inl (73, 3, .iinc 4 (1), 0, 0) :: c_Flat_trySecondPairs_76
def c_Flat_trySecondPairs_70 : List eg_I := .inr (70, 1, 47, n_Flat_hold, 3, 3, 0, 0) :: c_Flat_trySecondPairs_73
def c_Flat_trySecondPairs_68 : List eg_I := .inl (68, 2, .iload 4, 0, 0) :: c_Flat_trySecondPairs_70
def c_Flat_trySecondPairs_67 : List eg_I := .inl (67, 1, .iload 3, 0, 0) :: c_Flat_trySecondPairs_68
def c_Flat_trySecondPairs_66 : List eg_I := .inl (66, 1, .iconst (2), 0, 0) :: c_Flat_trySecondPairs_67
def c_Flat_trySecondPairs_65 : List eg_I := .inl (65, 1, .aload 0, 0, 0) :: c_Flat_trySecondPairs_66
def c_Flat_trySecondPairs_62 : List eg_I := .inr (62, 1, 47, n_Flat_hold, 3, 3, 0, 0) :: c_Flat_trySecondPairs_65
def c_Flat_trySecondPairs_61 : List eg_I := .inl (61, 1, .iload 2, 0, 0) :: c_Flat_trySecondPairs_62
def c_Flat_trySecondPairs_60 : List eg_I := .inl (60, 1, .iload 1, 0, 0) :: c_Flat_trySecondPairs_61
def c_Flat_trySecondPairs_59 : List eg_I := .inl (59, 1, .iconst (0), 0, 0) :: c_Flat_trySecondPairs_60
def c_Flat_trySecondPairs_58 : List eg_I := .inl (58, 1, .aload 0, 0, 0) :: c_Flat_trySecondPairs_59
def c_Flat_trySecondPairs_55 : List eg_I := .inl (55, 3, .ifCond .eq (18), 73, 0) :: c_Flat_trySecondPairs_58
def c_Flat_trySecondPairs_52 : List eg_I := .inr (52, 1, 43, n_Flat_isBetter, 1, 3, 0, 0) :: c_Flat_trySecondPairs_55
def c_Flat_trySecondPairs_51 : List eg_I := .inl (51, 1, .iload 1, 0, 0) :: c_Flat_trySecondPairs_52
def c_Flat_trySecondPairs_50 : List eg_I := .inl (50, 1, .aload 0, 0, 0) :: c_Flat_trySecondPairs_51
def c_Flat_trySecondPairs_47 : List eg_I := .inr (47, 1, 72, n_Flat_crossProduct, 4, 3, 0, 0) :: c_Flat_trySecondPairs_50
def c_Flat_trySecondPairs_45 : List eg_I := .inl (45, 2, .iload 4, 0, 0) :: c_Flat_trySecondPairs_47
def c_Flat_trySecondPairs_44 : List eg_I := .inl (44, 1, .iload 3, 0, 0) :: c_Flat_trySecondPairs_45
def c_Flat_trySecondPairs_43 : List eg_I := .inl (43, 1, .iload 2, 0, 0) :: c_Flat_trySecondPairs_44
def c_Flat_trySecondPairs_42 : List eg_I := .inl (42, 1, .iload 1, 0, 0) :: c_Flat_trySecondPairs_43
def c_Flat_trySecondPairs_41 : List eg_I := .inl (41, 1, .aload 0, 0, 0) :: c_Flat_trySecondPairs_42
def c_Flat_trySecondPairs_38 : List eg_I := .inl (38, 3, .if_icmp .ge (41), 79, 0) :: c_Flat_trySecondPairs_41
def c_Flat_trySecondPairs_35 : List eg_I := .inl (35, 3, .getfield 33, 10, 4) :: c_Flat_trySecondPairs_38
def c_Flat_trySecondPairs_32 : List eg_I := .inl (32, 3, .getfield 12, 3, 0) :: c_Flat_trySecondPairs_35
def c_Flat_trySecondPairs_31 : List eg_I := .inl (31, 1, .aload 0, 0, 0) :: c_Flat_trySecondPairs_32
def c_Flat_trySecondPairs_29 : List eg_I := .inl (29, 2, .iload 4, 0, 0) :: c_Flat_trySecondPairs_31
def c_Flat_trySecondPairs_27 : List eg_I := .inl (27, 2, .istore 4, 0, 0) :: [.inl (29, 0, .nop, 0, 0)]
def c_Flat_trySecondPairs_26 : List eg_I := .inl (26, 1, .iadd, 0, 0) :: c_Flat_trySecondPairs_27
def c_Flat_trySecondPairs_25 : List eg_I := .inl (25, 1, .iconst (1), 0, 0) :: c_Flat_trySecondPairs_26
def c_Flat_trySecondPairs_24 : List eg_I := .inl (24, 1, .iload 3, 0, 0) :: c_Flat_trySecondPairs_25
def c_Flat_trySecondPairs_21 : List eg_I := .inl (21, 3, .goto (6), 27, 0) :: []
def c_Flat_trySecondPairs_20 : List eg_I := .inl (20, 1, .iadd, 0, 0) :: c_Flat_trySecondPairs_21
def c_Flat_trySecondPairs_19 : List eg_I := .inl (19, 1, .iconst (1), 0, 0) :: c_Flat_trySecondPairs_20
def c_Flat_trySecondPairs_18 : List eg_I := .inl (18, 1, .iload 2, 0, 0) :: c_Flat_trySecondPairs_19
def c_Flat_trySecondPairs_15 : List eg_I := .inl (15, 3, .if_icmp .ne (9), 24, 0) :: c_Flat_trySecondPairs_18
def c_Flat_trySecondPairs_14 : List eg_I := .inl (14, 1, .iload 1, 0, 0) :: c_Flat_trySecondPairs_15
def c_Flat_trySecondPairs_13 : List eg_I := .inl (13, 1, .iload 3, 0, 0) :: c_Flat_trySecondPairs_14
def c_Flat_trySecondPairs_10 : List eg_I := .inl (10, 3, .if_icmp .ge (75), 85, 0) :: c_Flat_trySecondPairs_13
def c_Flat_trySecondPairs_7 : List eg_I := .inl (7, 3, .getfield 33, 10, 4) :: c_Flat_trySecondPairs_10
def c_Flat_trySecondPairs_4 : List eg_I := .inl (4, 3, .getfield 12, 3, 0) :: c_Flat_trySecondPairs_7
def c_Flat_trySecondPairs_3 : List eg_I := .inl (3, 1, .aload 0, 0, 0) :: c_Flat_trySecondPairs_4
def c_Flat_trySecondPairs_2 : List eg_I := .inl (2, 1, .iload 3, 0, 0) :: c_Flat_trySecondPairs_3
def c_Flat_trySecondPairs_1 : List eg_I := .inl (1, 1, .istore 3, 0, 0) :: [.inl (2, 0, .nop, 0, 0)]
def c_Flat_trySecondPairs_0 : List eg_I := .inl (0, 1, .iload 1, 0, 0) :: c_Flat_trySecondPairs_1
section
variable {rm : Room} {K : Nat → Nat → Nat → eg_Lo → List Value → List eg_E → Prop} {Q : Option Value → List eg_E → Prop} {kc ks : Nat} {loc : eg_Lo} {st : List Value} {h : List eg_E}
theorem s_Flat_trySecondPairs_0 {x : Int32} {l0 : Option Value} {l : eg_Lo} : wps rm K Q c_Flat_trySecondPairs_0 kc ks (l0 :: some (.int x) :: l) (st) h = wps rm K Q c_Flat_trySecondPairs_1 kc ks (l0 :: some (.int x) :: l) (.int x :: st) h := rfl
theorem s_Flat_trySecondPairs_1 {x : Int32} : wps rm K Q c_Flat_trySecondPairs_1 kc ks loc (.int x :: st) h = K 2 kc ks (eg_set1 loc 3 (.int x)) (st) h := rfl
theorem s_Flat_trySecondPairs_2 {x : Int32} {l0 l1 l2 : Option Value} {l : eg_Lo} : wps rm K Q c_Flat_trySecondPairs_2 kc ks (l0 :: l1 :: l2 :: some (.int x) :: l) (st) h = wps rm K Q c_Flat_trySecondPairs_3 kc ks (l0 :: l1 :: l2 :: some (.int x) :: l) (.int x :: st) h := rfl
theorem s_Flat_trySecondPairs_3 {x : Nat} {l : eg_Lo} : wps rm K Q c_Flat_trySecondPairs_3 kc ks (some (.ref x) :: l) (st) h = wps rm K Q c_Flat_trySecondPairs_4 kc ks (some (.ref x) :: l) (.ref x :: st) h := rfl
theorem s_Flat_trySecondPairs_4 {x : Nat} : wps rm K Q c_Flat_trySecondPairs_4 kc ks loc (.ref (x + 1) :: st) h = eg_gf h x 3 0 (fun v => wps rm K Q c_Flat_trySecondPairs_7 kc ks loc (v :: st) h) := rfl
theorem s_Flat_trySecondPairs_7 {x : Nat} : wps rm K Q c_Flat_trySecondPairs_7 kc ks loc (.ref (x + 1) :: st) h = eg_gf h x 10 4 (fun v => wps rm K Q c_Flat_trySecondPairs_10 kc ks loc (v :: st) h) := rfl
theorem s_Flat_trySecondPairs_10 {x y : Int32} : wps rm K Q c_Flat_trySecondPairs_10 kc ks loc (.int y :: .int x :: st) h = ((y ≤ x → K 85 kc ks loc st h) ∧ (¬ y ≤ x → wps rm K Q c_Flat_trySecondPairs_13 kc ks loc (st) h)) := rfl
theorem s_Flat_trySecondPairs_13 {x : Int32} {l0 l1 l2 : Option Value} {l : eg_Lo} : wps rm K Q c_Flat_trySecondPairs_13 kc ks (l0 :: l1 :: l2 :: some (.int x) :: l) (st) h = wps rm K Q c_Flat_trySecondPairs_14 kc ks (l0 :: l1 :: l2 :: some (.int x) :: l) (.int x :: st) h := rfl
theorem s_Flat_trySecondPairs_14 {x : Int32} {l0 : Option Value} {l : eg_Lo} : wps rm K Q c_Flat_trySecondPairs_14 kc ks (l0 :: some (.int x) :: l) (st) h = wps rm K Q c_Flat_trySecondPairs_15 kc ks (l0 :: some (.int x) :: l) (.int x :: st) h := rfl
theorem s_Flat_trySecondPairs_15 {x y : Int32} : wps rm K Q c_Flat_trySecondPairs_15 kc ks loc (.int y :: .int x :: st) h = ((¬ x = y → K 24 kc ks loc st h) ∧ (x = y → wps rm K Q c_Flat_trySecondPairs_18 kc ks loc (st) h)) := rfl
theorem s_Flat_trySecondPairs_18 {x : Int32} {l0 l1 : Option Value} {l : eg_Lo} : wps rm K Q c_Flat_trySecondPairs_18 kc ks (l0 :: l1 :: some (.int x) :: l) (st) h = wps rm K Q c_Flat_trySecondPairs_19 kc ks (l0 :: l1 :: some (.int x) :: l) (.int x :: st) h := rfl
theorem s_Flat_trySecondPairs_19  : wps rm K Q c_Flat_trySecondPairs_19 kc ks loc (st) h = wps rm K Q c_Flat_trySecondPairs_20 kc ks loc (.int (1) :: st) h := rfl
theorem s_Flat_trySecondPairs_20 {x y : Int32} : wps rm K Q c_Flat_trySecondPairs_20 kc ks loc (.int y :: .int x :: st) h = wps rm K Q c_Flat_trySecondPairs_21 kc ks loc (.int (x + y) :: st) h := rfl
theorem s_Flat_trySecondPairs_21  : wps rm K Q c_Flat_trySecondPairs_21 kc ks loc (st) h = K 27 kc ks loc st h := rfl
theorem s_Flat_trySecondPairs_24 {x : Int32} {l0 l1 l2 : Option Value} {l : eg_Lo} : wps rm K Q c_Flat_trySecondPairs_24 kc ks (l0 :: l1 :: l2 :: some (.int x) :: l) (st) h = wps rm K Q c_Flat_trySecondPairs_25 kc ks (l0 :: l1 :: l2 :: some (.int x) :: l) (.int x :: st) h := rfl
theorem s_Flat_trySecondPairs_25  : wps rm K Q c_Flat_trySecondPairs_25 kc ks loc (st) h = wps rm K Q c_Flat_trySecondPairs_26 kc ks loc (.int (1) :: st) h := rfl
theorem s_Flat_trySecondPairs_26 {x y : Int32} : wps rm K Q c_Flat_trySecondPairs_26 kc ks loc (.int y :: .int x :: st) h = wps rm K Q c_Flat_trySecondPairs_27 kc ks loc (.int (x + y) :: st) h := rfl
theorem s_Flat_trySecondPairs_27 {x : Int32} : wps rm K Q c_Flat_trySecondPairs_27 kc ks loc (.int x :: st) h = K 29 kc ks (eg_set1 loc 4 (.int x)) (st) h := rfl
theorem s_Flat_trySecondPairs_29 {x : Int32} {l0 l1 l2 l3 : Option Value} {l : eg_Lo} : wps rm K Q c_Flat_trySecondPairs_29 kc ks (l0 :: l1 :: l2 :: l3 :: some (.int x) :: l) (st) h = wps rm K Q c_Flat_trySecondPairs_31 kc ks (l0 :: l1 :: l2 :: l3 :: some (.int x) :: l) (.int x :: st) h := rfl
theorem s_Flat_trySecondPairs_31 {x : Nat} {l : eg_Lo} : wps rm K Q c_Flat_trySecondPairs_31 kc ks (some (.ref x) :: l) (st) h = wps rm K Q c_Flat_trySecondPairs_32 kc ks (some (.ref x) :: l) (.ref x :: st) h := rfl
theorem s_Flat_trySecondPairs_32 {x : Nat} : wps rm K Q c_Flat_trySecondPairs_32 kc ks loc (.ref (x + 1) :: st) h = eg_gf h x 3 0 (fun v => wps rm K Q c_Flat_trySecondPairs_35 kc ks loc (v :: st) h) := rfl
theorem s_Flat_trySecondPairs_35 {x : Nat} : wps rm K Q c_Flat_trySecondPairs_35 kc ks loc (.ref (x + 1) :: st) h = eg_gf h x 10 4 (fun v => wps rm K Q c_Flat_trySecondPairs_38 kc ks loc (v :: st) h) := rfl
theorem s_Flat_trySecondPairs_38 {x y : Int32} : wps rm K Q c_Flat_trySecondPairs_38 kc ks loc (.int y :: .int x :: st) h = ((y ≤ x → K 79 kc ks loc st h) ∧ (¬ y ≤ x → wps rm K Q c_Flat_trySecondPairs_41 kc ks loc (st) h)) := rfl
theorem s_Flat_trySecondPairs_41 {x : Nat} {l : eg_Lo} : wps rm K Q c_Flat_trySecondPairs_41 kc ks (some (.ref x) :: l) (st) h = wps rm K Q c_Flat_trySecondPairs_42 kc ks (some (.ref x) :: l) (.ref x :: st) h := rfl
theorem s_Flat_trySecondPairs_42 {x : Int32} {l0 : Option Value} {l : eg_Lo} : wps rm K Q c_Flat_trySecondPairs_42 kc ks (l0 :: some (.int x) :: l) (st) h = wps rm K Q c_Flat_trySecondPairs_43 kc ks (l0 :: some (.int x) :: l) (.int x :: st) h := rfl
theorem s_Flat_trySecondPairs_43 {x : Int32} {l0 l1 : Option Value} {l : eg_Lo} : wps rm K Q c_Flat_trySecondPairs_43 kc ks (l0 :: l1 :: some (.int x) :: l) (st) h = wps rm K Q c_Flat_trySecondPairs_44 kc ks (l0 :: l1 :: some (.int x) :: l) (.int x :: st) h := rfl
theorem s_Flat_trySecondPairs_44 {x : Int32} {l0 l1 l2 : Option Value} {l : eg_Lo} : wps rm K Q c_Flat_trySecondPairs_44 kc ks (l0 :: l1 :: l2 :: some (.int x) :: l) (st) h = wps rm K Q c_Flat_trySecondPairs_45 kc ks (l0 :: l1 :: l2 :: some (.int x) :: l) (.int x :: st) h := rfl
theorem s_Flat_trySecondPairs_45 {x : Int32} {l0 l1 l2 l3 : Option Value} {l : eg_Lo} : wps rm K Q c_Flat_trySecondPairs_45 kc ks (l0 :: l1 :: l2 :: l3 :: some (.int x) :: l) (st) h = wps rm K Q c_Flat_trySecondPairs_47 kc ks (l0 :: l1 :: l2 :: l3 :: some (.int x) :: l) (.int x :: st) h := rfl
theorem s_Flat_trySecondPairs_47  {a1 : Value} {a2 : Value} {a3 : Value} {a4 : Value} {x : Nat} : wps rm K Q c_Flat_trySecondPairs_47 kc ks loc (a4 :: a3 :: a2 :: a1 :: .ref (x + 1) :: st) h = (eg_cls h x 3 ∧ st.length ≤ 4 ∧ eg_Cs n_Flat_crossProduct (.ref (x + 1) :: [a1, a2, a3, a4]) h (fun v h9 => wps rm K Q c_Flat_trySecondPairs_50 kc ks loc (v.toList ++ st) h9)) := eg_c1_4
theorem s_Flat_trySecondPairs_50 {x : Nat} {l : eg_Lo} : wps rm K Q c_Flat_trySecondPairs_50 kc ks (some (.ref x) :: l) (st) h = wps rm K Q c_Flat_trySecondPairs_51 kc ks (some (.ref x) :: l) (.ref x :: st) h := rfl
theorem s_Flat_trySecondPairs_51 {x : Int32} {l0 : Option Value} {l : eg_Lo} : wps rm K Q c_Flat_trySecondPairs_51 kc ks (l0 :: some (.int x) :: l) (st) h = wps rm K Q c_Flat_trySecondPairs_52 kc ks (l0 :: some (.int x) :: l) (.int x :: st) h := rfl
theorem s_Flat_trySecondPairs_52  {a1 : Value} {x : Nat} : wps rm K Q c_Flat_trySecondPairs_52 kc ks loc (a1 :: .ref (x + 1) :: st) h = (eg_cls h x 3 ∧ st.length ≤ 4 ∧ eg_Cs n_Flat_isBetter (.ref (x + 1) :: [a1]) h (fun v h9 => wps rm K Q c_Flat_trySecondPairs_55 kc ks loc (v.toList ++ st) h9)) := eg_c1_1
theorem s_Flat_trySecondPairs_55 {x : Int32} : wps rm K Q c_Flat_trySecondPairs_55 kc ks loc (.int x :: st) h = ((x = 0 → K 73 kc ks loc st h) ∧ (¬ x = 0 → wps rm K Q c_Flat_trySecondPairs_58 kc ks loc (st) h)) := rfl
theorem s_Flat_trySecondPairs_58 {x : Nat} {l : eg_Lo} : wps rm K Q c_Flat_trySecondPairs_58 kc ks (some (.ref x) :: l) (st) h = wps rm K Q c_Flat_trySecondPairs_59 kc ks (some (.ref x) :: l) (.ref x :: st) h := rfl
theorem s_Flat_trySecondPairs_59  : wps rm K Q c_Flat_trySecondPairs_59 kc ks loc (st) h = wps rm K Q c_Flat_trySecondPairs_60 kc ks loc (.int (0) :: st) h := rfl
theorem s_Flat_trySecondPairs_60 {x : Int32} {l0 : Option Value} {l : eg_Lo} : wps rm K Q c_Flat_trySecondPairs_60 kc ks (l0 :: some (.int x) :: l) (st) h = wps rm K Q c_Flat_trySecondPairs_61 kc ks (l0 :: some (.int x) :: l) (.int x :: st) h := rfl
theorem s_Flat_trySecondPairs_61 {x : Int32} {l0 l1 : Option Value} {l : eg_Lo} : wps rm K Q c_Flat_trySecondPairs_61 kc ks (l0 :: l1 :: some (.int x) :: l) (st) h = wps rm K Q c_Flat_trySecondPairs_62 kc ks (l0 :: l1 :: some (.int x) :: l) (.int x :: st) h := rfl
theorem s_Flat_trySecondPairs_62  {a1 : Value} {a2 : Value} {a3 : Value} {x : Nat} : wps rm K Q c_Flat_trySecondPairs_62 kc ks loc (a3 :: a2 :: a1 :: .ref (x + 1) :: st) h = (eg_cls h x 3 ∧ st.length ≤ 4 ∧ eg_Cs n_Flat_hold (.ref (x + 1) :: [a1, a2, a3]) h (fun v h9 => wps rm K Q c_Flat_trySecondPairs_65 kc ks loc (v.toList ++ st) h9)) := eg_c1_3
theorem s_Flat_trySecondPairs_65 {x : Nat} {l : eg_Lo} : wps rm K Q c_Flat_trySecondPairs_65 kc ks (some (.ref x) :: l) (st) h = wps rm K Q c_Flat_trySecondPairs_66 kc ks (some (.ref x) :: l) (.ref x :: st) h := rfl
theorem s_Flat_trySecondPairs_66  : wps rm K Q c_Flat_trySecondPairs_66 kc ks loc (st) h = wps rm K Q c_Flat_trySecondPairs_67 kc ks loc (.int (2) :: st) h := rfl
theorem s_Flat_trySecondPairs_67 {x : Int32} {l0 l1 l2 : Option Value} {l : eg_Lo} : wps rm K Q c_Flat_trySecondPairs_67 kc ks (l0 :: l1 :: l2 :: some (.int x) :: l) (st) h = wps rm K Q c_Flat_trySecondPairs_68 kc ks (l0 :: l1 :: l2 :: some (.int x) :: l) (.int x :: st) h := rfl
theorem s_Flat_trySecondPairs_68 {x : Int32} {l0 l1 l2 l3 : Option Value} {l : eg_Lo} : wps rm K Q c_Flat_trySecondPairs_68 kc ks (l0 :: l1 :: l2 :: l3 :: some (.int x) :: l) (st) h = wps rm K Q c_Flat_trySecondPairs_70 kc ks (l0 :: l1 :: l2 :: l3 :: some (.int x) :: l) (.int x :: st) h := rfl
theorem s_Flat_trySecondPairs_70  {a1 : Value} {a2 : Value} {a3 : Value} {x : Nat} : wps rm K Q c_Flat_trySecondPairs_70 kc ks loc (a3 :: a2 :: a1 :: .ref (x + 1) :: st) h = (eg_cls h x 3 ∧ st.length ≤ 4 ∧ eg_Cs n_Flat_hold (.ref (x + 1) :: [a1, a2, a3]) h (fun v h9 => wps rm K Q c_Flat_trySecondPairs_73 kc ks loc (v.toList ++ st) h9)) := eg_c1_3
theorem s_Flat_trySecondPairs_73 {x : Int32} {l0 l1 l2 l3 : Option Value} {l9 : eg_Lo} : wps rm K Q c_Flat_trySecondPairs_73 kc ks (l0 :: l1 :: l2 :: l3 :: some (.int x) :: l9) (st) h = wps rm K Q c_Flat_trySecondPairs_76 kc ks (eg_set1 (l0 :: l1 :: l2 :: l3 :: some (.int x) :: l9) 4 (.int (x + (1)))) (st) h := rfl
theorem s_Flat_trySecondPairs_76  : wps rm K Q c_Flat_trySecondPairs_76 kc ks loc (st) h = K 29 kc ks loc st h := rfl
theorem s_Flat_trySecondPairs_79 {x : Int32} {l0 l1 l2 : Option Value} {l9 : eg_Lo} : wps rm K Q c_Flat_trySecondPairs_79 kc ks (l0 :: l1 :: l2 :: some (.int x) :: l9) (st) h = wps rm K Q c_Flat_trySecondPairs_82 kc ks (eg_set1 (l0 :: l1 :: l2 :: some (.int x) :: l9) 3 (.int (x + (1)))) (st) h := rfl
theorem s_Flat_trySecondPairs_82  : wps rm K Q c_Flat_trySecondPairs_82 kc ks loc (st) h = K 2 kc ks loc st h := rfl
theorem s_Flat_trySecondPairs_85  : wps rm K Q c_Flat_trySecondPairs_85 kc ks loc ([]) h = (kc = rm.cells ∧ Q none h) := rfl
def T_Flat_trySecondPairs : List (Nat × List eg_I) := [(24, c_Flat_trySecondPairs_24), (27, c_Flat_trySecondPairs_27), (73, c_Flat_trySecondPairs_73), (79, c_Flat_trySecondPairs_79), (85, c_Flat_trySecondPairs_85)]
theorem j_Flat_trySecondPairs_24 {R : Nat → Nat → Nat → eg_Lo → List Value → List eg_E → Prop} {f pc0 : Nat} : eg_run rm R Q T_Flat_trySecondPairs (f + 1) 24 kc ks loc st h = wps rm (eg_run rm R Q T_Flat_trySecondPairs f) Q c_Flat_trySecondPairs_24 kc ks loc st h := rfl
theorem j_Flat_trySecondPairs_27 {R : Nat → Nat → Nat → eg_Lo → List Value → List eg_E → Prop} {f pc0 : Nat} : eg_run rm R Q T_Flat_trySecondPairs (f + 1) 27 kc ks loc st h = wps rm (eg_run rm R Q T_Flat_trySecondPairs f) Q c_Flat_trySecondPairs_27 kc ks loc st h := rfl
theorem j_Flat_trySecondPairs_73 {R : Nat → Nat → Nat → eg_Lo → List Value → List eg_E → Prop} {f pc0 : Nat} : eg_run rm R Q T_Flat_trySecondPairs (f + 1) 73 kc ks loc st h = wps rm (eg_run rm R Q T_Flat_trySecondPairs f) Q c_Flat_trySecondPairs_73 kc ks loc st h := rfl
theorem j_Flat_trySecondPairs_79 {R : Nat → Nat → Nat → eg_Lo → List Value → List eg_E → Prop} {f pc0 : Nat} : eg_run rm R Q T_Flat_trySecondPairs (f + 1) 79 kc ks loc st h = wps rm (eg_run rm R Q T_Flat_trySecondPairs f) Q c_Flat_trySecondPairs_79 kc ks loc st h := rfl
theorem j_Flat_trySecondPairs_85 {R : Nat → Nat → Nat → eg_Lo → List Value → List eg_E → Prop} {f pc0 : Nat} : eg_run rm R Q T_Flat_trySecondPairs (f + 1) 85 kc ks loc st h = wps rm (eg_run rm R Q T_Flat_trySecondPairs f) Q c_Flat_trySecondPairs_85 kc ks loc st h := rfl
theorem j_Flat_trySecondPairs_2 {R : Nat → Nat → Nat → eg_Lo → List Value → List eg_E → Prop} {f pc0 : Nat} : eg_run rm R Q T_Flat_trySecondPairs (f + 1) 2 kc ks loc st h = R 2 kc ks loc st h := rfl
theorem j_Flat_trySecondPairs_29 {R : Nat → Nat → Nat → eg_Lo → List Value → List eg_E → Prop} {f pc0 : Nat} : eg_run rm R Q T_Flat_trySecondPairs (f + 1) 29 kc ks loc st h = R 29 kc ks loc st h := rfl
end
theorem q_Flat_trySecondPairs : (T_Flat_trySecondPairs.all fun q => eg_seq m_Flat_trySecondPairs q.1 q.2) = true := by decide +kernel
theorem b_Flat_trySecondPairs {as : List Value} {h : List eg_E} {Q : Option Value → List eg_E → Prop} (hf : (eg_fl as).length ≤ 5) (hw : wps (eg_rm m_Flat_trySecondPairs) (eg_run (eg_rm m_Flat_trySecondPairs) (eg_R m_Flat_trySecondPairs Q (h.length + 0)) Q T_Flat_trySecondPairs 7) Q c_Flat_trySecondPairs_0 0 0 (eg_entry 5 as) [] h) : eg_Runs n_Flat_trySecondPairs as h Q := eg_begin (d := m_Flat_trySecondPairs) rfl (by decide) (by decide +kernel) q_Flat_trySecondPairs hf hw
theorem p_Flat_trySecondPairs_2 {Q : Option Value → List eg_E → Prop} {n0 kc ks : Nat} {loc : eg_Lo} {st : List Value} {h : List eg_E} (hw : wps (eg_rm m_Flat_trySecondPairs) (eg_run (eg_rm m_Flat_trySecondPairs) (eg_R m_Flat_trySecondPairs Q n0) Q T_Flat_trySecondPairs 7) Q c_Flat_trySecondPairs_2 kc ks loc st h) : eg_R m_Flat_trySecondPairs Q n0 2 kc ks loc st h := eg_go (by decide +kernel) q_Flat_trySecondPairs hw
theorem p_Flat_trySecondPairs_29 {Q : Option Value → List eg_E → Prop} {n0 kc ks : Nat} {loc : eg_Lo} {st : List Value} {h : List eg_E} (hw : wps (eg_rm m_Flat_trySecondPairs) (eg_run (eg_rm m_Flat_trySecondPairs) (eg_R m_Flat_trySecondPairs Q n0) Q T_Flat_trySecondPairs 7) Q c_Flat_trySecondPairs_29 kc ks loc st h) : eg_R m_Flat_trySecondPairs Q n0 29 kc ks loc st h := eg_go (by decide +kernel) q_Flat_trySecondPairs hw
/-! ===== Flat_crossProduct ===== -/
def c_Flat_crossProduct_186 : List eg_I := .inl (186, 1, .return_, 0, 0) :: []
def c_Flat_crossProduct_185 : List eg_I := .inl (185, 1, .lastore, 0, 0) :: c_Flat_crossProduct_186
def c_Flat_crossProduct_184 : List eg_I := .inl (184, 1, .lsub, 0, 0) :: c_Flat_crossProduct_185
def c_Flat_crossProduct_183 : List eg_I := .inl (183, 1, .lmul, 0, 0) :: c_Flat_crossProduct_184
def c_Flat_crossProduct_181 : List eg_I := .inl (181, 2, .lload 11, 0, 0) :: c_Flat_crossProduct_183
def c_Flat_crossProduct_179 : List eg_I := .inl (179, 2, .lload 7, 0, 0) :: c_Flat_crossProduct_181
def c_Flat_crossProduct_178 : List eg_I := .inl (178, 1, .lmul, 0, 0) :: c_Flat_crossProduct_179
def c_Flat_crossProduct_176 : List eg_I := .inl (176, 2, .lload 13, 0, 0) :: c_Flat_crossProduct_178
def c_Flat_crossProduct_174 : List eg_I := .inl (174, 2, .lload 5, 0, 0) :: c_Flat_crossProduct_176
def c_Flat_crossProduct_173 : List eg_I := .inl (173, 1, .iconst (2), 0, 0) :: c_Flat_crossProduct_174
def c_Flat_crossProduct_170 : List eg_I := .inl (170, 3, .getfield 18, 3, 1) :: c_Flat_crossProduct_173
def c_Flat_crossProduct_169 : List eg_I := .inl (169, 1, .aload 0, 0, 0) :: c_Flat_crossProduct_170
def c_Flat_crossProduct_168 : List eg_I := .inl (168, 1, .lastore, 0, 0) :: c_Flat_crossProduct_169
def c_Flat_crossProduct_167 : List eg_I := .inl (167, 1, .lsub, 0, 0) :: c_Flat_crossProduct_168
def c_Flat_crossProduct_166 : List eg_I := .inl (166, 1, .lmul, 0, 0) :: c_Flat_crossProduct_167
def c_Flat_crossProduct_164 : List eg_I := .inl (164, 2, .lload 15, 0, 0) :: c_Flat_crossProduct_166
def c_Flat_crossProduct_162 : List eg_I := .inl (162, 2, .lload 5, 0, 0) :: c_Flat_crossProduct_164
def c_Flat_crossProduct_161 : List eg_I := .inl (161, 1, .lmul, 0, 0) :: c_Flat_crossProduct_162
def c_Flat_crossProduct_159 : List eg_I := .inl (159, 2, .lload 11, 0, 0) :: c_Flat_crossProduct_161
def c_Flat_crossProduct_157 : List eg_I := .inl (157, 2, .lload 9, 0, 0) :: c_Flat_crossProduct_159
def c_Flat_crossProduct_156 : List eg_I := .inl (156, 1, .iconst (1), 0, 0) :: c_Flat_crossProduct_157
def c_Flat_crossProduct_153 : List eg_I := .inl (153, 3, .getfield 18, 3, 1) :: c_Flat_crossProduct_156
def c_Flat_crossProduct_152 : List eg_I := .inl (152, 1, .aload 0, 0, 0) :: c_Flat_crossProduct_153
def c_Flat_crossProduct_151 : List eg_I := .inl (151, 1, .lastore, 0, 0) :: c_Flat_crossProduct_152
def c_Flat_crossProduct_150 : List eg_I := .inl (150, 1, .lsub, 0, 0) :: c_Flat_crossProduct_151
def c_Flat_crossProduct_149 : List eg_I := .inl (149, 1, .lmul, 0, 0) :: c_Flat_crossProduct_150
def c_Flat_crossProduct_147 : List eg_I := .inl (147, 2, .lload 13, 0, 0) :: c_Flat_crossProduct_149
def c_Flat_crossProduct_145 : List eg_I := .inl (145, 2, .lload 9, 0, 0) :: c_Flat_crossProduct_147
def c_Flat_crossProduct_144 : List eg_I := .inl (144, 1, .lmul, 0, 0) :: c_Flat_crossProduct_145
def c_Flat_crossProduct_142 : List eg_I := .inl (142, 2, .lload 15, 0, 0) :: c_Flat_crossProduct_144
def c_Flat_crossProduct_140 : List eg_I := .inl (140, 2, .lload 7, 0, 0) :: c_Flat_crossProduct_142
def c_Flat_crossProduct_139 : List eg_I := .inl (139, 1, .iconst (0), 0, 0) :: c_Flat_crossProduct_140
def c_Flat_crossProduct_136 : List eg_I := .inl (136, 3, .getfield 18, 3, 1) :: c_Flat_crossProduct_139
def c_Flat_crossProduct_135 : List eg_I := .inl (135, 1, .aload 0, 0, 0) :: c_Flat_crossProduct_136
def c_Flat_crossProduct_133 : List eg_I := .inl (133, 2, .lstore 15, 0, 0) :: c_Flat_crossProduct_135
def c_Flat_crossProduct_132 : List eg_I := .inl (132, 1, .i2l, 0, 0) :: c_Flat_crossProduct_133
def c_Flat_crossProduct_131 : List eg_I := .inl (131, 1, .isub, 0, 0) :: c_Flat_crossProduct_132
def c_Flat_crossProduct_130 : List eg_I := .inl (130, 1, .iaload, 0, 0) :: c_Flat_crossProduct_131
def c_Flat_crossProduct_129 : List eg_I := .inl (129, 1, .iload 3, 0, 0) :: c_Flat_crossProduct_130
def c_Flat_crossProduct_126 : List eg_I := .inl (126, 3, .getfield 76, 10, 2) :: c_Flat_crossProduct_129
def c_Flat_crossProduct_123 : List eg_I := .inl (123, 3, .getfield 12, 3, 0) :: c_Flat_crossProduct_126
def c_Flat_crossProduct_122 : List eg_I := .inl (122, 1, .aload 0, 0, 0) :: c_Flat_crossProduct_123
def c_Flat_crossProduct_121 : List eg_I := .inl (121, 1, .iaload, 0, 0) :: c_Flat_crossProduct_122
def c_Flat_crossProduct_119 : List eg_I := .inl (119, 2, .iload 4, 0, 0) :: c_Flat_crossProduct_121
def c_Flat_crossProduct_116 : List eg_I := .inl (116, 3, .getfield 76, 10, 2) :: c_Flat_crossProduct_119
def c_Flat_crossProduct_113 : List eg_I := .inl (113, 3, .getfield 12, 3, 0) :: c_Flat_crossProduct_116
def c_Flat_crossProduct_112 : List eg_I := .inl (112, 1, .aload 0, 0, 0) :: c_Flat_crossProduct_113
def c_Flat_crossProduct_110 : List eg_I := .inl (110, 2, .lstore 13, 0, 0) :: c_Flat_crossProduct_112
def c_Flat_crossProduct_109 : List eg_I := .inl (109, 1, .i2l, 0, 0) :: c_Flat_crossProduct_110
def c_Flat_crossProduct_108 : List eg_I := .inl (108, 1, .isub, 0, 0) :: c_Flat_crossProduct_109
def c_Flat_crossProduct_107 : List eg_I := .inl (107, 1, .iaload, 0, 0) :: c_Flat_crossProduct_108
def c_Flat_crossProduct_106 : List eg_I := .inl (106, 1, .iload 3, 0, 0) :: c_Flat_crossProduct_107
def c_Flat_crossProduct_103 : List eg_I := .inl (103, 3, .getfield 37, 10, 1) :: c_Flat_crossProduct_106
def c_Flat_crossProduct_100 : List eg_I := .inl (100, 3, .getfield 12, 3, 0) :: c_Flat_crossProduct_103
def c_Flat_crossProduct_99 : List eg_I := .inl (99, 1, .aload 0, 0, 0) :: c_Flat_crossProduct_100
def c_Flat_crossProduct_98 : List eg_I := .inl (98, 1, .iaload, 0, 0) :: c_Flat_crossProduct_99
def c_Flat_crossProduct_96 : List eg_I := .inl (96, 2, .iload 4, 0, 0) :: c_Flat_crossProduct_98
def c_Flat_crossProduct_93 : List eg_I := .inl (93, 3, .getfield 37, 10, 1) :: c_Flat_crossProduct_96
def c_Flat_crossProduct_90 : List eg_I := .inl (90, 3, .getfield 12, 3, 0) :: c_Flat_crossProduct_93
def c_Flat_crossProduct_89 : List eg_I := .inl (89, 1, .aload 0, 0, 0) :: c_Flat_crossProduct_90
def c_Flat_crossProduct_87 : List eg_I := .inl (87, 2, .lstore 11, 0, 0) :: c_Flat_crossProduct_89
def c_Flat_crossProduct_86 : List eg_I := .inl (86, 1, .i2l, 0, 0) :: c_Flat_crossProduct_87
def c_Flat_crossProduct_85 : List eg_I := .inl (85, 1, .isub, 0, 0) :: c_Flat_crossProduct_86
def c_Flat_crossProduct_84 : List eg_I := .inl (84, 1, .iaload, 0, 0) :: c_Flat_crossProduct_85
def c_Flat_crossProduct_83 : List eg_I := .inl (83, 1, .iload 3, 0, 0) :: c_Flat_crossProduct_84
def c_Flat_crossProduct_80 : List eg_I := .inl (80, 3, .getfield 40, 10, 0) :: c_Flat_crossProduct_83
def c_Flat_crossProduct_77 : List eg_I := .inl (77, 3, .getfield 12, 3, 0) :: c_Flat_crossProduct_80
def c_Flat_crossProduct_76 : List eg_I := .inl (76, 1, .aload 0, 0, 0) :: c_Flat_crossProduct_77
def c_Flat_crossProduct_75 : List eg_I := .inl (75, 1, .iaload, 0, 0) :: c_Flat_crossProduct_76
def c_Flat_crossProduct_73 : List eg_I := .inl (73, 2, .iload 4, 0, 0) :: c_Flat_crossProduct_75
def c_Flat_crossProduct_70 : List eg_I := .inl (70, 3, .getfield 40, 10, 0) :: c_Flat_crossProduct_73
def c_Flat_crossProduct_67 : List eg_I := .inl (67, 3, .getfield 12, 3, 0) :: c_Flat_crossProduct_70
def c_Flat_crossProduct_66 : List eg_I := .inl (66, 1, .aload 0, 0, 0) :: c_Flat_crossProduct_67
def c_Flat_crossProduct_64 : List eg_I := .inl (64, 2, .lstore 9, 0, 0) :: c_Flat_crossProduct_66
def c_Flat_crossProduct_63 : List eg_I := .inl (63, 1, .i2l, 0, 0) :: c_Flat_crossProduct_64
def c_Flat_crossProduct_62 : List eg_I := .inl (62, 1, .isub, 0, 0) :: c_Flat_crossProduct_63
def c_Flat_crossProduct_61 : List eg_I := .inl (61, 1, .iaload, 0, 0) :: c_Flat_crossProduct_62
def c_Flat_crossProduct_60 : List eg_I := .inl (60, 1, .iload 1, 0, 0) :: c_Flat_crossProduct_61
def c_Flat_crossProduct_57 : List eg_I := .inl (57, 3, .getfield 76, 10, 2) :: c_Flat_crossProduct_60
def c_Flat_crossProduct_54 : List eg_I := .inl (54, 3, .getfield 12, 3, 0) :: c_Flat_crossProduct_57
def c_Flat_crossProduct_53 : List eg_I := .inl (53, 1, .aload 0, 0, 0) :: c_Flat_crossProduct_54
def c_Flat_crossProduct_52 : List eg_I := .inl (52, 1, .iaload, 0, 0) :: c_Flat_crossProduct_53
def c_Flat_crossProduct_51 : List eg_I := .inl (51, 1, .iload 2, 0, 0) :: c_Flat_crossProduct_52
def c_Flat_crossProduct_48 : List eg_I := .inl (48, 3, .getfield 76, 10, 2) :: c_Flat_crossProduct_51
def c_Flat_crossProduct_45 : List eg_I := .inl (45, 3, .getfield 12, 3, 0) :: c_Flat_crossProduct_48
def c_Flat_crossProduct_44 : List eg_I := .inl (44, 1, .aload 0, 0, 0) :: c_Flat_crossProduct_45
def c_Flat_crossProduct_42 : List eg_I := .inl (42, 2, .lstore 7, 0, 0) :: c_Flat_crossProduct_44
def c_Flat_crossProduct_41 : List eg_I := .inl (41, 1, .i2l, 0, 0) :: c_Flat_crossProduct_42
def c_Flat_crossProduct_40 : List eg_I := .inl (40, 1, .isub, 0, 0) :: c_Flat_crossProduct_41
def c_Flat_crossProduct_39 : List eg_I := .inl (39, 1, .iaload, 0, 0) :: c_Flat_crossProduct_40
def c_Flat_crossProduct_38 : List eg_I := .inl (38, 1, .iload 1, 0, 0) :: c_Flat_crossProduct_39
def c_Flat_crossProduct_35 : List eg_I := .inl (35, 3, .getfield 37, 10, 1) :: c_Flat_crossProduct_38
def c_Flat_crossProduct_32 : List eg_I := .inl (32, 3, .getfield 12, 3, 0) :: c_Flat_crossProduct_35
def c_Flat_crossProduct_31 : List eg_I := .inl (31, 1, .aload 0, 0, 0) :: c_Flat_crossProduct_32
def c_Flat_crossProduct_30 : List eg_I := .inl (30, 1, .iaload, 0, 0) :: c_Flat_crossProduct_31
def c_Flat_crossProduct_29 : List eg_I := .inl (29, 1, .iload 2, 0, 0) :: c_Flat_crossProduct_30
def c_Flat_crossProduct_26 : List eg_I := .inl (26, 3, .getfield 37, 10, 1) :: c_Flat_crossProduct_29
def c_Flat_crossProduct_23 : List eg_I := .inl (23, 3, .getfield 12, 3, 0) :: c_Flat_crossProduct_26
def c_Flat_crossProduct_22 : List eg_I := .inl (22, 1, .aload 0, 0, 0) :: c_Flat_crossProduct_23
def c_Flat_crossProduct_20 : List eg_I := .inl (20, 2, .lstore 5, 0, 0) :: c_Flat_crossProduct_22
def c_Flat_crossProduct_19 : List eg_I := .inl (19, 1, .i2l, 0, 0) :: c_Flat_crossProduct_20
def c_Flat_crossProduct_18 : List eg_I := .inl (18, 1, .isub, 0, 0) :: c_Flat_crossProduct_19
def c_Flat_crossProduct_17 : List eg_I := .inl (17, 1, .iaload, 0, 0) :: c_Flat_crossProduct_18
def c_Flat_crossProduct_16 : List eg_I := .inl (16, 1, .iload 1, 0, 0) :: c_Flat_crossProduct_17
def c_Flat_crossProduct_13 : List eg_I := .inl (13, 3, .getfield 40, 10, 0) :: c_Flat_crossProduct_16
def c_Flat_crossProduct_10 : List eg_I := .inl (10, 3, .getfield 12, 3, 0) :: c_Flat_crossProduct_13
def c_Flat_crossProduct_9 : List eg_I := .inl (9, 1, .aload 0, 0, 0) :: c_Flat_crossProduct_10
def c_Flat_crossProduct_8 : List eg_I := .inl (8, 1, .iaload, 0, 0) :: c_Flat_crossProduct_9
def c_Flat_crossProduct_7 : List eg_I := .inl (7, 1, .iload 2, 0, 0) :: c_Flat_crossProduct_8
def c_Flat_crossProduct_4 : List eg_I := .inl (4, 3, .getfield 40, 10, 0) :: c_Flat_crossProduct_7
def c_Flat_crossProduct_1 : List eg_I := .inl (1, 3, .getfield 12, 3, 0) :: c_Flat_crossProduct_4
def c_Flat_crossProduct_0 : List eg_I := .inl (0, 1, .aload 0, 0, 0) :: c_Flat_crossProduct_1
section
variable {rm : Room} {K : Nat → Nat → Nat → eg_Lo → List Value → List eg_E → Prop} {Q : Option Value → List eg_E → Prop} {kc ks : Nat} {loc : eg_Lo} {st : List Value} {h : List eg_E}
theorem s_Flat_crossProduct_0 {x : Nat} {l : eg_Lo} : wps rm K Q c_Flat_crossProduct_0 kc ks (some (.ref x) :: l) (st) h = wps rm K Q c_Flat_crossProduct_1 kc ks (some (.ref x) :: l) (.ref x :: st) h := rfl
theorem s_Flat_crossProduct_1 {x : Nat} : wps rm K Q c_Flat_crossProduct_1 kc ks loc (.ref (x + 1) :: st) h = eg_gf h x 3 0 (fun v => wps rm K Q c_Flat_crossProduct_4 kc ks loc (v :: st) h) := rfl
theorem s_Flat_crossProduct_4 {x : Nat} : wps rm K Q c_Flat_crossProduct_4 kc ks loc (.ref (x + 1) :: st) h = eg_gf h x 10 0 (fun v => wps rm K Q c_Flat_crossProduct_7 kc ks loc (v :: st) h) := rfl
theorem s_Flat_crossProduct_7 {x : Int32} {l0 l1 : Option Value} {l : eg_Lo} : wps rm K Q c_Flat_crossProduct_7 kc ks (l0 :: l1 :: some (.int x) :: l) (st) h = wps rm K Q c_Flat_crossProduct_8 kc ks (l0 :: l1 :: some (.int x) :: l) (.int x :: st) h := rfl
theorem s_Flat_crossProduct_8 {x : Nat} {i : Int32} : wps rm K Q c_Flat_crossProduct_8 kc ks loc (.int i :: .ref (x + 1) :: st) h = eg_ia h x i (fun v => wps rm K Q c_Flat_crossProduct_9 kc ks loc (.int v :: st) h) := rfl
theorem s_Flat_crossProduct_9 {x : Nat} {l : eg_Lo} : wps rm K Q c_Flat_crossProduct_9 kc ks (some (.ref x) :: l) (st) h = wps rm K Q c_Flat_crossProduct_10 kc ks (some (.ref x) :: l) (.ref x :: st) h := rfl
theorem s_Flat_crossProduct_10 {x : Nat} : wps rm K Q c_Flat_crossProduct_10 kc ks loc (.ref (x + 1) :: st) h = eg_gf h x 3 0 (fun v => wps rm K Q c_Flat_crossProduct_13 kc ks loc (v :: st) h) := rfl
theorem s_Flat_crossProduct_13 {x : Nat} : wps rm K Q c_Flat_crossProduct_13 kc ks loc (.ref (x + 1) :: st) h = eg_gf h x 10 0 (fun v => wps rm K Q c_Flat_crossProduct_16 kc ks loc (v :: st) h) := rfl
theorem s_Flat_crossProduct_16 {x : Int32} {l0 : Option Value} {l : eg_Lo} : wps rm K Q c_Flat_crossProduct_16 kc ks (l0 :: some (.int x) :: l) (st) h = wps rm K Q c_Flat_crossProduct_17 kc ks (l0 :: some (.int x) :: l) (.int x :: st) h := rfl
theorem s_Flat_crossProduct_17 {x : Nat} {i : Int32} : wps rm K Q c_Flat_crossProduct_17 kc ks loc (.int i :: .ref (x + 1) :: st) h = eg_ia h x i (fun v => wps rm K Q c_Flat_crossProduct_18 kc ks loc (.int v :: st) h) := rfl
theorem s_Flat_crossProduct_18 {x y : Int32} : wps rm K Q c_Flat_crossProduct_18 kc ks loc (.int y :: .int x :: st) h = wps rm K Q c_Flat_crossProduct_19 kc ks loc (.int (x - y) :: st) h := rfl
theorem s_Flat_crossProduct_19 {x : Int32} : wps rm K Q c_Flat_crossProduct_19 kc ks loc (.int x :: st) h = wps rm K Q c_Flat_crossProduct_20 kc ks loc (.long (x.toInt64) :: st) h := rfl
theorem s_Flat_crossProduct_20 {x : Int64} : wps rm K Q c_Flat_crossProduct_20 kc ks loc (.long x :: st) h = wps rm K Q c_Flat_crossProduct_22 kc ks (eg_set2 loc 5 (.long x)) (st) h := rfl
theorem s_Flat_crossProduct_22 {x : Nat} {l : eg_Lo} : wps rm K Q c_Flat_crossProduct_22 kc ks (some (.ref x) :: l) (st) h = wps rm K Q c_Flat_crossProduct_23 kc ks (some (.ref x) :: l) (.ref x :: st) h := rfl
theorem s_Flat_crossProduct_23 {x : Nat} : wps rm K Q c_Flat_crossProduct_23 kc ks loc (.ref (x + 1) :: st) h = eg_gf h x 3 0 (fun v => wps rm K Q c_Flat_crossProduct_26 kc ks loc (v :: st) h) := rfl
theorem s_Flat_crossProduct_26 {x : Nat} : wps rm K Q c_Flat_crossProduct_26 kc ks loc (.ref (x + 1) :: st) h = eg_gf h x 10 1 (fun v => wps rm K Q c_Flat_crossProduct_29 kc ks loc (v :: st) h) := rfl
theorem s_Flat_crossProduct_29 {x : Int32} {l0 l1 : Option Value} {l : eg_Lo} : wps rm K Q c_Flat_crossProduct_29 kc ks (l0 :: l1 :: some (.int x) :: l) (st) h = wps rm K Q c_Flat_crossProduct_30 kc ks (l0 :: l1 :: some (.int x) :: l) (.int x :: st) h := rfl
theorem s_Flat_crossProduct_30 {x : Nat} {i : Int32} : wps rm K Q c_Flat_crossProduct_30 kc ks loc (.int i :: .ref (x + 1) :: st) h = eg_ia h x i (fun v => wps rm K Q c_Flat_crossProduct_31 kc ks loc (.int v :: st) h) := rfl
theorem s_Flat_crossProduct_31 {x : Nat} {l : eg_Lo} : wps rm K Q c_Flat_crossProduct_31 kc ks (some (.ref x) :: l) (st) h = wps rm K Q c_Flat_crossProduct_32 kc ks (some (.ref x) :: l) (.ref x :: st) h := rfl
theorem s_Flat_crossProduct_32 {x : Nat} : wps rm K Q c_Flat_crossProduct_32 kc ks loc (.ref (x + 1) :: st) h = eg_gf h x 3 0 (fun v => wps rm K Q c_Flat_crossProduct_35 kc ks loc (v :: st) h) := rfl
theorem s_Flat_crossProduct_35 {x : Nat} : wps rm K Q c_Flat_crossProduct_35 kc ks loc (.ref (x + 1) :: st) h = eg_gf h x 10 1 (fun v => wps rm K Q c_Flat_crossProduct_38 kc ks loc (v :: st) h) := rfl
theorem s_Flat_crossProduct_38 {x : Int32} {l0 : Option Value} {l : eg_Lo} : wps rm K Q c_Flat_crossProduct_38 kc ks (l0 :: some (.int x) :: l) (st) h = wps rm K Q c_Flat_crossProduct_39 kc ks (l0 :: some (.int x) :: l) (.int x :: st) h := rfl
theorem s_Flat_crossProduct_39 {x : Nat} {i : Int32} : wps rm K Q c_Flat_crossProduct_39 kc ks loc (.int i :: .ref (x + 1) :: st) h = eg_ia h x i (fun v => wps rm K Q c_Flat_crossProduct_40 kc ks loc (.int v :: st) h) := rfl
theorem s_Flat_crossProduct_40 {x y : Int32} : wps rm K Q c_Flat_crossProduct_40 kc ks loc (.int y :: .int x :: st) h = wps rm K Q c_Flat_crossProduct_41 kc ks loc (.int (x - y) :: st) h := rfl
theorem s_Flat_crossProduct_41 {x : Int32} : wps rm K Q c_Flat_crossProduct_41 kc ks loc (.int x :: st) h = wps rm K Q c_Flat_crossProduct_42 kc ks loc (.long (x.toInt64) :: st) h := rfl
theorem s_Flat_crossProduct_42 {x : Int64} : wps rm K Q c_Flat_crossProduct_42 kc ks loc (.long x :: st) h = wps rm K Q c_Flat_crossProduct_44 kc ks (eg_set2 loc 7 (.long x)) (st) h := rfl
theorem s_Flat_crossProduct_44 {x : Nat} {l : eg_Lo} : wps rm K Q c_Flat_crossProduct_44 kc ks (some (.ref x) :: l) (st) h = wps rm K Q c_Flat_crossProduct_45 kc ks (some (.ref x) :: l) (.ref x :: st) h := rfl
theorem s_Flat_crossProduct_45 {x : Nat} : wps rm K Q c_Flat_crossProduct_45 kc ks loc (.ref (x + 1) :: st) h = eg_gf h x 3 0 (fun v => wps rm K Q c_Flat_crossProduct_48 kc ks loc (v :: st) h) := rfl
theorem s_Flat_crossProduct_48 {x : Nat} : wps rm K Q c_Flat_crossProduct_48 kc ks loc (.ref (x + 1) :: st) h = eg_gf h x 10 2 (fun v => wps rm K Q c_Flat_crossProduct_51 kc ks loc (v :: st) h) := rfl
theorem s_Flat_crossProduct_51 {x : Int32} {l0 l1 : Option Value} {l : eg_Lo} : wps rm K Q c_Flat_crossProduct_51 kc ks (l0 :: l1 :: some (.int x) :: l) (st) h = wps rm K Q c_Flat_crossProduct_52 kc ks (l0 :: l1 :: some (.int x) :: l) (.int x :: st) h := rfl
theorem s_Flat_crossProduct_52 {x : Nat} {i : Int32} : wps rm K Q c_Flat_crossProduct_52 kc ks loc (.int i :: .ref (x + 1) :: st) h = eg_ia h x i (fun v => wps rm K Q c_Flat_crossProduct_53 kc ks loc (.int v :: st) h) := rfl
theorem s_Flat_crossProduct_53 {x : Nat} {l : eg_Lo} : wps rm K Q c_Flat_crossProduct_53 kc ks (some (.ref x) :: l) (st) h = wps rm K Q c_Flat_crossProduct_54 kc ks (some (.ref x) :: l) (.ref x :: st) h := rfl
theorem s_Flat_crossProduct_54 {x : Nat} : wps rm K Q c_Flat_crossProduct_54 kc ks loc (.ref (x + 1) :: st) h = eg_gf h x 3 0 (fun v => wps rm K Q c_Flat_crossProduct_57 kc ks loc (v :: st) h) := rfl
theorem s_Flat_crossProduct_57 {x : Nat} : wps rm K Q c_Flat_crossProduct_57 kc ks loc (.ref (x + 1) :: st) h = eg_gf h x 10 2 (fun v => wps rm K Q c_Flat_crossProduct_60 kc ks loc (v :: st) h) := rfl
theorem s_Flat_crossProduct_60 {x : Int32} {l0 : Option Value} {l : eg_Lo} : wps rm K Q c_Flat_crossProduct_60 kc ks (l0 :: some (.int x) :: l) (st) h = wps rm K Q c_Flat_crossProduct_61 kc ks (l0 :: some (.int x) :: l) (.int x :: st) h := rfl
theorem s_Flat_crossProduct_61 {x : Nat} {i : Int32} : wps rm K Q c_Flat_crossProduct_61 kc ks loc (.int i :: .ref (x + 1) :: st) h = eg_ia h x i (fun v => wps rm K Q c_Flat_crossProduct_62 kc ks loc (.int v :: st) h) := rfl
theorem s_Flat_crossProduct_62 {x y : Int32} : wps rm K Q c_Flat_crossProduct_62 kc ks loc (.int y :: .int x :: st) h = wps rm K Q c_Flat_crossProduct_63 kc ks loc (.int (x - y) :: st) h := rfl
theorem s_Flat_crossProduct_63 {x : Int32} : wps rm K Q c_Flat_crossProduct_63 kc ks loc (.int x :: st) h = wps rm K Q c_Flat_crossProduct_64 kc ks loc (.long (x.toInt64) :: st) h := rfl
theorem s_Flat_crossProduct_64 {x : Int64} : wps rm K Q c_Flat_crossProduct_64 kc ks loc (.long x :: st) h = wps rm K Q c_Flat_crossProduct_66 kc ks (eg_set2 loc 9 (.long x)) (st) h := rfl
theorem s_Flat_crossProduct_66 {x : Nat} {l : eg_Lo} : wps rm K Q c_Flat_crossProduct_66 kc ks (some (.ref x) :: l) (st) h = wps rm K Q c_Flat_crossProduct_67 kc ks (some (.ref x) :: l) (.ref x :: st) h := rfl
theorem s_Flat_crossProduct_67 {x : Nat} : wps rm K Q c_Flat_crossProduct_67 kc ks loc (.ref (x + 1) :: st) h = eg_gf h x 3 0 (fun v => wps rm K Q c_Flat_crossProduct_70 kc ks loc (v :: st) h) := rfl
theorem s_Flat_crossProduct_70 {x : Nat} : wps rm K Q c_Flat_crossProduct_70 kc ks loc (.ref (x + 1) :: st) h = eg_gf h x 10 0 (fun v => wps rm K Q c_Flat_crossProduct_73 kc ks loc (v :: st) h) := rfl
theorem s_Flat_crossProduct_73 {x : Int32} {l0 l1 l2 l3 : Option Value} {l : eg_Lo} : wps rm K Q c_Flat_crossProduct_73 kc ks (l0 :: l1 :: l2 :: l3 :: some (.int x) :: l) (st) h = wps rm K Q c_Flat_crossProduct_75 kc ks (l0 :: l1 :: l2 :: l3 :: some (.int x) :: l) (.int x :: st) h := rfl
theorem s_Flat_crossProduct_75 {x : Nat} {i : Int32} : wps rm K Q c_Flat_crossProduct_75 kc ks loc (.int i :: .ref (x + 1) :: st) h = eg_ia h x i (fun v => wps rm K Q c_Flat_crossProduct_76 kc ks loc (.int v :: st) h) := rfl
theorem s_Flat_crossProduct_76 {x : Nat} {l : eg_Lo} : wps rm K Q c_Flat_crossProduct_76 kc ks (some (.ref x) :: l) (st) h = wps rm K Q c_Flat_crossProduct_77 kc ks (some (.ref x) :: l) (.ref x :: st) h := rfl
theorem s_Flat_crossProduct_77 {x : Nat} : wps rm K Q c_Flat_crossProduct_77 kc ks loc (.ref (x + 1) :: st) h = eg_gf h x 3 0 (fun v => wps rm K Q c_Flat_crossProduct_80 kc ks loc (v :: st) h) := rfl
theorem s_Flat_crossProduct_80 {x : Nat} : wps rm K Q c_Flat_crossProduct_80 kc ks loc (.ref (x + 1) :: st) h = eg_gf h x 10 0 (fun v => wps rm K Q c_Flat_crossProduct_83 kc ks loc (v :: st) h) := rfl
theorem s_Flat_crossProduct_83 {x : Int32} {l0 l1 l2 : Option Value} {l : eg_Lo} : wps rm K Q c_Flat_crossProduct_83 kc ks (l0 :: l1 :: l2 :: some (.int x) :: l) (st) h = wps rm K Q c_Flat_crossProduct_84 kc ks (l0 :: l1 :: l2 :: some (.int x) :: l) (.int x :: st) h := rfl
theorem s_Flat_crossProduct_84 {x : Nat} {i : Int32} : wps rm K Q c_Flat_crossProduct_84 kc ks loc (.int i :: .ref (x + 1) :: st) h = eg_ia h x i (fun v => wps rm K Q c_Flat_crossProduct_85 kc ks loc (.int v :: st) h) := rfl
theorem s_Flat_crossProduct_85 {x y : Int32} : wps rm K Q c_Flat_crossProduct_85 kc ks loc (.int y :: .int x :: st) h = wps rm K Q c_Flat_crossProduct_86 kc ks loc (.int (x - y) :: st) h := rfl
theorem s_Flat_crossProduct_86 {x : Int32} : wps rm K Q c_Flat_crossProduct_86 kc ks loc (.int x :: st) h = wps rm K Q c_Flat_crossProduct_87 kc ks loc (.long (x.toInt64) :: st) h := rfl
theorem s_Flat_crossProduct_87 {x : Int64} : wps rm K Q c_Flat_crossProduct_87 kc ks loc (.long x :: st) h = wps rm K Q c_Flat_crossProduct_89 kc ks (eg_set2 loc 11 (.long x)) (st) h := rfl
theorem s_Flat_crossProduct_89 {x : Nat} {l : eg_Lo} : wps rm K Q c_Flat_crossProduct_89 kc ks (some (.ref x) :: l) (st) h = wps rm K Q c_Flat_crossProduct_90 kc ks (some (.ref x) :: l) (.ref x :: st) h := rfl
theorem s_Flat_crossProduct_90 {x : Nat} : wps rm K Q c_Flat_crossProduct_90 kc ks loc (.ref (x + 1) :: st) h = eg_gf h x 3 0 (fun v => wps rm K Q c_Flat_crossProduct_93 kc ks loc (v :: st) h) := rfl
theorem s_Flat_crossProduct_93 {x : Nat} : wps rm K Q c_Flat_crossProduct_93 kc ks loc (.ref (x + 1) :: st) h = eg_gf h x 10 1 (fun v => wps rm K Q c_Flat_crossProduct_96 kc ks loc (v :: st) h) := rfl
theorem s_Flat_crossProduct_96 {x : Int32} {l0 l1 l2 l3 : Option Value} {l : eg_Lo} : wps rm K Q c_Flat_crossProduct_96 kc ks (l0 :: l1 :: l2 :: l3 :: some (.int x) :: l) (st) h = wps rm K Q c_Flat_crossProduct_98 kc ks (l0 :: l1 :: l2 :: l3 :: some (.int x) :: l) (.int x :: st) h := rfl
theorem s_Flat_crossProduct_98 {x : Nat} {i : Int32} : wps rm K Q c_Flat_crossProduct_98 kc ks loc (.int i :: .ref (x + 1) :: st) h = eg_ia h x i (fun v => wps rm K Q c_Flat_crossProduct_99 kc ks loc (.int v :: st) h) := rfl
theorem s_Flat_crossProduct_99 {x : Nat} {l : eg_Lo} : wps rm K Q c_Flat_crossProduct_99 kc ks (some (.ref x) :: l) (st) h = wps rm K Q c_Flat_crossProduct_100 kc ks (some (.ref x) :: l) (.ref x :: st) h := rfl
theorem s_Flat_crossProduct_100 {x : Nat} : wps rm K Q c_Flat_crossProduct_100 kc ks loc (.ref (x + 1) :: st) h = eg_gf h x 3 0 (fun v => wps rm K Q c_Flat_crossProduct_103 kc ks loc (v :: st) h) := rfl
theorem s_Flat_crossProduct_103 {x : Nat} : wps rm K Q c_Flat_crossProduct_103 kc ks loc (.ref (x + 1) :: st) h = eg_gf h x 10 1 (fun v => wps rm K Q c_Flat_crossProduct_106 kc ks loc (v :: st) h) := rfl
theorem s_Flat_crossProduct_106 {x : Int32} {l0 l1 l2 : Option Value} {l : eg_Lo} : wps rm K Q c_Flat_crossProduct_106 kc ks (l0 :: l1 :: l2 :: some (.int x) :: l) (st) h = wps rm K Q c_Flat_crossProduct_107 kc ks (l0 :: l1 :: l2 :: some (.int x) :: l) (.int x :: st) h := rfl
theorem s_Flat_crossProduct_107 {x : Nat} {i : Int32} : wps rm K Q c_Flat_crossProduct_107 kc ks loc (.int i :: .ref (x + 1) :: st) h = eg_ia h x i (fun v => wps rm K Q c_Flat_crossProduct_108 kc ks loc (.int v :: st) h) := rfl
theorem s_Flat_crossProduct_108 {x y : Int32} : wps rm K Q c_Flat_crossProduct_108 kc ks loc (.int y :: .int x :: st) h = wps rm K Q c_Flat_crossProduct_109 kc ks loc (.int (x - y) :: st) h := rfl
theorem s_Flat_crossProduct_109 {x : Int32} : wps rm K Q c_Flat_crossProduct_109 kc ks loc (.int x :: st) h = wps rm K Q c_Flat_crossProduct_110 kc ks loc (.long (x.toInt64) :: st) h := rfl
theorem s_Flat_crossProduct_110 {x : Int64} : wps rm K Q c_Flat_crossProduct_110 kc ks loc (.long x :: st) h = wps rm K Q c_Flat_crossProduct_112 kc ks (eg_set2 loc 13 (.long x)) (st) h := rfl
theorem s_Flat_crossProduct_112 {x : Nat} {l : eg_Lo} : wps rm K Q c_Flat_crossProduct_112 kc ks (some (.ref x) :: l) (st) h = wps rm K Q c_Flat_crossProduct_113 kc ks (some (.ref x) :: l) (.ref x :: st) h := rfl
theorem s_Flat_crossProduct_113 {x : Nat} : wps rm K Q c_Flat_crossProduct_113 kc ks loc (.ref (x + 1) :: st) h = eg_gf h x 3 0 (fun v => wps rm K Q c_Flat_crossProduct_116 kc ks loc (v :: st) h) := rfl
theorem s_Flat_crossProduct_116 {x : Nat} : wps rm K Q c_Flat_crossProduct_116 kc ks loc (.ref (x + 1) :: st) h = eg_gf h x 10 2 (fun v => wps rm K Q c_Flat_crossProduct_119 kc ks loc (v :: st) h) := rfl
theorem s_Flat_crossProduct_119 {x : Int32} {l0 l1 l2 l3 : Option Value} {l : eg_Lo} : wps rm K Q c_Flat_crossProduct_119 kc ks (l0 :: l1 :: l2 :: l3 :: some (.int x) :: l) (st) h = wps rm K Q c_Flat_crossProduct_121 kc ks (l0 :: l1 :: l2 :: l3 :: some (.int x) :: l) (.int x :: st) h := rfl
theorem s_Flat_crossProduct_121 {x : Nat} {i : Int32} : wps rm K Q c_Flat_crossProduct_121 kc ks loc (.int i :: .ref (x + 1) :: st) h = eg_ia h x i (fun v => wps rm K Q c_Flat_crossProduct_122 kc ks loc (.int v :: st) h) := rfl
theorem s_Flat_crossProduct_122 {x : Nat} {l : eg_Lo} : wps rm K Q c_Flat_crossProduct_122 kc ks (some (.ref x) :: l) (st) h = wps rm K Q c_Flat_crossProduct_123 kc ks (some (.ref x) :: l) (.ref x :: st) h := rfl
theorem s_Flat_crossProduct_123 {x : Nat} : wps rm K Q c_Flat_crossProduct_123 kc ks loc (.ref (x + 1) :: st) h = eg_gf h x 3 0 (fun v => wps rm K Q c_Flat_crossProduct_126 kc ks loc (v :: st) h) := rfl
theorem s_Flat_crossProduct_126 {x : Nat} : wps rm K Q c_Flat_crossProduct_126 kc ks loc (.ref (x + 1) :: st) h = eg_gf h x 10 2 (fun v => wps rm K Q c_Flat_crossProduct_129 kc ks loc (v :: st) h) := rfl
theorem s_Flat_crossProduct_129 {x : Int32} {l0 l1 l2 : Option Value} {l : eg_Lo} : wps rm K Q c_Flat_crossProduct_129 kc ks (l0 :: l1 :: l2 :: some (.int x) :: l) (st) h = wps rm K Q c_Flat_crossProduct_130 kc ks (l0 :: l1 :: l2 :: some (.int x) :: l) (.int x :: st) h := rfl
theorem s_Flat_crossProduct_130 {x : Nat} {i : Int32} : wps rm K Q c_Flat_crossProduct_130 kc ks loc (.int i :: .ref (x + 1) :: st) h = eg_ia h x i (fun v => wps rm K Q c_Flat_crossProduct_131 kc ks loc (.int v :: st) h) := rfl
theorem s_Flat_crossProduct_131 {x y : Int32} : wps rm K Q c_Flat_crossProduct_131 kc ks loc (.int y :: .int x :: st) h = wps rm K Q c_Flat_crossProduct_132 kc ks loc (.int (x - y) :: st) h := rfl
theorem s_Flat_crossProduct_132 {x : Int32} : wps rm K Q c_Flat_crossProduct_132 kc ks loc (.int x :: st) h = wps rm K Q c_Flat_crossProduct_133 kc ks loc (.long (x.toInt64) :: st) h := rfl
theorem s_Flat_crossProduct_133 {x : Int64} : wps rm K Q c_Flat_crossProduct_133 kc ks loc (.long x :: st) h = wps rm K Q c_Flat_crossProduct_135 kc ks (eg_set2 loc 15 (.long x)) (st) h := rfl
theorem s_Flat_crossProduct_135 {x : Nat} {l : eg_Lo} : wps rm K Q c_Flat_crossProduct_135 kc ks (some (.ref x) :: l) (st) h = wps rm K Q c_Flat_crossProduct_136 kc ks (some (.ref x) :: l) (.ref x :: st) h := rfl
theorem s_Flat_crossProduct_136 {x : Nat} : wps rm K Q c_Flat_crossProduct_136 kc ks loc (.ref (x + 1) :: st) h = eg_gf h x 3 1 (fun v => wps rm K Q c_Flat_crossProduct_139 kc ks loc (v :: st) h) := rfl
theorem s_Flat_crossProduct_139  : wps rm K Q c_Flat_crossProduct_139 kc ks loc (st) h = wps rm K Q c_Flat_crossProduct_140 kc ks loc (.int (0) :: st) h := rfl
theorem s_Flat_crossProduct_140 {x : Int64} {l0 l1 l2 l3 l4 l5 l6 : Option Value} {l : eg_Lo} : wps rm K Q c_Flat_crossProduct_140 kc ks (l0 :: l1 :: l2 :: l3 :: l4 :: l5 :: l6 :: some (.long x) :: l) (st) h = wps rm K Q c_Flat_crossProduct_142 kc ks (l0 :: l1 :: l2 :: l3 :: l4 :: l5 :: l6 :: some (.long x) :: l) (.long x :: st) h := rfl
theorem s_Flat_crossProduct_142 {x : Int64} {l0 l1 l2 l3 l4 l5 l6 l7 l8 l9 l10 l11 l12 l13 l14 : Option Value} {l : eg_Lo} : wps rm K Q c_Flat_crossProduct_142 kc ks (l0 :: l1 :: l2 :: l3 :: l4 :: l5 :: l6 :: l7 :: l8 :: l9 :: l10 :: l11 :: l12 :: l13 :: l14 :: some (.long x) :: l) (st) h = wps rm K Q c_Flat_crossProduct_144 kc ks (l0 :: l1 :: l2 :: l3 :: l4 :: l5 :: l6 :: l7 :: l8 :: l9 :: l10 :: l11 :: l12 :: l13 :: l14 :: some (.long x) :: l) (.long x :: st) h := rfl
theorem s_Flat_crossProduct_144 {x y : Int64} : wps rm K Q c_Flat_crossProduct_144 kc ks loc (.long y :: .long x :: st) h = wps rm K Q c_Flat_crossProduct_145 kc ks loc (.long (x * y) :: st) h := rfl
theorem s_Flat_crossProduct_145 {x : Int64} {l0 l1 l2 l3 l4 l5 l6 l7 l8 : Option Value} {l : eg_Lo} : wps rm K Q c_Flat_crossProduct_145 kc ks (l0 :: l1 :: l2 :: l3 :: l4 :: l5 :: l6 :: l7 :: l8 :: some (.long x) :: l) (st) h = wps rm K Q c_Flat_crossProduct_147 kc ks (l0 :: l1 :: l2 :: l3 :: l4 :: l5 :: l6 :: l7 :: l8 :: some (.long x) :: l) (.long x :: st) h := rfl
theorem s_Flat_crossProduct_147 {x : Int64} {l0 l1 l2 l3 l4 l5 l6 l7 l8 l9 l10 l11 l12 : Option Value} {l : eg_Lo} : wps rm K Q c_Flat_crossProduct_147 kc ks (l0 :: l1 :: l2 :: l3 :: l4 :: l5 :: l6 :: l7 :: l8 :: l9 :: l10 :: l11 :: l12 :: some (.long x) :: l) (st) h = wps rm K Q c_Flat_crossProduct_149 kc ks (l0 :: l1 :: l2 :: l3 :: l4 :: l5 :: l6 :: l7 :: l8 :: l9 :: l10 :: l11 :: l12 :: some (.long x) :: l) (.long x :: st) h := rfl
theorem s_Flat_crossProduct_149 {x y : Int64} : wps rm K Q c_Flat_crossProduct_149 kc ks loc (.long y :: .long x :: st) h = wps rm K Q c_Flat_crossProduct_150 kc ks loc (.long (x * y) :: st) h := rfl
theorem s_Flat_crossProduct_150 {x y : Int64} : wps rm K Q c_Flat_crossProduct_150 kc ks loc (.long y :: .long x :: st) h = wps rm K Q c_Flat_crossProduct_151 kc ks loc (.long (x - y) :: st) h := rfl
theorem s_Flat_crossProduct_151 {x : Nat} {i : Int32} {v : Int64} : wps rm K Q c_Flat_crossProduct_151 kc ks loc (.long v :: .int i :: .ref (x + 1) :: st) h = eg_lst h x i v (fun h9 => wps rm K Q c_Flat_crossProduct_152 kc ks loc (st) h9) := rfl
theorem s_Flat_crossProduct_152 {x : Nat} {l : eg_Lo} : wps rm K Q c_Flat_crossProduct_152 kc ks (some (.ref x) :: l) (st) h = wps rm K Q c_Flat_crossProduct_153 kc ks (some (.ref x) :: l) (.ref x :: st) h := rfl
theorem s_Flat_crossProduct_153 {x : Nat} : wps rm K Q c_Flat_crossProduct_153 kc ks loc (.ref (x + 1) :: st) h = eg_gf h x 3 1 (fun v => wps rm K Q c_Flat_crossProduct_156 kc ks loc (v :: st) h) := rfl
theorem s_Flat_crossProduct_156  : wps rm K Q c_Flat_crossProduct_156 kc ks loc (st) h = wps rm K Q c_Flat_crossProduct_157 kc ks loc (.int (1) :: st) h := rfl
theorem s_Flat_crossProduct_157 {x : Int64} {l0 l1 l2 l3 l4 l5 l6 l7 l8 : Option Value} {l : eg_Lo} : wps rm K Q c_Flat_crossProduct_157 kc ks (l0 :: l1 :: l2 :: l3 :: l4 :: l5 :: l6 :: l7 :: l8 :: some (.long x) :: l) (st) h = wps rm K Q c_Flat_crossProduct_159 kc ks (l0 :: l1 :: l2 :: l3 :: l4 :: l5 :: l6 :: l7 :: l8 :: some (.long x) :: l) (.long x :: st) h := rfl
theorem s_Flat_crossProduct_159 {x : Int64} {l0 l1 l2 l3 l4 l5 l6 l7 l8 l9 l10 : Option Value} {l : eg_Lo} : wps rm K Q c_Flat_crossProduct_159 kc ks (l0 :: l1 :: l2 :: l3 :: l4 :: l5 :: l6 :: l7 :: l8 :: l9 :: l10 :: some (.long x) :: l) (st) h = wps rm K Q c_Flat_crossProduct_161 kc ks (l0 :: l1 :: l2 :: l3 :: l4 :: l5 :: l6 :: l7 :: l8 :: l9 :: l10 :: some (.long x) :: l) (.long x :: st) h := rfl
theorem s_Flat_crossProduct_161 {x y : Int64} : wps rm K Q c_Flat_crossProduct_161 kc ks loc (.long y :: .long x :: st) h = wps rm K Q c_Flat_crossProduct_162 kc ks loc (.long (x * y) :: st) h := rfl
theorem s_Flat_crossProduct_162 {x : Int64} {l0 l1 l2 l3 l4 : Option Value} {l : eg_Lo} : wps rm K Q c_Flat_crossProduct_162 kc ks (l0 :: l1 :: l2 :: l3 :: l4 :: some (.long x) :: l) (st) h = wps rm K Q c_Flat_crossProduct_164 kc ks (l0 :: l1 :: l2 :: l3 :: l4 :: some (.long x) :: l) (.long x :: st) h := rfl
theorem s_Flat_crossProduct_164 {x : Int64} {l0 l1 l2 l3 l4 l5 l6 l7 l8 l9 l10 l11 l12 l13 l14 : Option Value} {l : eg_Lo} : wps rm K Q c_Flat_crossProduct_164 kc ks (l0 :: l1 :: l2 :: l3 :: l4 :: l5 :: l6 :: l7 :: l8 :: l9 :: l10 :: l11 :: l12 :: l13 :: l14 :: some (.long x) :: l) (st) h = wps rm K Q c_Flat_crossProduct_166 kc ks (l0 :: l1 :: l2 :: l3 :: l4 :: l5 :: l6 :: l7 :: l8 :: l9 :: l10 :: l11 :: l12 :: l13 :: l14 :: some (.long x) :: l) (.long x :: st) h := rfl
theorem s_Flat_crossProduct_166 {x y : Int64} : wps rm K Q c_Flat_crossProduct_166 kc ks loc (.long y :: .long x :: st) h = wps rm K Q c_Flat_crossProduct_167 kc ks loc (.long (x * y) :: st) h := rfl
theorem s_Flat_crossProduct_167 {x y : Int64} : wps rm K Q c_Flat_crossProduct_167 kc ks loc (.long y :: .long x :: st) h = wps rm K Q c_Flat_crossProduct_168 kc ks loc (.long (x - y) :: st) h := rfl
theorem s_Flat_crossProduct_168 {x : Nat} {i : Int32} {v : Int64} : wps rm K Q c_Flat_crossProduct_168 kc ks loc (.long v :: .int i :: .ref (x + 1) :: st) h = eg_lst h x i v (fun h9 => wps rm K Q c_Flat_crossProduct_169 kc ks loc (st) h9) := rfl
theorem s_Flat_crossProduct_169 {x : Nat} {l : eg_Lo} : wps rm K Q c_Flat_crossProduct_169 kc ks (some (.ref x) :: l) (st) h = wps rm K Q c_Flat_crossProduct_170 kc ks (some (.ref x) :: l) (.ref x :: st) h := rfl
theorem s_Flat_crossProduct_170 {x : Nat} : wps rm K Q c_Flat_crossProduct_170 kc ks loc (.ref (x + 1) :: st) h = eg_gf h x 3 1 (fun v => wps rm K Q c_Flat_crossProduct_173 kc ks loc (v :: st) h) := rfl
theorem s_Flat_crossProduct_173  : wps rm K Q c_Flat_crossProduct_173 kc ks loc (st) h = wps rm K Q c_Flat_crossProduct_174 kc ks loc (.int (2) :: st) h := rfl
theorem s_Flat_crossProduct_174 {x : Int64} {l0 l1 l2 l3 l4 : Option Value} {l : eg_Lo} : wps rm K Q c_Flat_crossProduct_174 kc ks (l0 :: l1 :: l2 :: l3 :: l4 :: some (.long x) :: l) (st) h = wps rm K Q c_Flat_crossProduct_176 kc ks (l0 :: l1 :: l2 :: l3 :: l4 :: some (.long x) :: l) (.long x :: st) h := rfl
theorem s_Flat_crossProduct_176 {x : Int64} {l0 l1 l2 l3 l4 l5 l6 l7 l8 l9 l10 l11 l12 : Option Value} {l : eg_Lo} : wps rm K Q c_Flat_crossProduct_176 kc ks (l0 :: l1 :: l2 :: l3 :: l4 :: l5 :: l6 :: l7 :: l8 :: l9 :: l10 :: l11 :: l12 :: some (.long x) :: l) (st) h = wps rm K Q c_Flat_crossProduct_178 kc ks (l0 :: l1 :: l2 :: l3 :: l4 :: l5 :: l6 :: l7 :: l8 :: l9 :: l10 :: l11 :: l12 :: some (.long x) :: l) (.long x :: st) h := rfl
theorem s_Flat_crossProduct_178 {x y : Int64} : wps rm K Q c_Flat_crossProduct_178 kc ks loc (.long y :: .long x :: st) h = wps rm K Q c_Flat_crossProduct_179 kc ks loc (.long (x * y) :: st) h := rfl
theorem s_Flat_crossProduct_179 {x : Int64} {l0 l1 l2 l3 l4 l5 l6 : Option Value} {l : eg_Lo} : wps rm K Q c_Flat_crossProduct_179 kc ks (l0 :: l1 :: l2 :: l3 :: l4 :: l5 :: l6 :: some (.long x) :: l) (st) h = wps rm K Q c_Flat_crossProduct_181 kc ks (l0 :: l1 :: l2 :: l3 :: l4 :: l5 :: l6 :: some (.long x) :: l) (.long x :: st) h := rfl
theorem s_Flat_crossProduct_181 {x : Int64} {l0 l1 l2 l3 l4 l5 l6 l7 l8 l9 l10 : Option Value} {l : eg_Lo} : wps rm K Q c_Flat_crossProduct_181 kc ks (l0 :: l1 :: l2 :: l3 :: l4 :: l5 :: l6 :: l7 :: l8 :: l9 :: l10 :: some (.long x) :: l) (st) h = wps rm K Q c_Flat_crossProduct_183 kc ks (l0 :: l1 :: l2 :: l3 :: l4 :: l5 :: l6 :: l7 :: l8 :: l9 :: l10 :: some (.long x) :: l) (.long x :: st) h := rfl
theorem s_Flat_crossProduct_183 {x y : Int64} : wps rm K Q c_Flat_crossProduct_183 kc ks loc (.long y :: .long x :: st) h = wps rm K Q c_Flat_crossProduct_184 kc ks loc (.long (x * y) :: st) h := rfl
theorem s_Flat_crossProduct_184 {x y : Int64} : wps rm K Q c_Flat_crossProduct_184 kc ks loc (.long y :: .long x :: st) h = wps rm K Q c_Flat_crossProduct_185 kc ks loc (.long (x - y) :: st) h := rfl
theorem s_Flat_crossProduct_185 {x : Nat} {i : Int32} {v : Int64} : wps rm K Q c_Flat_crossProduct_185 kc ks loc (.long v :: .int i :: .ref (x + 1) :: st) h = eg_lst h x i v (fun h9 => wps rm K Q c_Flat_crossProduct_186 kc ks loc (st) h9) := rfl
theorem s_Flat_crossProduct_186  : wps rm K Q c_Flat_crossProduct_186 kc ks loc ([]) h = (kc = rm.cells ∧ Q none h) := rfl
def T_Flat_crossProduct : List (Nat × List eg_I) := []
end
theorem q_Flat_crossProduct : (T_Flat_crossProduct.all fun q => eg_seq m_Flat_crossProduct q.1 q.2) = true := by decide +kernel
theorem b_Flat_crossProduct {as : List Value} {h : List eg_E} {Q : Option Value → List eg_E → Prop} (hf : (eg_fl as).length ≤ 17) (hw : wps (eg_rm m_Flat_crossProduct) (eg_run (eg_rm m_Flat_crossProduct) (eg_R m_Flat_crossProduct Q (h.length + 0)) Q T_Flat_crossProduct 2) Q c_Flat_crossProduct_0 0 0 (eg_entry 17 as) [] h) : eg_Runs n_Flat_crossProduct as h Q := eg_begin (d := m_Flat_crossProduct) rfl (by decide) (by decide +kernel) q_Flat_crossProduct hf hw
/-! ===== Flat_isBetter ===== -/
def c_Flat_isBetter_199 : List eg_I := .inl (199, 1, .ireturn, 0, 1) :: []
def c_Flat_isBetter_198 : List eg_I := .inl (198, 1, .iconst (0), 0, 0) :: c_Flat_isBetter_199
def c_Flat_isBetter_195 : List eg_I := .inl (195, 3, .goto (4), 199, 0) :: []
def c_Flat_isBetter_194 : List eg_I := .inl (194, 1, .iconst (1), 0, 0) :: c_Flat_isBetter_195
def c_Flat_isBetter_191 : List eg_I := .inl (191, 3, .ifCond .ne (7), 198, 0) :: c_Flat_isBetter_194
def c_Flat_isBetter_189 : List eg_I := .inl (189, 2, .iload 10, 0, 0) :: c_Flat_isBetter_191
def c_Flat_isBetter_186 : List eg_I := .inr (186, 1, 87, n_Flat_keepBest, 4, 3, 0, 0) :: c_Flat_isBetter_189
def c_Flat_isBetter_184 : List eg_I := .inl (184, 2, .iload 5, 0, 0) :: c_Flat_isBetter_186
def c_Flat_isBetter_182 : List eg_I := .inl (182, 2, .iload 4, 0, 0) :: c_Flat_isBetter_184
def c_Flat_isBetter_181 : List eg_I := .inl (181, 1, .lload 2, 0, 0) :: c_Flat_isBetter_182
def c_Flat_isBetter_180 : List eg_I := .inl (180, 1, .lsub, 0, 0) :: c_Flat_isBetter_181
def c_Flat_isBetter_178 : List eg_I := .inl (178, 2, .lload 8, 0, 0) :: c_Flat_isBetter_180
def c_Flat_isBetter_176 : List eg_I := .inl (176, 2, .lload 6, 0, 0) :: c_Flat_isBetter_178
def c_Flat_isBetter_175 : List eg_I := .inl (175, 1, .aload 0, 0, 0) :: c_Flat_isBetter_176
def c_Flat_isBetter_172 : List eg_I := .inl (172, 3, .ifCond .ne (17), 189, 0) :: c_Flat_isBetter_175
def c_Flat_isBetter_170 : List eg_I := .inl (170, 2, .iload 10, 0, 0) :: c_Flat_isBetter_172
def c_Flat_isBetter_167 : List eg_I := .inl (167, 3, .goto (-88), 79, 0) :: []
def c_Flat_isBetter_164 : List eg_I := .inl (164, 3, .iinc 11 (1), 0, 0) :: c_Flat_isBetter_167
def c_Flat_isBetter_162 : List eg_I := .inl (162, 2, .istore 10, 0, 0) :: c_Flat_isBetter_164
def c_Flat_isBetter_159 : List eg_I := .inr (159, 1, 83, n_Flat_isBeaten, 2, 3, 0, 0) :: c_Flat_isBetter_162
def c_Flat_isBetter_158 : List eg_I := .inl (158, 1, .lload 2, 0, 0) :: c_Flat_isBetter_159
def c_Flat_isBetter_157 : List eg_I := .inl (157, 1, .lsub, 0, 0) :: c_Flat_isBetter_158
def c_Flat_isBetter_155 : List eg_I := .inl (155, 2, .lload 8, 0, 0) :: c_Flat_isBetter_157
def c_Flat_isBetter_153 : List eg_I := .inl (153, 2, .lload 6, 0, 0) :: c_Flat_isBetter_155
def c_Flat_isBetter_152 : List eg_I := .inl (152, 1, .aload 0, 0, 0) :: c_Flat_isBetter_153
def c_Flat_isBetter_150 : List eg_I := .inl (150, 2, .istore 5, 0, 0) :: c_Flat_isBetter_152
def c_Flat_isBetter_148 : List eg_I := .inl (148, 2, .iload 11, 0, 0) :: c_Flat_isBetter_150
def c_Flat_isBetter_146 : List eg_I := .inl (146, 2, .lstore 8, 0, 0) :: c_Flat_isBetter_148
def c_Flat_isBetter_144 : List eg_I := .inl (144, 2, .lload 12, 0, 0) :: c_Flat_isBetter_146
def c_Flat_isBetter_141 : List eg_I := .inl (141, 3, .ifCond .ge (23), 164, 0) :: c_Flat_isBetter_144
def c_Flat_isBetter_140 : List eg_I := .inl (140, 1, .lcmp, 0, 0) :: c_Flat_isBetter_141
def c_Flat_isBetter_138 : List eg_I := .inl (138, 2, .lload 8, 0, 0) :: c_Flat_isBetter_140
def c_Flat_isBetter_136 : List eg_I := .inl (136, 2, .lload 12, 0, 0) :: c_Flat_isBetter_138
def c_Flat_isBetter_133 : List eg_I := .inl (133, 3, .goto (31), 164, 0) :: []
def c_Flat_isBetter_131 : List eg_I := .inl (131, 2, .istore 10, 0, 0) :: c_Flat_isBetter_133
def c_Flat_isBetter_128 : List eg_I := .inr (128, 1, 83, n_Flat_isBeaten, 2, 3, 0, 0) :: c_Flat_isBetter_131
def c_Flat_isBetter_127 : List eg_I := .inl (127, 1, .lload 2, 0, 0) :: c_Flat_isBetter_128
def c_Flat_isBetter_126 : List eg_I := .inl (126, 1, .lsub, 0, 0) :: c_Flat_isBetter_127
def c_Flat_isBetter_124 : List eg_I := .inl (124, 2, .lload 8, 0, 0) :: c_Flat_isBetter_126
def c_Flat_isBetter_122 : List eg_I := .inl (122, 2, .lload 6, 0, 0) :: c_Flat_isBetter_124
def c_Flat_isBetter_121 : List eg_I := .inl (121, 1, .aload 0, 0, 0) :: c_Flat_isBetter_122
def c_Flat_isBetter_119 : List eg_I := .inl (119, 2, .istore 4, 0, 0) :: c_Flat_isBetter_121
def c_Flat_isBetter_117 : List eg_I := .inl (117, 2, .iload 11, 0, 0) :: c_Flat_isBetter_119
def c_Flat_isBetter_115 : List eg_I := .inl (115, 2, .lstore 6, 0, 0) :: c_Flat_isBetter_117
def c_Flat_isBetter_113 : List eg_I := .inl (113, 2, .lload 12, 0, 0) :: c_Flat_isBetter_115
def c_Flat_isBetter_110 : List eg_I := .inl (110, 3, .ifCond .le (26), 136, 0) :: c_Flat_isBetter_113
def c_Flat_isBetter_109 : List eg_I := .inl (109, 1, .lcmp, 0, 0) :: c_Flat_isBetter_110
def c_Flat_isBetter_107 : List eg_I := .inl (107, 2, .lload 6, 0, 0) :: c_Flat_isBetter_109
def c_Flat_isBetter_105 : List eg_I := .inl (105, 2, .lload 12, 0, 0) :: c_Flat_isBetter_107
def c_Flat_isBetter_103 : List eg_I := .inl (103, 2, .lstore 12, 0, 0) :: c_Flat_isBetter_105
def c_Flat_isBetter_100 : List eg_I := .inr (100, 1, 79, n_Flat_crossOf, 2, 3, 0, 0) :: c_Flat_isBetter_103
def c_Flat_isBetter_98 : List eg_I := .inl (98, 2, .iload 11, 0, 0) :: c_Flat_isBetter_100
def c_Flat_isBetter_97 : List eg_I := .inl (97, 1, .iload 1, 0, 0) :: c_Flat_isBetter_98
def c_Flat_isBetter_96 : List eg_I := .inl (96, 1, .aload 0, 0, 0) :: c_Flat_isBetter_97
def c_Flat_isBetter_93 : List eg_I := .inl (93, 3, .ifCond .ne (77), 170, 0) :: c_Flat_isBetter_96
def c_Flat_isBetter_91 : List eg_I := .inl (91, 2, .iload 10, 0, 0) :: c_Flat_isBetter_93
def c_Flat_isBetter_88 : List eg_I := .inl (88, 3, .if_icmp .ge (82), 170, 0) :: c_Flat_isBetter_91
def c_Flat_isBetter_85 : List eg_I := .inl (85, 3, .getfield 33, 10, 4) :: c_Flat_isBetter_88
def c_Flat_isBetter_82 : List eg_I := .inl (82, 3, .getfield 12, 3, 0) :: c_Flat_isBetter_85
def c_Flat_isBetter_81 : List eg_I := .inl (81, 1, .aload 0, 0, 0) :: c_Flat_isBetter_82
def c_Flat_isBetter_79 : List eg_I := .inl (79, 2, .iload 11, 0, 0) :: c_Flat_isBetter_81
def c_Flat_isBetter_77 : List eg_I := .inl (77, 2, .istore 11, 0, 0) :: [.inl (79, 0, .nop, 0, 0)]
def c_Flat_isBetter_76 : List eg_I := .inl (76, 1, .iconst (1), 0, 0) :: c_Flat_isBetter_77
def c_Flat_isBetter_74 : List eg_I := .inl (74, 2, .istore 10, 0, 0) :: c_Flat_isBetter_76
def c_Flat_isBetter_71 : List eg_I := .inr (71, 1, 83, n_Flat_isBeaten, 2, 3, 0, 0) :: c_Flat_isBetter_74
def c_Flat_isBetter_70 : List eg_I := .inl (70, 1, .lload 2, 0, 0) :: c_Flat_isBetter_71
def c_Flat_isBetter_69 : List eg_I := .inl (69, 1, .sipush (0), 0, 0) :: c_Flat_isBetter_70
def c_Flat_isBetter_68 : List eg_I := .inl (68, 1, .aload 0, 0, 0) :: c_Flat_isBetter_69
def c_Flat_isBetter_66 : List eg_I := .inl (66, 2, .lstore 8, 0, 0) :: c_Flat_isBetter_68
def c_Flat_isBetter_64 : List eg_I := .inl (64, 2, .lload 6, 0, 0) :: c_Flat_isBetter_66
def c_Flat_isBetter_62 : List eg_I := .inl (62, 2, .lstore 6, 0, 0) :: c_Flat_isBetter_64
def c_Flat_isBetter_59 : List eg_I := .inr (59, 1, 79, n_Flat_crossOf, 2, 3, 0, 0) :: c_Flat_isBetter_62
def c_Flat_isBetter_58 : List eg_I := .inl (58, 1, .iconst (0), 0, 0) :: c_Flat_isBetter_59
def c_Flat_isBetter_57 : List eg_I := .inl (57, 1, .iload 1, 0, 0) :: c_Flat_isBetter_58
def c_Flat_isBetter_56 : List eg_I := .inl (56, 1, .aload 0, 0, 0) :: c_Flat_isBetter_57
def c_Flat_isBetter_54 : List eg_I := .inl (54, 2, .istore 5, 0, 0) :: c_Flat_isBetter_56
def c_Flat_isBetter_53 : List eg_I := .inl (53, 1, .iconst (0), 0, 0) :: c_Flat_isBetter_54
def c_Flat_isBetter_51 : List eg_I := .inl (51, 2, .istore 4, 0, 0) :: c_Flat_isBetter_53
def c_Flat_isBetter_50 : List eg_I := .inl (50, 1, .iconst (0), 0, 0) :: c_Flat_isBetter_51
def c_Flat_isBetter_49 : List eg_I := .inl (49, 1, .ireturn, 0, 1) :: []
def c_Flat_isBetter_48 : List eg_I := .inl (48, 1, .iconst (0), 0, 0) :: c_Flat_isBetter_49
def c_Flat_isBetter_45 : List eg_I := .inl (45, 3, .ifCond .ne (5), 50, 0) :: c_Flat_isBetter_48
def c_Flat_isBetter_44 : List eg_I := .inl (44, 1, .lcmp, 0, 0) :: c_Flat_isBetter_45
def c_Flat_isBetter_43 : List eg_I := .inl (43, 1, .sipush (0), 0, 0) :: c_Flat_isBetter_44
def c_Flat_isBetter_42 : List eg_I := .inl (42, 1, .lload 2, 0, 0) :: c_Flat_isBetter_43
def c_Flat_isBetter_41 : List eg_I := .inl (41, 1, .lstore 2, 0, 0) :: c_Flat_isBetter_42
def c_Flat_isBetter_40 : List eg_I := .inl (40, 1, .ladd, 0, 0) :: c_Flat_isBetter_41
def c_Flat_isBetter_39 : List eg_I := .inl (39, 1, .lmul, 0, 0) :: c_Flat_isBetter_40
def c_Flat_isBetter_38 : List eg_I := .inl (38, 1, .laload, 0, 0) :: c_Flat_isBetter_39
def c_Flat_isBetter_37 : List eg_I := .inl (37, 1, .iconst (2), 0, 0) :: c_Flat_isBetter_38
def c_Flat_isBetter_34 : List eg_I := .inl (34, 3, .getfield 18, 3, 1) :: c_Flat_isBetter_37
def c_Flat_isBetter_33 : List eg_I := .inl (33, 1, .aload 0, 0, 0) :: c_Flat_isBetter_34
def c_Flat_isBetter_32 : List eg_I := .inl (32, 1, .laload, 0, 0) :: c_Flat_isBetter_33
def c_Flat_isBetter_31 : List eg_I := .inl (31, 1, .iconst (2), 0, 0) :: c_Flat_isBetter_32
def c_Flat_isBetter_28 : List eg_I := .inl (28, 3, .getfield 18, 3, 1) :: c_Flat_isBetter_31
def c_Flat_isBetter_27 : List eg_I := .inl (27, 1, .aload 0, 0, 0) :: c_Flat_isBetter_28
def c_Flat_isBetter_26 : List eg_I := .inl (26, 1, .ladd, 0, 0) :: c_Flat_isBetter_27
def c_Flat_isBetter_25 : List eg_I := .inl (25, 1, .lmul, 0, 0) :: c_Flat_isBetter_26
def c_Flat_isBetter_24 : List eg_I := .inl (24, 1, .laload, 0, 0) :: c_Flat_isBetter_25
def c_Flat_isBetter_23 : List eg_I := .inl (23, 1, .iconst (1), 0, 0) :: c_Flat_isBetter_24
def c_Flat_isBetter_20 : List eg_I := .inl (20, 3, .getfield 18, 3, 1) :: c_Flat_isBetter_23
def c_Flat_isBetter_19 : List eg_I := .inl (19, 1, .aload 0, 0, 0) :: c_Flat_isBetter_20
def c_Flat_isBetter_18 : List eg_I := .inl (18, 1, .laload, 0, 0) :: c_Flat_isBetter_19
def c_Flat_isBetter_17 : List eg_I := .inl (17, 1, .iconst (1), 0, 0) :: c_Flat_isBetter_18
def c_Flat_isBetter_14 : List eg_I := .inl (14, 3, .getfield 18, 3, 1) :: c_Flat_isBetter_17
def c_Flat_isBetter_13 : List eg_I := .inl (13, 1, .aload 0, 0, 0) :: c_Flat_isBetter_14
def c_Flat_isBetter_12 : List eg_I := .inl (12, 1, .lmul, 0, 0) :: c_Flat_isBetter_13
def c_Flat_isBetter_11 : List eg_I := .inl (11, 1, .laload, 0, 0) :: c_Flat_isBetter_12
def c_Flat_isBetter_10 : List eg_I := .inl (10, 1, .iconst (0), 0, 0) :: c_Flat_isBetter_11
def c_Flat_isBetter_7 : List eg_I := .inl (7, 3, .getfield 18, 3, 1) :: c_Flat_isBetter_10
def c_Flat_isBetter_6 : List eg_I := .inl (6, 1, .aload 0, 0, 0) :: c_Flat_isBetter_7
def c_Flat_isBetter_5 : List eg_I := .inl (5, 1, .laload, 0, 0) :: c_Flat_isBetter_6
def c_Flat_isBetter_4 : List eg_I := .inl (4, 1, .iconst (0), 0, 0) :: c_Flat_isBetter_5
def c_Flat_isBetter_1 : List eg_I := .inl (1, 3, .getfield 18, 3, 1) :: c_Flat_isBetter_4
def c_Flat_isBetter_0 : List eg_I := .inl (0, 1, .aload 0, 0, 0) :: c_Flat_isBetter_1
section
variable {rm : Room} {K : Nat → Nat → Nat → eg_Lo → List Value → List eg_E → Prop} {Q : Option Value → List eg_E → Prop} {kc ks : Nat} {loc : eg_Lo} {st : List Value} {h : List eg_E}
theorem s_Flat_isBetter_0 {x : Nat} {l : eg_Lo} : wps rm K Q c_Flat_isBetter_0 kc ks (some (.ref x) :: l) (st) h = wps rm K Q c_Flat_isBetter_1 kc ks (some (.ref x) :: l) (.ref x :: st) h := rfl
theorem s_Flat_isBetter_1 {x : Nat} : wps rm K Q c_Flat_isBetter_1 kc ks loc (.ref (x + 1) :: st) h = eg_gf h x 3 1 (fun v => wps rm K Q c_Flat_isBetter_4 kc ks loc (v :: st) h) := rfl
theorem s_Flat_isBetter_4  : wps rm K Q c_Flat_isBetter_4 kc ks loc (st) h = wps rm K Q c_Flat_isBetter_5 kc ks loc (.int (0) :: st) h := rfl
theorem s_Flat_isBetter_5 {x : Nat} {i : Int32} : wps rm K Q c_Flat_isBetter_5 kc ks loc (.int i :: .ref (x + 1) :: st) h = eg_la h x i (fun v => wps rm K Q c_Flat_isBetter_6 kc ks loc (.long v :: st) h) := rfl
theorem s_Flat_isBetter_6 {x : Nat} {l : eg_Lo} : wps rm K Q c_Flat_isBetter_6 kc ks (some (.ref x) :: l) (st) h = wps rm K Q c_Flat_isBetter_7 kc ks (some (.ref x) :: l) (.ref x :: st) h := rfl
theorem s_Flat_isBetter_7 {x : Nat} : wps rm K Q c_Flat_isBetter_7 kc ks loc (.ref (x + 1) :: st) h = eg_gf h x 3 1 (fun v => wps rm K Q c_Flat_isBetter_10 kc ks loc (v :: st) h) := rfl
theorem s_Flat_isBetter_10  : wps rm K Q c_Flat_isBetter_10 kc ks loc (st) h = wps rm K Q c_Flat_isBetter_11 kc ks loc (.int (0) :: st) h := rfl
theorem s_Flat_isBetter_11 {x : Nat} {i : Int32} : wps rm K Q c_Flat_isBetter_11 kc ks loc (.int i :: .ref (x + 1) :: st) h = eg_la h x i (fun v => wps rm K Q c_Flat_isBetter_12 kc ks loc (.long v :: st) h) := rfl
theorem s_Flat_isBetter_12 {x y : Int64} : wps rm K Q c_Flat_isBetter_12 kc ks loc (.long y :: .long x :: st) h = wps rm K Q c_Flat_isBetter_13 kc ks loc (.long (x * y) :: st) h := rfl
theorem s_Flat_isBetter_13 {x : Nat} {l : eg_Lo} : wps rm K Q c_Flat_isBetter_13 kc ks (some (.ref x) :: l) (st) h = wps rm K Q c_Flat_isBetter_14 kc ks (some (.ref x) :: l) (.ref x :: st) h := rfl
theorem s_Flat_isBetter_14 {x : Nat} : wps rm K Q c_Flat_isBetter_14 kc ks loc (.ref (x + 1) :: st) h = eg_gf h x 3 1 (fun v => wps rm K Q c_Flat_isBetter_17 kc ks loc (v :: st) h) := rfl
theorem s_Flat_isBetter_17  : wps rm K Q c_Flat_isBetter_17 kc ks loc (st) h = wps rm K Q c_Flat_isBetter_18 kc ks loc (.int (1) :: st) h := rfl
theorem s_Flat_isBetter_18 {x : Nat} {i : Int32} : wps rm K Q c_Flat_isBetter_18 kc ks loc (.int i :: .ref (x + 1) :: st) h = eg_la h x i (fun v => wps rm K Q c_Flat_isBetter_19 kc ks loc (.long v :: st) h) := rfl
theorem s_Flat_isBetter_19 {x : Nat} {l : eg_Lo} : wps rm K Q c_Flat_isBetter_19 kc ks (some (.ref x) :: l) (st) h = wps rm K Q c_Flat_isBetter_20 kc ks (some (.ref x) :: l) (.ref x :: st) h := rfl
theorem s_Flat_isBetter_20 {x : Nat} : wps rm K Q c_Flat_isBetter_20 kc ks loc (.ref (x + 1) :: st) h = eg_gf h x 3 1 (fun v => wps rm K Q c_Flat_isBetter_23 kc ks loc (v :: st) h) := rfl
theorem s_Flat_isBetter_23  : wps rm K Q c_Flat_isBetter_23 kc ks loc (st) h = wps rm K Q c_Flat_isBetter_24 kc ks loc (.int (1) :: st) h := rfl
theorem s_Flat_isBetter_24 {x : Nat} {i : Int32} : wps rm K Q c_Flat_isBetter_24 kc ks loc (.int i :: .ref (x + 1) :: st) h = eg_la h x i (fun v => wps rm K Q c_Flat_isBetter_25 kc ks loc (.long v :: st) h) := rfl
theorem s_Flat_isBetter_25 {x y : Int64} : wps rm K Q c_Flat_isBetter_25 kc ks loc (.long y :: .long x :: st) h = wps rm K Q c_Flat_isBetter_26 kc ks loc (.long (x * y) :: st) h := rfl
theorem s_Flat_isBetter_26 {x y : Int64} : wps rm K Q c_Flat_isBetter_26 kc ks loc (.long y :: .long x :: st) h = wps rm K Q c_Flat_isBetter_27 kc ks loc (.long (x + y) :: st) h := rfl
theorem s_Flat_isBetter_27 {x : Nat} {l : eg_Lo} : wps rm K Q c_Flat_isBetter_27 kc ks (some (.ref x) :: l) (st) h = wps rm K Q c_Flat_isBetter_28 kc ks (some (.ref x) :: l) (.ref x :: st) h := rfl
theorem s_Flat_isBetter_28 {x : Nat} : wps rm K Q c_Flat_isBetter_28 kc ks loc (.ref (x + 1) :: st) h = eg_gf h x 3 1 (fun v => wps rm K Q c_Flat_isBetter_31 kc ks loc (v :: st) h) := rfl
theorem s_Flat_isBetter_31  : wps rm K Q c_Flat_isBetter_31 kc ks loc (st) h = wps rm K Q c_Flat_isBetter_32 kc ks loc (.int (2) :: st) h := rfl
theorem s_Flat_isBetter_32 {x : Nat} {i : Int32} : wps rm K Q c_Flat_isBetter_32 kc ks loc (.int i :: .ref (x + 1) :: st) h = eg_la h x i (fun v => wps rm K Q c_Flat_isBetter_33 kc ks loc (.long v :: st) h) := rfl
theorem s_Flat_isBetter_33 {x : Nat} {l : eg_Lo} : wps rm K Q c_Flat_isBetter_33 kc ks (some (.ref x) :: l) (st) h = wps rm K Q c_Flat_isBetter_34 kc ks (some (.ref x) :: l) (.ref x :: st) h := rfl
theorem s_Flat_isBetter_34 {x : Nat} : wps rm K Q c_Flat_isBetter_34 kc ks loc (.ref (x + 1) :: st) h = eg_gf h x 3 1 (fun v => wps rm K Q c_Flat_isBetter_37 kc ks loc (v :: st) h) := rfl
theorem s_Flat_isBetter_37  : wps rm K Q c_Flat_isBetter_37 kc ks loc (st) h = wps rm K Q c_Flat_isBetter_38 kc ks loc (.int (2) :: st) h := rfl
theorem s_Flat_isBetter_38 {x : Nat} {i : Int32} : wps rm K Q c_Flat_isBetter_38 kc ks loc (.int i :: .ref (x + 1) :: st) h = eg_la h x i (fun v => wps rm K Q c_Flat_isBetter_39 kc ks loc (.long v :: st) h) := rfl
theorem s_Flat_isBetter_39 {x y : Int64} : wps rm K Q c_Flat_isBetter_39 kc ks loc (.long y :: .long x :: st) h = wps rm K Q c_Flat_isBetter_40 kc ks loc (.long (x * y) :: st) h := rfl
theorem s_Flat_isBetter_40 {x y : Int64} : wps rm K Q c_Flat_isBetter_40 kc ks loc (.long y :: .long x :: st) h = wps rm K Q c_Flat_isBetter_41 kc ks loc (.long (x + y) :: st) h := rfl
theorem s_Flat_isBetter_41 {x : Int64} : wps rm K Q c_Flat_isBetter_41 kc ks loc (.long x :: st) h = wps rm K Q c_Flat_isBetter_42 kc ks (eg_set2 loc 2 (.long x)) (st) h := rfl
theorem s_Flat_isBetter_42 {x : Int64} {l0 l1 : Option Value} {l : eg_Lo} : wps rm K Q c_Flat_isBetter_42 kc ks (l0 :: l1 :: some (.long x) :: l) (st) h = wps rm K Q c_Flat_isBetter_43 kc ks (l0 :: l1 :: some (.long x) :: l) (.long x :: st) h := rfl
theorem s_Flat_isBetter_43  : wps rm K Q c_Flat_isBetter_43 kc ks loc (st) h = wps rm K Q c_Flat_isBetter_44 kc ks loc (.long (0) :: st) h := rfl
theorem s_Flat_isBetter_44 {x y : Int64} : wps rm K Q c_Flat_isBetter_44 kc ks loc (.long y :: .long x :: st) h = wps rm K Q c_Flat_isBetter_45 kc ks loc (.int (lg_cmp x y) :: st) h := rfl
theorem s_Flat_isBetter_45 {x : Int32} : wps rm K Q c_Flat_isBetter_45 kc ks loc (.int x :: st) h = ((¬ x = 0 → K 50 kc ks loc st h) ∧ (x = 0 → wps rm K Q c_Flat_isBetter_48 kc ks loc (st) h)) := rfl
theorem s_Flat_isBetter_48  : wps rm K Q c_Flat_isBetter_48 kc ks loc (st) h = wps rm K Q c_Flat_isBetter_49 kc ks loc (.int (0) :: st) h := rfl
theorem s_Flat_isBetter_49 {x : Int32} : wps rm K Q c_Flat_isBetter_49 kc ks loc ([.int x]) h = (kc = rm.cells ∧ ((1 : Nat) = 1 → x = 0 ∨ x = 1) ∧ Q (some (.int x)) h) := rfl
theorem s_Flat_isBetter_50  : wps rm K Q c_Flat_isBetter_50 kc ks loc (st) h = wps rm K Q c_Flat_isBetter_51 kc ks loc (.int (0) :: st) h := rfl
theorem s_Flat_isBetter_51 {x : Int32} : wps rm K Q c_Flat_isBetter_51 kc ks loc (.int x :: st) h = wps rm K Q c_Flat_isBetter_53 kc ks (eg_set1 loc 4 (.int x)) (st) h := rfl
theorem s_Flat_isBetter_53  : wps rm K Q c_Flat_isBetter_53 kc ks loc (st) h = wps rm K Q c_Flat_isBetter_54 kc ks loc (.int (0) :: st) h := rfl
theorem s_Flat_isBetter_54 {x : Int32} : wps rm K Q c_Flat_isBetter_54 kc ks loc (.int x :: st) h = wps rm K Q c_Flat_isBetter_56 kc ks (eg_set1 loc 5 (.int x)) (st) h := rfl
theorem s_Flat_isBetter_56 {x : Nat} {l : eg_Lo} : wps rm K Q c_Flat_isBetter_56 kc ks (some (.ref x) :: l) (st) h = wps rm K Q c_Flat_isBetter_57 kc ks (some (.ref x) :: l) (.ref x :: st) h := rfl
theorem s_Flat_isBetter_57 {x : Int32} {l0 : Option Value} {l : eg_Lo} : wps rm K Q c_Flat_isBetter_57 kc ks (l0 :: some (.int x) :: l) (st) h = wps rm K Q c_Flat_isBetter_58 kc ks (l0 :: some (.int x) :: l) (.int x :: st) h := rfl
theorem s_Flat_isBetter_58  : wps rm K Q c_Flat_isBetter_58 kc ks loc (st) h = wps rm K Q c_Flat_isBetter_59 kc ks loc (.int (0) :: st) h := rfl
theorem s_Flat_isBetter_59  {a1 : Value} {a2 : Value} {x : Nat} : wps rm K Q c_Flat_isBetter_59 kc ks loc (a2 :: a1 :: .ref (x + 1) :: st) h = (eg_cls h x 3 ∧ st.length ≤ 4 ∧ eg_Cs n_Flat_crossOf (.ref (x + 1) :: [a1, a2]) h (fun v h9 => wps rm K Q c_Flat_isBetter_62 kc ks loc (v.toList ++ st) h9)) := eg_c1_2
theorem s_Flat_isBetter_62 {x : Int64} : wps rm K Q c_Flat_isBetter_62 kc ks loc (.long x :: st) h = wps rm K Q c_Flat_isBetter_64 kc ks (eg_set2 loc 6 (.long x)) (st) h := rfl
theorem s_Flat_isBetter_64 {x : Int64} {l0 l1 l2 l3 l4 l5 : Option Value} {l : eg_Lo} : wps rm K Q c_Flat_isBetter_64 kc ks (l0 :: l1 :: l2 :: l3 :: l4 :: l5 :: some (.long x) :: l) (st) h = wps rm K Q c_Flat_isBetter_66 kc ks (l0 :: l1 :: l2 :: l3 :: l4 :: l5 :: some (.long x) :: l) (.long x :: st) h := rfl
theorem s_Flat_isBetter_66 {x : Int64} : wps rm K Q c_Flat_isBetter_66 kc ks loc (.long x :: st) h = wps rm K Q c_Flat_isBetter_68 kc ks (eg_set2 loc 8 (.long x)) (st) h := rfl
theorem s_Flat_isBetter_68 {x : Nat} {l : eg_Lo} : wps rm K Q c_Flat_isBetter_68 kc ks (some (.ref x) :: l) (st) h = wps rm K Q c_Flat_isBetter_69 kc ks (some (.ref x) :: l) (.ref x :: st) h := rfl
theorem s_Flat_isBetter_69  : wps rm K Q c_Flat_isBetter_69 kc ks loc (st) h = wps rm K Q c_Flat_isBetter_70 kc ks loc (.long (0) :: st) h := rfl
theorem s_Flat_isBetter_70 {x : Int64} {l0 l1 : Option Value} {l : eg_Lo} : wps rm K Q c_Flat_isBetter_70 kc ks (l0 :: l1 :: some (.long x) :: l) (st) h = wps rm K Q c_Flat_isBetter_71 kc ks (l0 :: l1 :: some (.long x) :: l) (.long x :: st) h := rfl
theorem s_Flat_isBetter_71  {a1 : Value} {a2 : Value} {x : Nat} : wps rm K Q c_Flat_isBetter_71 kc ks loc (a2 :: a1 :: .ref (x + 1) :: st) h = (eg_cls h x 3 ∧ st.length ≤ 4 ∧ eg_Cs n_Flat_isBeaten (.ref (x + 1) :: [a1, a2]) h (fun v h9 => wps rm K Q c_Flat_isBetter_74 kc ks loc (v.toList ++ st) h9)) := eg_c1_2
theorem s_Flat_isBetter_74 {x : Int32} : wps rm K Q c_Flat_isBetter_74 kc ks loc (.int x :: st) h = wps rm K Q c_Flat_isBetter_76 kc ks (eg_set1 loc 10 (.int x)) (st) h := rfl
theorem s_Flat_isBetter_76  : wps rm K Q c_Flat_isBetter_76 kc ks loc (st) h = wps rm K Q c_Flat_isBetter_77 kc ks loc (.int (1) :: st) h := rfl
theorem s_Flat_isBetter_77 {x : Int32} : wps rm K Q c_Flat_isBetter_77 kc ks loc (.int x :: st) h = K 79 kc ks (eg_set1 loc 11 (.int x)) (st) h := rfl
theorem s_Flat_isBetter_79 {x : Int32} {l0 l1 l2 l3 l4 l5 l6 l7 l8 l9 l10 : Option Value} {l : eg_Lo} : wps rm K Q c_Flat_isBetter_79 kc ks (l0 :: l1 :: l2 :: l3 :: l4 :: l5 :: l6 :: l7 :: l8 :: l9 :: l10 :: some (.int x) :: l) (st) h = wps rm K Q c_Flat_isBetter_81 kc ks (l0 :: l1 :: l2 :: l3 :: l4 :: l5 :: l6 :: l7 :: l8 :: l9 :: l10 :: some (.int x) :: l) (.int x :: st) h := rfl
theorem s_Flat_isBetter_81 {x : Nat} {l : eg_Lo} : wps rm K Q c_Flat_isBetter_81 kc ks (some (.ref x) :: l) (st) h = wps rm K Q c_Flat_isBetter_82 kc ks (some (.ref x) :: l) (.ref x :: st) h := rfl
theorem s_Flat_isBetter_82 {x : Nat} : wps rm K Q c_Flat_isBetter_82 kc ks loc (.ref (x + 1) :: st) h = eg_gf h x 3 0 (fun v => wps rm K Q c_Flat_isBetter_85 kc ks loc (v :: st) h) := rfl
theorem s_Flat_isBetter_85 {x : Nat} : wps rm K Q c_Flat_isBetter_85 kc ks loc (.ref (x + 1) :: st) h = eg_gf h x 10 4 (fun v => wps rm K Q c_Flat_isBetter_88 kc ks loc (v :: st) h) := rfl
theorem s_Flat_isBetter_88 {x y : Int32} : wps rm K Q c_Flat_isBetter_88 kc ks loc (.int y :: .int x :: st) h = ((y ≤ x → K 170 kc ks loc st h) ∧ (¬ y ≤ x → wps rm K Q c_Flat_isBetter_91 kc ks loc (st) h)) := rfl
theorem s_Flat_isBetter_91 {x : Int32} {l0 l1 l2 l3 l4 l5 l6 l7 l8 l9 : Option Value} {l : eg_Lo} : wps rm K Q c_Flat_isBetter_91 kc ks (l0 :: l1 :: l2 :: l3 :: l4 :: l5 :: l6 :: l7 :: l8 :: l9 :: some (.int x) :: l) (st) h = wps rm K Q c_Flat_isBetter_93 kc ks (l0 :: l1 :: l2 :: l3 :: l4 :: l5 :: l6 :: l7 :: l8 :: l9 :: some (.int x) :: l) (.int x :: st) h := rfl
theorem s_Flat_isBetter_93 {x : Int32} : wps rm K Q c_Flat_isBetter_93 kc ks loc (.int x :: st) h = ((¬ x = 0 → K 170 kc ks loc st h) ∧ (x = 0 → wps rm K Q c_Flat_isBetter_96 kc ks loc (st) h)) := rfl
theorem s_Flat_isBetter_96 {x : Nat} {l : eg_Lo} : wps rm K Q c_Flat_isBetter_96 kc ks (some (.ref x) :: l) (st) h = wps rm K Q c_Flat_isBetter_97 kc ks (some (.ref x) :: l) (.ref x :: st) h := rfl
theorem s_Flat_isBetter_97 {x : Int32} {l0 : Option Value} {l : eg_Lo} : wps rm K Q c_Flat_isBetter_97 kc ks (l0 :: some (.int x) :: l) (st) h = wps rm K Q c_Flat_isBetter_98 kc ks (l0 :: some (.int x) :: l) (.int x :: st) h := rfl
theorem s_Flat_isBetter_98 {x : Int32} {l0 l1 l2 l3 l4 l5 l6 l7 l8 l9 l10 : Option Value} {l : eg_Lo} : wps rm K Q c_Flat_isBetter_98 kc ks (l0 :: l1 :: l2 :: l3 :: l4 :: l5 :: l6 :: l7 :: l8 :: l9 :: l10 :: some (.int x) :: l) (st) h = wps rm K Q c_Flat_isBetter_100 kc ks (l0 :: l1 :: l2 :: l3 :: l4 :: l5 :: l6 :: l7 :: l8 :: l9 :: l10 :: some (.int x) :: l) (.int x :: st) h := rfl
theorem s_Flat_isBetter_100  {a1 : Value} {a2 : Value} {x : Nat} : wps rm K Q c_Flat_isBetter_100 kc ks loc (a2 :: a1 :: .ref (x + 1) :: st) h = (eg_cls h x 3 ∧ st.length ≤ 4 ∧ eg_Cs n_Flat_crossOf (.ref (x + 1) :: [a1, a2]) h (fun v h9 => wps rm K Q c_Flat_isBetter_103 kc ks loc (v.toList ++ st) h9)) := eg_c1_2
theorem s_Flat_isBetter_103 {x : Int64} : wps rm K Q c_Flat_isBetter_103 kc ks loc (.long x :: st) h = wps rm K Q c_Flat_isBetter_105 kc ks (eg_set2 loc 12 (.long x)) (st) h := rfl
theorem s_Flat_isBetter_105 {x : Int64} {l0 l1 l2 l3 l4 l5 l6 l7 l8 l9 l10 l11 : Option Value} {l : eg_Lo} : wps rm K Q c_Flat_isBetter_105 kc ks (l0 :: l1 :: l2 :: l3 :: l4 :: l5 :: l6 :: l7 :: l8 :: l9 :: l10 :: l11 :: some (.long x) :: l) (st) h = wps rm K Q c_Flat_isBetter_107 kc ks (l0 :: l1 :: l2 :: l3 :: l4 :: l5 :: l6 :: l7 :: l8 :: l9 :: l10 :: l11 :: some (.long x) :: l) (.long x :: st) h := rfl
theorem s_Flat_isBetter_107 {x : Int64} {l0 l1 l2 l3 l4 l5 : Option Value} {l : eg_Lo} : wps rm K Q c_Flat_isBetter_107 kc ks (l0 :: l1 :: l2 :: l3 :: l4 :: l5 :: some (.long x) :: l) (st) h = wps rm K Q c_Flat_isBetter_109 kc ks (l0 :: l1 :: l2 :: l3 :: l4 :: l5 :: some (.long x) :: l) (.long x :: st) h := rfl
theorem s_Flat_isBetter_109 {x y : Int64} : wps rm K Q c_Flat_isBetter_109 kc ks loc (.long y :: .long x :: st) h = wps rm K Q c_Flat_isBetter_110 kc ks loc (.int (lg_cmp x y) :: st) h := rfl
theorem s_Flat_isBetter_110 {x : Int32} : wps rm K Q c_Flat_isBetter_110 kc ks loc (.int x :: st) h = ((x ≤ 0 → K 136 kc ks loc st h) ∧ (¬ x ≤ 0 → wps rm K Q c_Flat_isBetter_113 kc ks loc (st) h)) := rfl
theorem s_Flat_isBetter_113 {x : Int64} {l0 l1 l2 l3 l4 l5 l6 l7 l8 l9 l10 l11 : Option Value} {l : eg_Lo} : wps rm K Q c_Flat_isBetter_113 kc ks (l0 :: l1 :: l2 :: l3 :: l4 :: l5 :: l6 :: l7 :: l8 :: l9 :: l10 :: l11 :: some (.long x) :: l) (st) h = wps rm K Q c_Flat_isBetter_115 kc ks (l0 :: l1 :: l2 :: l3 :: l4 :: l5 :: l6 :: l7 :: l8 :: l9 :: l10 :: l11 :: some (.long x) :: l) (.long x :: st) h := rfl
theorem s_Flat_isBetter_115 {x : Int64} : wps rm K Q c_Flat_isBetter_115 kc ks loc (.long x :: st) h = wps rm K Q c_Flat_isBetter_117 kc ks (eg_set2 loc 6 (.long x)) (st) h := rfl
theorem s_Flat_isBetter_117 {x : Int32} {l0 l1 l2 l3 l4 l5 l6 l7 l8 l9 l10 : Option Value} {l : eg_Lo} : wps rm K Q c_Flat_isBetter_117 kc ks (l0 :: l1 :: l2 :: l3 :: l4 :: l5 :: l6 :: l7 :: l8 :: l9 :: l10 :: some (.int x) :: l) (st) h = wps rm K Q c_Flat_isBetter_119 kc ks (l0 :: l1 :: l2 :: l3 :: l4 :: l5 :: l6 :: l7 :: l8 :: l9 :: l10 :: some (.int x) :: l) (.int x :: st) h := rfl
theorem s_Flat_isBetter_119 {x : Int32} : wps rm K Q c_Flat_isBetter_119 kc ks loc (.int x :: st) h = wps rm K Q c_Flat_isBetter_121 kc ks (eg_set1 loc 4 (.int x)) (st) h := rfl
theorem s_Flat_isBetter_121 {x : Nat} {l : eg_Lo} : wps rm K Q c_Flat_isBetter_121 kc ks (some (.ref x) :: l) (st) h = wps rm K Q c_Flat_isBetter_122 kc ks (some (.ref x) :: l) (.ref x :: st) h := rfl
theorem s_Flat_isBetter_122 {x : Int64} {l0 l1 l2 l3 l4 l5 : Option Value} {l : eg_Lo} : wps rm K Q c_Flat_isBetter_122 kc ks (l0 :: l1 :: l2 :: l3 :: l4 :: l5 :: some (.long x) :: l) (st) h = wps rm K Q c_Flat_isBetter_124 kc ks (l0 :: l1 :: l2 :: l3 :: l4 :: l5 :: some (.long x) :: l) (.long x :: st) h := rfl
theorem s_Flat_isBetter_124 {x : Int64} {l0 l1 l2 l3 l4 l5 l6 l7 : Option Value} {l : eg_Lo} : wps rm K Q c_Flat_isBetter_124 kc ks (l0 :: l1 :: l2 :: l3 :: l4 :: l5 :: l6 :: l7 :: some (.long x) :: l) (st) h = wps rm K Q c_Flat_isBetter_126 kc ks (l0 :: l1 :: l2 :: l3 :: l4 :: l5 :: l6 :: l7 :: some (.long x) :: l) (.long x :: st) h := rfl
theorem s_Flat_isBetter_126 {x y : Int64} : wps rm K Q c_Flat_isBetter_126 kc ks loc (.long y :: .long x :: st) h = wps rm K Q c_Flat_isBetter_127 kc ks loc (.long (x - y) :: st) h := rfl
theorem s_Flat_isBetter_127 {x : Int64} {l0 l1 : Option Value} {l : eg_Lo} : wps rm K Q c_Flat_isBetter_127 kc ks (l0 :: l1 :: some (.long x) :: l) (st) h = wps rm K Q c_Flat_isBetter_128 kc ks (l0 :: l1 :: some (.long x) :: l) (.long x :: st) h := rfl
theorem s_Flat_isBetter_128  {a1 : Value} {a2 : Value} {x : Nat} : wps rm K Q c_Flat_isBetter_128 kc ks loc (a2 :: a1 :: .ref (x + 1) :: st) h = (eg_cls h x 3 ∧ st.length ≤ 4 ∧ eg_Cs n_Flat_isBeaten (.ref (x + 1) :: [a1, a2]) h (fun v h9 => wps rm K Q c_Flat_isBetter_131 kc ks loc (v.toList ++ st) h9)) := eg_c1_2
theorem s_Flat_isBetter_131 {x : Int32} : wps rm K Q c_Flat_isBetter_131 kc ks loc (.int x :: st) h = wps rm K Q c_Flat_isBetter_133 kc ks (eg_set1 loc 10 (.int x)) (st) h := rfl
theorem s_Flat_isBetter_133  : wps rm K Q c_Flat_isBetter_133 kc ks loc (st) h = K 164 kc ks loc st h := rfl
theorem s_Flat_isBetter_136 {x : Int64} {l0 l1 l2 l3 l4 l5 l6 l7 l8 l9 l10 l11 : Option Value} {l : eg_Lo} : wps rm K Q c_Flat_isBetter_136 kc ks (l0 :: l1 :: l2 :: l3 :: l4 :: l5 :: l6 :: l7 :: l8 :: l9 :: l10 :: l11 :: some (.long x) :: l) (st) h = wps rm K Q c_Flat_isBetter_138 kc ks (l0 :: l1 :: l2 :: l3 :: l4 :: l5 :: l6 :: l7 :: l8 :: l9 :: l10 :: l11 :: some (.long x) :: l) (.long x :: st) h := rfl
theorem s_Flat_isBetter_138 {x : Int64} {l0 l1 l2 l3 l4 l5 l6 l7 : Option Value} {l : eg_Lo} : wps rm K Q c_Flat_isBetter_138 kc ks (l0 :: l1 :: l2 :: l3 :: l4 :: l5 :: l6 :: l7 :: some (.long x) :: l) (st) h = wps rm K Q c_Flat_isBetter_140 kc ks (l0 :: l1 :: l2 :: l3 :: l4 :: l5 :: l6 :: l7 :: some (.long x) :: l) (.long x :: st) h := rfl
theorem s_Flat_isBetter_140 {x y : Int64} : wps rm K Q c_Flat_isBetter_140 kc ks loc (.long y :: .long x :: st) h = wps rm K Q c_Flat_isBetter_141 kc ks loc (.int (lg_cmp x y) :: st) h := rfl
theorem s_Flat_isBetter_141 {x : Int32} : wps rm K Q c_Flat_isBetter_141 kc ks loc (.int x :: st) h = ((0 ≤ x → K 164 kc ks loc st h) ∧ (¬ 0 ≤ x → wps rm K Q c_Flat_isBetter_144 kc ks loc (st) h)) := rfl
theorem s_Flat_isBetter_144 {x : Int64} {l0 l1 l2 l3 l4 l5 l6 l7 l8 l9 l10 l11 : Option Value} {l : eg_Lo} : wps rm K Q c_Flat_isBetter_144 kc ks (l0 :: l1 :: l2 :: l3 :: l4 :: l5 :: l6 :: l7 :: l8 :: l9 :: l10 :: l11 :: some (.long x) :: l) (st) h = wps rm K Q c_Flat_isBetter_146 kc ks (l0 :: l1 :: l2 :: l3 :: l4 :: l5 :: l6 :: l7 :: l8 :: l9 :: l10 :: l11 :: some (.long x) :: l) (.long x :: st) h := rfl
theorem s_Flat_isBetter_146 {x : Int64} : wps rm K Q c_Flat_isBetter_146 kc ks loc (.long x :: st) h = wps rm K Q c_Flat_isBetter_148 kc ks (eg_set2 loc 8 (.long x)) (st) h := rfl
theorem s_Flat_isBetter_148 {x : Int32} {l0 l1 l2 l3 l4 l5 l6 l7 l8 l9 l10 : Option Value} {l : eg_Lo} : wps rm K Q c_Flat_isBetter_148 kc ks (l0 :: l1 :: l2 :: l3 :: l4 :: l5 :: l6 :: l7 :: l8 :: l9 :: l10 :: some (.int x) :: l) (st) h = wps rm K Q c_Flat_isBetter_150 kc ks (l0 :: l1 :: l2 :: l3 :: l4 :: l5 :: l6 :: l7 :: l8 :: l9 :: l10 :: some (.int x) :: l) (.int x :: st) h := rfl
theorem s_Flat_isBetter_150 {x : Int32} : wps rm K Q c_Flat_isBetter_150 kc ks loc (.int x :: st) h = wps rm K Q c_Flat_isBetter_152 kc ks (eg_set1 loc 5 (.int x)) (st) h := rfl
theorem s_Flat_isBetter_152 {x : Nat} {l : eg_Lo} : wps rm K Q c_Flat_isBetter_152 kc ks (some (.ref x) :: l) (st) h = wps rm K Q c_Flat_isBetter_153 kc ks (some (.ref x) :: l) (.ref x :: st) h := rfl
theorem s_Flat_isBetter_153 {x : Int64} {l0 l1 l2 l3 l4 l5 : Option Value} {l : eg_Lo} : wps rm K Q c_Flat_isBetter_153 kc ks (l0 :: l1 :: l2 :: l3 :: l4 :: l5 :: some (.long x) :: l) (st) h = wps rm K Q c_Flat_isBetter_155 kc ks (l0 :: l1 :: l2 :: l3 :: l4 :: l5 :: some (.long x) :: l) (.long x :: st) h := rfl
theorem s_Flat_isBetter_155 {x : Int64} {l0 l1 l2 l3 l4 l5 l6 l7 : Option Value} {l : eg_Lo} : wps rm K Q c_Flat_isBetter_155 kc ks (l0 :: l1 :: l2 :: l3 :: l4 :: l5 :: l6 :: l7 :: some (.long x) :: l) (st) h = wps rm K Q c_Flat_isBetter_157 kc ks (l0 :: l1 :: l2 :: l3 :: l4 :: l5 :: l6 :: l7 :: some (.long x) :: l) (.long x :: st) h := rfl
theorem s_Flat_isBetter_157 {x y : Int64} : wps rm K Q c_Flat_isBetter_157 kc ks loc (.long y :: .long x :: st) h = wps rm K Q c_Flat_isBetter_158 kc ks loc (.long (x - y) :: st) h := rfl
theorem s_Flat_isBetter_158 {x : Int64} {l0 l1 : Option Value} {l : eg_Lo} : wps rm K Q c_Flat_isBetter_158 kc ks (l0 :: l1 :: some (.long x) :: l) (st) h = wps rm K Q c_Flat_isBetter_159 kc ks (l0 :: l1 :: some (.long x) :: l) (.long x :: st) h := rfl
theorem s_Flat_isBetter_159  {a1 : Value} {a2 : Value} {x : Nat} : wps rm K Q c_Flat_isBetter_159 kc ks loc (a2 :: a1 :: .ref (x + 1) :: st) h = (eg_cls h x 3 ∧ st.length ≤ 4 ∧ eg_Cs n_Flat_isBeaten (.ref (x + 1) :: [a1, a2]) h (fun v h9 => wps rm K Q c_Flat_isBetter_162 kc ks loc (v.toList ++ st) h9)) := eg_c1_2
theorem s_Flat_isBetter_162 {x : Int32} : wps rm K Q c_Flat_isBetter_162 kc ks loc (.int x :: st) h = wps rm K Q c_Flat_isBetter_164 kc ks (eg_set1 loc 10 (.int x)) (st) h := rfl
theorem s_Flat_isBetter_164 {x : Int32} {l0 l1 l2 l3 l4 l5 l6 l7 l8 l9 l10 : Option Value} {l9 : eg_Lo} : wps rm K Q c_Flat_isBetter_164 kc ks (l0 :: l1 :: l2 :: l3 :: l4 :: l5 :: l6 :: l7 :: l8 :: l9 :: l10 :: some (.int x) :: l9) (st) h = wps rm K Q c_Flat_isBetter_167 kc ks (eg_set1 (l0 :: l1 :: l2 :: l3 :: l4 :: l5 :: l6 :: l7 :: l8 :: l9 :: l10 :: some (.int x) :: l9) 11 (.int (x + (1)))) (st) h := rfl
theorem s_Flat_isBetter_167  : wps rm K Q c_Flat_isBetter_167 kc ks loc (st) h = K 79 kc ks loc st h := rfl
theorem s_Flat_isBetter_170 {x : Int32} {l0 l1 l2 l3 l4 l5 l6 l7 l8 l9 : Option Value} {l : eg_Lo} : wps rm K Q c_Flat_isBetter_170 kc ks (l0 :: l1 :: l2 :: l3 :: l4 :: l5 :: l6 :: l7 :: l8 :: l9 :: some (.int x) :: l) (st) h = wps rm K Q c_Flat_isBetter_172 kc ks (l0 :: l1 :: l2 :: l3 :: l4 :: l5 :: l6 :: l7 :: l8 :: l9 :: some (.int x) :: l) (.int x :: st) h := rfl
theorem s_Flat_isBetter_172 {x : Int32} : wps rm K Q c_Flat_isBetter_172 kc ks loc (.int x :: st) h = ((¬ x = 0 → K 189 kc ks loc st h) ∧ (x = 0 → wps rm K Q c_Flat_isBetter_175 kc ks loc (st) h)) := rfl
theorem s_Flat_isBetter_175 {x : Nat} {l : eg_Lo} : wps rm K Q c_Flat_isBetter_175 kc ks (some (.ref x) :: l) (st) h = wps rm K Q c_Flat_isBetter_176 kc ks (some (.ref x) :: l) (.ref x :: st) h := rfl
theorem s_Flat_isBetter_176 {x : Int64} {l0 l1 l2 l3 l4 l5 : Option Value} {l : eg_Lo} : wps rm K Q c_Flat_isBetter_176 kc ks (l0 :: l1 :: l2 :: l3 :: l4 :: l5 :: some (.long x) :: l) (st) h = wps rm K Q c_Flat_isBetter_178 kc ks (l0 :: l1 :: l2 :: l3 :: l4 :: l5 :: some (.long x) :: l) (.long x :: st) h := rfl
theorem s_Flat_isBetter_178 {x : Int64} {l0 l1 l2 l3 l4 l5 l6 l7 : Option Value} {l : eg_Lo} : wps rm K Q c_Flat_isBetter_178 kc ks (l0 :: l1 :: l2 :: l3 :: l4 :: l5 :: l6 :: l7 :: some (.long x) :: l) (st) h = wps rm K Q c_Flat_isBetter_180 kc ks (l0 :: l1 :: l2 :: l3 :: l4 :: l5 :: l6 :: l7 :: some (.long x) :: l) (.long x :: st) h := rfl
theorem s_Flat_isBetter_180 {x y : Int64} : wps rm K Q c_Flat_isBetter_180 kc ks loc (.long y :: .long x :: st) h = wps rm K Q c_Flat_isBetter_181 kc ks loc (.long (x - y) :: st) h := rfl
theorem s_Flat_isBetter_181 {x : Int64} {l0 l1 : Option Value} {l : eg_Lo} : wps rm K Q c_Flat_isBetter_181 kc ks (l0 :: l1 :: some (.long x) :: l) (st) h = wps rm K Q c_Flat_isBetter_182 kc ks (l0 :: l1 :: some (.long x) :: l) (.long x :: st) h := rfl
theorem s_Flat_isBetter_182 {x : Int32} {l0 l1 l2 l3 : Option Value} {l : eg_Lo} : wps rm K Q c_Flat_isBetter_182 kc ks (l0 :: l1 :: l2 :: l3 :: some (.int x) :: l) (st) h = wps rm K Q c_Flat_isBetter_184 kc ks (l0 :: l1 :: l2 :: l3 :: some (.int x) :: l) (.int x :: st) h := rfl
theorem s_Flat_isBetter_184 {x : Int32} {l0 l1 l2 l3 l4 : Option Value} {l : eg_Lo} : wps rm K Q c_Flat_isBetter_184 kc ks (l0 :: l1 :: l2 :: l3 :: l4 :: some (.int x) :: l) (st) h = wps rm K Q c_Flat_isBetter_186 kc ks (l0 :: l1 :: l2 :: l3 :: l4 :: some (.int x) :: l) (.int x :: st) h := rfl
theorem s_Flat_isBetter_186  {a1 : Value} {a2 : Value} {a3 : Value} {a4 : Value} {x : Nat} : wps rm K Q c_Flat_isBetter_186 kc ks loc (a4 :: a3 :: a2 :: a1 :: .ref (x + 1) :: st) h = (eg_cls h x 3 ∧ st.length ≤ 4 ∧ eg_Cs n_Flat_keepBest (.ref (x + 1) :: [a1, a2, a3, a4]) h (fun v h9 => wps rm K Q c_Flat_isBetter_189 kc ks loc (v.toList ++ st) h9)) := eg_c1_4
theorem s_Flat_isBetter_189 {x : Int32} {l0 l1 l2 l3 l4 l5 l6 l7 l8 l9 : Option Value} {l : eg_Lo} : wps rm K Q c_Flat_isBetter_189 kc ks (l0 :: l1 :: l2 :: l3 :: l4 :: l5 :: l6 :: l7 :: l8 :: l9 :: some (.int x) :: l) (st) h = wps rm K Q c_Flat_isBetter_191 kc ks (l0 :: l1 :: l2 :: l3 :: l4 :: l5 :: l6 :: l7 :: l8 :: l9 :: some (.int x) :: l) (.int x :: st) h := rfl
theorem s_Flat_isBetter_191 {x : Int32} : wps rm K Q c_Flat_isBetter_191 kc ks loc (.int x :: st) h = ((¬ x = 0 → K 198 kc ks loc st h) ∧ (x = 0 → wps rm K Q c_Flat_isBetter_194 kc ks loc (st) h)) := rfl
theorem s_Flat_isBetter_194  : wps rm K Q c_Flat_isBetter_194 kc ks loc (st) h = wps rm K Q c_Flat_isBetter_195 kc ks loc (.int (1) :: st) h := rfl
theorem s_Flat_isBetter_195  : wps rm K Q c_Flat_isBetter_195 kc ks loc (st) h = K 199 kc ks loc st h := rfl
theorem s_Flat_isBetter_198  : wps rm K Q c_Flat_isBetter_198 kc ks loc (st) h = wps rm K Q c_Flat_isBetter_199 kc ks loc (.int (0) :: st) h := rfl
theorem s_Flat_isBetter_199 {x : Int32} : wps rm K Q c_Flat_isBetter_199 kc ks loc ([.int x]) h = (kc = rm.cells ∧ ((1 : Nat) = 1 → x = 0 ∨ x = 1) ∧ Q (some (.int x)) h) := rfl
def T_Flat_isBetter : List (Nat × List eg_I) := [(50, c_Flat_isBetter_50), (136, c_Flat_isBetter_136), (164, c_Flat_isBetter_164), (170, c_Flat_isBetter_170), (189, c_Flat_isBetter_189), (198, c_Flat_isBetter_198), (199, c_Flat_isBetter_199)]
theorem j_Flat_isBetter_50 {R : Nat → Nat → Nat → eg_Lo → List Value → List eg_E → Prop} {f pc0 : Nat} : eg_run rm R Q T_Flat_isBetter (f + 1) 50 kc ks loc st h = wps rm (eg_run rm R Q T_Flat_isBetter f) Q c_Flat_isBetter_50 kc ks loc st h := rfl
theorem j_Flat_isBetter_136 {R : Nat → Nat → Nat → eg_Lo → List Value → List eg_E → Prop} {f pc0 : Nat} : eg_run rm R Q T_Flat_isBetter (f + 1) 136 kc ks loc st h = wps rm (eg_run rm R Q T_Flat_isBetter f) Q c_Flat_isBetter_136 kc ks loc st h := rfl
theorem j_Flat_isBetter_164 {R : Nat → Nat → Nat → eg_Lo → List Value → List eg_E → Prop} {f pc0 : Nat} : eg_run rm R Q T_Flat_isBetter (f + 1) 164 kc ks loc st h = wps rm (eg_run rm R Q T_Flat_isBetter f) Q c_Flat_isBetter_164 kc ks loc st h := rfl
theorem j_Flat_isBetter_170 {R : Nat → Nat → Nat → eg_Lo → List Value → List eg_E → Prop} {f pc0 : Nat} : eg_run rm R Q T_Flat_isBetter (f + 1) 170 kc ks loc st h = wps rm (eg_run rm R Q T_Flat_isBetter f) Q c_Flat_isBetter_170 kc ks loc st h := rfl
theorem j_Flat_isBetter_189 {R : Nat → Nat → Nat → eg_Lo → List Value → List eg_E → Prop} {f pc0 : Nat} : eg_run rm R Q T_Flat_isBetter (f + 1) 189 kc ks loc st h = wps rm (eg_run rm R Q T_Flat_isBetter f) Q c_Flat_isBetter_189 kc ks loc st h := rfl
theorem j_Flat_isBetter_198 {R : Nat → Nat → Nat → eg_Lo → List Value → List eg_E → Prop} {f pc0 : Nat} : eg_run rm R Q T_Flat_isBetter (f + 1) 198 kc ks loc st h = wps rm (eg_run rm R Q T_Flat_isBetter f) Q c_Flat_isBetter_198 kc ks loc st h := rfl
theorem j_Flat_isBetter_199 {R : Nat → Nat → Nat → eg_Lo → List Value → List eg_E → Prop} {f pc0 : Nat} : eg_run rm R Q T_Flat_isBetter (f + 1) 199 kc ks loc st h = wps rm (eg_run rm R Q T_Flat_isBetter f) Q c_Flat_isBetter_199 kc ks loc st h := rfl
theorem j_Flat_isBetter_79 {R : Nat → Nat → Nat → eg_Lo → List Value → List eg_E → Prop} {f pc0 : Nat} : eg_run rm R Q T_Flat_isBetter (f + 1) 79 kc ks loc st h = R 79 kc ks loc st h := rfl
end
theorem q_Flat_isBetter : (T_Flat_isBetter.all fun q => eg_seq m_Flat_isBetter q.1 q.2) = true := by decide +kernel
theorem b_Flat_isBetter {as : List Value} {h : List eg_E} {Q : Option Value → List eg_E → Prop} (hf : (eg_fl as).length ≤ 14) (hw : wps (eg_rm m_Flat_isBetter) (eg_run (eg_rm m_Flat_isBetter) (eg_R m_Flat_isBetter Q (h.length + 0)) Q T_Flat_isBetter 9) Q c_Flat_isBetter_0 0 0 (eg_entry 14 as) [] h) : eg_Runs n_Flat_isBetter as h Q := eg_begin (d := m_Flat_isBetter) rfl (by decide) (by decide +kernel) q_Flat_isBetter hf hw
theorem p_Flat_isBetter_79 {Q : Option Value → List eg_E → Prop} {n0 kc ks : Nat} {loc : eg_Lo} {st : List Value} {h : List eg_E} (hw : wps (eg_rm m_Flat_isBetter) (eg_run (eg_rm m_Flat_isBetter) (eg_R m_Flat_isBetter Q n0) Q T_Flat_isBetter 9) Q c_Flat_isBetter_79 kc ks loc st h) : eg_R m_Flat_isBetter Q n0 79 kc ks loc st h := eg_go (by decide +kernel) q_Flat_isBetter hw
/-! ===== Flat_keepBest ===== -/
def c_Flat_keepBest_43 : List eg_I := .inl (43, 1, .return_, 0, 0) :: []
def c_Flat_keepBest_40 : List eg_I := .inl (40, 3, .putstatic 51, 3, 4) :: c_Flat_keepBest_43
def c_Flat_keepBest_39 : List eg_I := .inl (39, 1, .iconst (1), 0, 0) :: c_Flat_keepBest_40
def c_Flat_keepBest_38 : List eg_I := .inl (38, 1, .aload 0, 0, 0) :: c_Flat_keepBest_39
def c_Flat_keepBest_35 : List eg_I := .inl (35, 3, .monitorexit, 104, 0) :: c_Flat_keepBest_38
def c_Flat_keepBest_34 : List eg_I := .inl (34, 1, .iconst (3), 0, 0) :: c_Flat_keepBest_35
def c_Flat_keepBest_33 : List eg_I := .inl (33, 1, .iconst (0), 0, 0) :: c_Flat_keepBest_34
def c_Flat_keepBest_30 : List eg_I := .inl (30, 3, .getfield 22, 3, 2) :: c_Flat_keepBest_33
def c_Flat_keepBest_29 : List eg_I := .inl (29, 1, .aload 0, 0, 0) :: c_Flat_keepBest_30
def c_Flat_keepBest_28 : List eg_I := .inl (28, 1, .iconst (0), 0, 0) :: c_Flat_keepBest_29
def c_Flat_keepBest_25 : List eg_I := .inl (25, 3, .getfield 18, 3, 1) :: c_Flat_keepBest_28
def c_Flat_keepBest_24 : List eg_I := .inl (24, 1, .aload 0, 0, 0) :: c_Flat_keepBest_25
def c_Flat_keepBest_21 : List eg_I := .inl (21, 3, .putfield 101, 3, 8) :: c_Flat_keepBest_24
def c_Flat_keepBest_19 : List eg_I := .inl (19, 2, .iload 6, 0, 0) :: c_Flat_keepBest_21
def c_Flat_keepBest_18 : List eg_I := .inl (18, 1, .aload 0, 0, 0) :: c_Flat_keepBest_19
def c_Flat_keepBest_15 : List eg_I := .inl (15, 3, .putfield 98, 3, 7) :: c_Flat_keepBest_18
def c_Flat_keepBest_13 : List eg_I := .inl (13, 2, .iload 5, 0, 0) :: c_Flat_keepBest_15
def c_Flat_keepBest_12 : List eg_I := .inl (12, 1, .aload 0, 0, 0) :: c_Flat_keepBest_13
def c_Flat_keepBest_9 : List eg_I := .inl (9, 3, .putfield 95, 3, 6) :: c_Flat_keepBest_12
def c_Flat_keepBest_8 : List eg_I := .inl (8, 1, .lload 3, 0, 0) :: c_Flat_keepBest_9
def c_Flat_keepBest_7 : List eg_I := .inl (7, 1, .aload 0, 0, 0) :: c_Flat_keepBest_8
def c_Flat_keepBest_4 : List eg_I := .inl (4, 3, .putfield 91, 3, 5) :: c_Flat_keepBest_7
def c_Flat_keepBest_3 : List eg_I := .inl (3, 1, .lmul, 0, 0) :: c_Flat_keepBest_4
def c_Flat_keepBest_2 : List eg_I := .inl (2, 1, .lload 1, 0, 0) :: c_Flat_keepBest_3
def c_Flat_keepBest_1 : List eg_I := .inl (1, 1, .lload 1, 0, 0) :: c_Flat_keepBest_2
def c_Flat_keepBest_0 : List eg_I := .inl (0, 1, .aload 0, 0, 0) :: c_Flat_keepBest_1
section
variable {rm : Room} {K : Nat → Nat → Nat → eg_Lo → List Value → List eg_E → Prop} {Q : Option Value → List eg_E → Prop} {kc ks : Nat} {loc : eg_Lo} {st : List Value} {h : List eg_E}
theorem s_Flat_keepBest_0 {x : Nat} {l : eg_Lo} : wps rm K Q c_Flat_keepBest_0 kc ks (some (.ref x) :: l) (st) h = wps rm K Q c_Flat_keepBest_1 kc ks (some (.ref x) :: l) (.ref x :: st) h := rfl
theorem s_Flat_keepBest_1 {x : Int64} {l0 : Option Value} {l : eg_Lo} : wps rm K Q c_Flat_keepBest_1 kc ks (l0 :: some (.long x) :: l) (st) h = wps rm K Q c_Flat_keepBest_2 kc ks (l0 :: some (.long x) :: l) (.long x :: st) h := rfl
theorem s_Flat_keepBest_2 {x : Int64} {l0 : Option Value} {l : eg_Lo} : wps rm K Q c_Flat_keepBest_2 kc ks (l0 :: some (.long x) :: l) (st) h = wps rm K Q c_Flat_keepBest_3 kc ks (l0 :: some (.long x) :: l) (.long x :: st) h := rfl
theorem s_Flat_keepBest_3 {x y : Int64} : wps rm K Q c_Flat_keepBest_3 kc ks loc (.long y :: .long x :: st) h = wps rm K Q c_Flat_keepBest_4 kc ks loc (.long (x * y) :: st) h := rfl
theorem s_Flat_keepBest_4 {x : Nat} {v : Value} : wps rm K Q c_Flat_keepBest_4 kc ks loc (v :: .ref (x + 1) :: st) h = eg_pf h x 3 5 v (fun h9 => wps rm K Q c_Flat_keepBest_7 kc ks loc (st) h9) := rfl
theorem s_Flat_keepBest_7 {x : Nat} {l : eg_Lo} : wps rm K Q c_Flat_keepBest_7 kc ks (some (.ref x) :: l) (st) h = wps rm K Q c_Flat_keepBest_8 kc ks (some (.ref x) :: l) (.ref x :: st) h := rfl
theorem s_Flat_keepBest_8 {x : Int64} {l0 l1 l2 : Option Value} {l : eg_Lo} : wps rm K Q c_Flat_keepBest_8 kc ks (l0 :: l1 :: l2 :: some (.long x) :: l) (st) h = wps rm K Q c_Flat_keepBest_9 kc ks (l0 :: l1 :: l2 :: some (.long x) :: l) (.long x :: st) h := rfl
theorem s_Flat_keepBest_9 {x : Nat} {v : Value} : wps rm K Q c_Flat_keepBest_9 kc ks loc (v :: .ref (x + 1) :: st) h = eg_pf h x 3 6 v (fun h9 => wps rm K Q c_Flat_keepBest_12 kc ks loc (st) h9) := rfl
theorem s_Flat_keepBest_12 {x : Nat} {l : eg_Lo} : wps rm K Q c_Flat_keepBest_12 kc ks (some (.ref x) :: l) (st) h = wps rm K Q c_Flat_keepBest_13 kc ks (some (.ref x) :: l) (.ref x :: st) h := rfl
theorem s_Flat_keepBest_13 {x : Int32} {l0 l1 l2 l3 l4 : Option Value} {l : eg_Lo} : wps rm K Q c_Flat_keepBest_13 kc ks (l0 :: l1 :: l2 :: l3 :: l4 :: some (.int x) :: l) (st) h = wps rm K Q c_Flat_keepBest_15 kc ks (l0 :: l1 :: l2 :: l3 :: l4 :: some (.int x) :: l) (.int x :: st) h := rfl
theorem s_Flat_keepBest_15 {x : Nat} {v : Value} : wps rm K Q c_Flat_keepBest_15 kc ks loc (v :: .ref (x + 1) :: st) h = eg_pf h x 3 7 v (fun h9 => wps rm K Q c_Flat_keepBest_18 kc ks loc (st) h9) := rfl
theorem s_Flat_keepBest_18 {x : Nat} {l : eg_Lo} : wps rm K Q c_Flat_keepBest_18 kc ks (some (.ref x) :: l) (st) h = wps rm K Q c_Flat_keepBest_19 kc ks (some (.ref x) :: l) (.ref x :: st) h := rfl
theorem s_Flat_keepBest_19 {x : Int32} {l0 l1 l2 l3 l4 l5 : Option Value} {l : eg_Lo} : wps rm K Q c_Flat_keepBest_19 kc ks (l0 :: l1 :: l2 :: l3 :: l4 :: l5 :: some (.int x) :: l) (st) h = wps rm K Q c_Flat_keepBest_21 kc ks (l0 :: l1 :: l2 :: l3 :: l4 :: l5 :: some (.int x) :: l) (.int x :: st) h := rfl
theorem s_Flat_keepBest_21 {x : Nat} {v : Value} : wps rm K Q c_Flat_keepBest_21 kc ks loc (v :: .ref (x + 1) :: st) h = eg_pf h x 3 8 v (fun h9 => wps rm K Q c_Flat_keepBest_24 kc ks loc (st) h9) := rfl
theorem s_Flat_keepBest_24 {x : Nat} {l : eg_Lo} : wps rm K Q c_Flat_keepBest_24 kc ks (some (.ref x) :: l) (st) h = wps rm K Q c_Flat_keepBest_25 kc ks (some (.ref x) :: l) (.ref x :: st) h := rfl
theorem s_Flat_keepBest_25 {x : Nat} : wps rm K Q c_Flat_keepBest_25 kc ks loc (.ref (x + 1) :: st) h = eg_gf h x 3 1 (fun v => wps rm K Q c_Flat_keepBest_28 kc ks loc (v :: st) h) := rfl
theorem s_Flat_keepBest_28  : wps rm K Q c_Flat_keepBest_28 kc ks loc (st) h = wps rm K Q c_Flat_keepBest_29 kc ks loc (.int (0) :: st) h := rfl
theorem s_Flat_keepBest_29 {x : Nat} {l : eg_Lo} : wps rm K Q c_Flat_keepBest_29 kc ks (some (.ref x) :: l) (st) h = wps rm K Q c_Flat_keepBest_30 kc ks (some (.ref x) :: l) (.ref x :: st) h := rfl
theorem s_Flat_keepBest_30 {x : Nat} : wps rm K Q c_Flat_keepBest_30 kc ks loc (.ref (x + 1) :: st) h = eg_gf h x 3 2 (fun v => wps rm K Q c_Flat_keepBest_33 kc ks loc (v :: st) h) := rfl
theorem s_Flat_keepBest_33  : wps rm K Q c_Flat_keepBest_33 kc ks loc (st) h = wps rm K Q c_Flat_keepBest_34 kc ks loc (.int (0) :: st) h := rfl
theorem s_Flat_keepBest_34  : wps rm K Q c_Flat_keepBest_34 kc ks loc (st) h = wps rm K Q c_Flat_keepBest_35 kc ks loc (.int (3) :: st) h := rfl
theorem s_Flat_keepBest_35 {x y : Nat} {sp dp z : Int32} : wps rm K Q c_Flat_keepBest_35 kc ks loc (.int z :: .int dp :: .ref (y + 1) :: .int sp :: .ref (x + 1) :: []) h = eg_cpl h x y sp dp z (fun h9 => wps rm K Q c_Flat_keepBest_38 kc ks loc ([]) h9) := eg_cp_l
theorem s_Flat_keepBest_38 {x : Nat} {l : eg_Lo} : wps rm K Q c_Flat_keepBest_38 kc ks (some (.ref x) :: l) (st) h = wps rm K Q c_Flat_keepBest_39 kc ks (some (.ref x) :: l) (.ref x :: st) h := rfl
theorem s_Flat_keepBest_39  : wps rm K Q c_Flat_keepBest_39 kc ks loc (st) h = wps rm K Q c_Flat_keepBest_40 kc ks loc (.int (1) :: st) h := rfl
theorem s_Flat_keepBest_40 {x : Nat} {v : Int32} : wps rm K Q c_Flat_keepBest_40 kc ks loc (.int v :: .ref (x + 1) :: st) h = eg_pb h x 3 4 v (fun h9 => wps rm K Q c_Flat_keepBest_43 kc ks loc (st) h9) := rfl
theorem s_Flat_keepBest_43  : wps rm K Q c_Flat_keepBest_43 kc ks loc ([]) h = (kc = rm.cells ∧ Q none h) := rfl
def T_Flat_keepBest : List (Nat × List eg_I) := []
end
theorem q_Flat_keepBest : (T_Flat_keepBest.all fun q => eg_seq m_Flat_keepBest q.1 q.2) = true := by decide +kernel
theorem b_Flat_keepBest {as : List Value} {h : List eg_E} {Q : Option Value → List eg_E → Prop} (hf : (eg_fl as).length ≤ 7) (hw : wps (eg_rm m_Flat_keepBest) (eg_run (eg_rm m_Flat_keepBest) (eg_R m_Flat_keepBest Q (h.length + 0)) Q T_Flat_keepBest 2) Q c_Flat_keepBest_0 0 0 (eg_entry 7 as) [] h) : eg_Runs n_Flat_keepBest as h Q := eg_begin (d := m_Flat_keepBest) rfl (by decide) (by decide +kernel) q_Flat_keepBest hf hw
/-! ===== Flat_crossOf ===== -/
def c_Flat_crossOf_83 : List eg_I := .inl (83, 1, .lreturn, 0, 0) :: []
def c_Flat_crossOf_82 : List eg_I := .inl (82, 1, .ladd, 0, 0) :: c_Flat_crossOf_83
def c_Flat_crossOf_81 : List eg_I := .inl (81, 1, .lmul, 0, 0) :: c_Flat_crossOf_82
def c_Flat_crossOf_80 : List eg_I := .inl (80, 1, .i2l, 0, 0) :: c_Flat_crossOf_81
def c_Flat_crossOf_79 : List eg_I := .inl (79, 1, .isub, 0, 0) :: c_Flat_crossOf_80
def c_Flat_crossOf_78 : List eg_I := .inl (78, 1, .iaload, 0, 0) :: c_Flat_crossOf_79
def c_Flat_crossOf_77 : List eg_I := .inl (77, 1, .iload 1, 0, 0) :: c_Flat_crossOf_78
def c_Flat_crossOf_74 : List eg_I := .inl (74, 3, .getfield 76, 10, 2) :: c_Flat_crossOf_77
def c_Flat_crossOf_71 : List eg_I := .inl (71, 3, .getfield 12, 3, 0) :: c_Flat_crossOf_74
def c_Flat_crossOf_70 : List eg_I := .inl (70, 1, .aload 0, 0, 0) :: c_Flat_crossOf_71
def c_Flat_crossOf_69 : List eg_I := .inl (69, 1, .iaload, 0, 0) :: c_Flat_crossOf_70
def c_Flat_crossOf_68 : List eg_I := .inl (68, 1, .iload 2, 0, 0) :: c_Flat_crossOf_69
def c_Flat_crossOf_65 : List eg_I := .inl (65, 3, .getfield 76, 10, 2) :: c_Flat_crossOf_68
def c_Flat_crossOf_62 : List eg_I := .inl (62, 3, .getfield 12, 3, 0) :: c_Flat_crossOf_65
def c_Flat_crossOf_61 : List eg_I := .inl (61, 1, .aload 0, 0, 0) :: c_Flat_crossOf_62
def c_Flat_crossOf_60 : List eg_I := .inl (60, 1, .laload, 0, 0) :: c_Flat_crossOf_61
def c_Flat_crossOf_59 : List eg_I := .inl (59, 1, .iconst (2), 0, 0) :: c_Flat_crossOf_60
def c_Flat_crossOf_56 : List eg_I := .inl (56, 3, .getfield 18, 3, 1) :: c_Flat_crossOf_59
def c_Flat_crossOf_55 : List eg_I := .inl (55, 1, .aload 0, 0, 0) :: c_Flat_crossOf_56
def c_Flat_crossOf_54 : List eg_I := .inl (54, 1, .ladd, 0, 0) :: c_Flat_crossOf_55
def c_Flat_crossOf_53 : List eg_I := .inl (53, 1, .lmul, 0, 0) :: c_Flat_crossOf_54
def c_Flat_crossOf_52 : List eg_I := .inl (52, 1, .i2l, 0, 0) :: c_Flat_crossOf_53
def c_Flat_crossOf_51 : List eg_I := .inl (51, 1, .isub, 0, 0) :: c_Flat_crossOf_52
def c_Flat_crossOf_50 : List eg_I := .inl (50, 1, .iaload, 0, 0) :: c_Flat_crossOf_51
def c_Flat_crossOf_49 : List eg_I := .inl (49, 1, .iload 1, 0, 0) :: c_Flat_crossOf_50
def c_Flat_crossOf_46 : List eg_I := .inl (46, 3, .getfield 37, 10, 1) :: c_Flat_crossOf_49
def c_Flat_crossOf_43 : List eg_I := .inl (43, 3, .getfield 12, 3, 0) :: c_Flat_crossOf_46
def c_Flat_crossOf_42 : List eg_I := .inl (42, 1, .aload 0, 0, 0) :: c_Flat_crossOf_43
def c_Flat_crossOf_41 : List eg_I := .inl (41, 1, .iaload, 0, 0) :: c_Flat_crossOf_42
def c_Flat_crossOf_40 : List eg_I := .inl (40, 1, .iload 2, 0, 0) :: c_Flat_crossOf_41
def c_Flat_crossOf_37 : List eg_I := .inl (37, 3, .getfield 37, 10, 1) :: c_Flat_crossOf_40
def c_Flat_crossOf_34 : List eg_I := .inl (34, 3, .getfield 12, 3, 0) :: c_Flat_crossOf_37
def c_Flat_crossOf_33 : List eg_I := .inl (33, 1, .aload 0, 0, 0) :: c_Flat_crossOf_34
def c_Flat_crossOf_32 : List eg_I := .inl (32, 1, .laload, 0, 0) :: c_Flat_crossOf_33
def c_Flat_crossOf_31 : List eg_I := .inl (31, 1, .iconst (1), 0, 0) :: c_Flat_crossOf_32
def c_Flat_crossOf_28 : List eg_I := .inl (28, 3, .getfield 18, 3, 1) :: c_Flat_crossOf_31
def c_Flat_crossOf_27 : List eg_I := .inl (27, 1, .aload 0, 0, 0) :: c_Flat_crossOf_28
def c_Flat_crossOf_26 : List eg_I := .inl (26, 1, .lmul, 0, 0) :: c_Flat_crossOf_27
def c_Flat_crossOf_25 : List eg_I := .inl (25, 1, .i2l, 0, 0) :: c_Flat_crossOf_26
def c_Flat_crossOf_24 : List eg_I := .inl (24, 1, .isub, 0, 0) :: c_Flat_crossOf_25
def c_Flat_crossOf_23 : List eg_I := .inl (23, 1, .iaload, 0, 0) :: c_Flat_crossOf_24
def c_Flat_crossOf_22 : List eg_I := .inl (22, 1, .iload 1, 0, 0) :: c_Flat_crossOf_23
def c_Flat_crossOf_19 : List eg_I := .inl (19, 3, .getfield 40, 10, 0) :: c_Flat_crossOf_22
def c_Flat_crossOf_16 : List eg_I := .inl (16, 3, .getfield 12, 3, 0) :: c_Flat_crossOf_19
def c_Flat_crossOf_15 : List eg_I := .inl (15, 1, .aload 0, 0, 0) :: c_Flat_crossOf_16
def c_Flat_crossOf_14 : List eg_I := .inl (14, 1, .iaload, 0, 0) :: c_Flat_crossOf_15
def c_Flat_crossOf_13 : List eg_I := .inl (13, 1, .iload 2, 0, 0) :: c_Flat_crossOf_14
def c_Flat_crossOf_10 : List eg_I := .inl (10, 3, .getfield 40, 10, 0) :: c_Flat_crossOf_13
def c_Flat_crossOf_7 : List eg_I := .inl (7, 3, .getfield 12, 3, 0) :: c_Flat_crossOf_10
def c_Flat_crossOf_6 : List eg_I := .inl (6, 1, .aload 0, 0, 0) :: c_Flat_crossOf_7
def c_Flat_crossOf_5 : List eg_I := .inl (5, 1, .laload, 0, 0) :: c_Flat_crossOf_6
def c_Flat_crossOf_4 : List eg_I := .inl (4, 1, .iconst (0), 0, 0) :: c_Flat_crossOf_5
def c_Flat_crossOf_1 : List eg_I := .inl (1, 3, .getfield 18, 3, 1) :: c_Flat_crossOf_4
def c_Flat_crossOf_0 : List eg_I := .inl (0, 1, .aload 0, 0, 0) :: c_Flat_crossOf_1
section
variable {rm : Room} {K : Nat → Nat → Nat → eg_Lo → List Value → List eg_E → Prop} {Q : Option Value → List eg_E → Prop} {kc ks : Nat} {loc : eg_Lo} {st : List Value} {h : List eg_E}
theorem s_Flat_crossOf_0 {x : Nat} {l : eg_Lo} : wps rm K Q c_Flat_crossOf_0 kc ks (some (.ref x) :: l) (st) h = wps rm K Q c_Flat_crossOf_1 kc ks (some (.ref x) :: l) (.ref x :: st) h := rfl
theorem s_Flat_crossOf_1 {x : Nat} : wps rm K Q c_Flat_crossOf_1 kc ks loc (.ref (x + 1) :: st) h = eg_gf h x 3 1 (fun v => wps rm K Q c_Flat_crossOf_4 kc ks loc (v :: st) h) := rfl
theorem s_Flat_crossOf_4  : wps rm K Q c_Flat_crossOf_4 kc ks loc (st) h = wps rm K Q c_Flat_crossOf_5 kc ks loc (.int (0) :: st) h := rfl
theorem s_Flat_crossOf_5 {x : Nat} {i : Int32} : wps rm K Q c_Flat_crossOf_5 kc ks loc (.int i :: .ref (x + 1) :: st) h = eg_la h x i (fun v => wps rm K Q c_Flat_crossOf_6 kc ks loc (.long v :: st) h) := rfl
theorem s_Flat_crossOf_6 {x : Nat} {l : eg_Lo} : wps rm K Q c_Flat_crossOf_6 kc ks (some (.ref x) :: l) (st) h = wps rm K Q c_Flat_crossOf_7 kc ks (some (.ref x) :: l) (.ref x :: st) h := rfl
theorem s_Flat_crossOf_7 {x : Nat} : wps rm K Q c_Flat_crossOf_7 kc ks loc (.ref (x + 1) :: st) h = eg_gf h x 3 0 (fun v => wps rm K Q c_Flat_crossOf_10 kc ks loc (v :: st) h) := rfl
theorem s_Flat_crossOf_10 {x : Nat} : wps rm K Q c_Flat_crossOf_10 kc ks loc (.ref (x + 1) :: st) h = eg_gf h x 10 0 (fun v => wps rm K Q c_Flat_crossOf_13 kc ks loc (v :: st) h) := rfl
theorem s_Flat_crossOf_13 {x : Int32} {l0 l1 : Option Value} {l : eg_Lo} : wps rm K Q c_Flat_crossOf_13 kc ks (l0 :: l1 :: some (.int x) :: l) (st) h = wps rm K Q c_Flat_crossOf_14 kc ks (l0 :: l1 :: some (.int x) :: l) (.int x :: st) h := rfl
theorem s_Flat_crossOf_14 {x : Nat} {i : Int32} : wps rm K Q c_Flat_crossOf_14 kc ks loc (.int i :: .ref (x + 1) :: st) h = eg_ia h x i (fun v => wps rm K Q c_Flat_crossOf_15 kc ks loc (.int v :: st) h) := rfl
theorem s_Flat_crossOf_15 {x : Nat} {l : eg_Lo} : wps rm K Q c_Flat_crossOf_15 kc ks (some (.ref x) :: l) (st) h = wps rm K Q c_Flat_crossOf_16 kc ks (some (.ref x) :: l) (.ref x :: st) h := rfl
theorem s_Flat_crossOf_16 {x : Nat} : wps rm K Q c_Flat_crossOf_16 kc ks loc (.ref (x + 1) :: st) h = eg_gf h x 3 0 (fun v => wps rm K Q c_Flat_crossOf_19 kc ks loc (v :: st) h) := rfl
theorem s_Flat_crossOf_19 {x : Nat} : wps rm K Q c_Flat_crossOf_19 kc ks loc (.ref (x + 1) :: st) h = eg_gf h x 10 0 (fun v => wps rm K Q c_Flat_crossOf_22 kc ks loc (v :: st) h) := rfl
theorem s_Flat_crossOf_22 {x : Int32} {l0 : Option Value} {l : eg_Lo} : wps rm K Q c_Flat_crossOf_22 kc ks (l0 :: some (.int x) :: l) (st) h = wps rm K Q c_Flat_crossOf_23 kc ks (l0 :: some (.int x) :: l) (.int x :: st) h := rfl
theorem s_Flat_crossOf_23 {x : Nat} {i : Int32} : wps rm K Q c_Flat_crossOf_23 kc ks loc (.int i :: .ref (x + 1) :: st) h = eg_ia h x i (fun v => wps rm K Q c_Flat_crossOf_24 kc ks loc (.int v :: st) h) := rfl
theorem s_Flat_crossOf_24 {x y : Int32} : wps rm K Q c_Flat_crossOf_24 kc ks loc (.int y :: .int x :: st) h = wps rm K Q c_Flat_crossOf_25 kc ks loc (.int (x - y) :: st) h := rfl
theorem s_Flat_crossOf_25 {x : Int32} : wps rm K Q c_Flat_crossOf_25 kc ks loc (.int x :: st) h = wps rm K Q c_Flat_crossOf_26 kc ks loc (.long (x.toInt64) :: st) h := rfl
theorem s_Flat_crossOf_26 {x y : Int64} : wps rm K Q c_Flat_crossOf_26 kc ks loc (.long y :: .long x :: st) h = wps rm K Q c_Flat_crossOf_27 kc ks loc (.long (x * y) :: st) h := rfl
theorem s_Flat_crossOf_27 {x : Nat} {l : eg_Lo} : wps rm K Q c_Flat_crossOf_27 kc ks (some (.ref x) :: l) (st) h = wps rm K Q c_Flat_crossOf_28 kc ks (some (.ref x) :: l) (.ref x :: st) h := rfl
theorem s_Flat_crossOf_28 {x : Nat} : wps rm K Q c_Flat_crossOf_28 kc ks loc (.ref (x + 1) :: st) h = eg_gf h x 3 1 (fun v => wps rm K Q c_Flat_crossOf_31 kc ks loc (v :: st) h) := rfl
theorem s_Flat_crossOf_31  : wps rm K Q c_Flat_crossOf_31 kc ks loc (st) h = wps rm K Q c_Flat_crossOf_32 kc ks loc (.int (1) :: st) h := rfl
theorem s_Flat_crossOf_32 {x : Nat} {i : Int32} : wps rm K Q c_Flat_crossOf_32 kc ks loc (.int i :: .ref (x + 1) :: st) h = eg_la h x i (fun v => wps rm K Q c_Flat_crossOf_33 kc ks loc (.long v :: st) h) := rfl
theorem s_Flat_crossOf_33 {x : Nat} {l : eg_Lo} : wps rm K Q c_Flat_crossOf_33 kc ks (some (.ref x) :: l) (st) h = wps rm K Q c_Flat_crossOf_34 kc ks (some (.ref x) :: l) (.ref x :: st) h := rfl
theorem s_Flat_crossOf_34 {x : Nat} : wps rm K Q c_Flat_crossOf_34 kc ks loc (.ref (x + 1) :: st) h = eg_gf h x 3 0 (fun v => wps rm K Q c_Flat_crossOf_37 kc ks loc (v :: st) h) := rfl
theorem s_Flat_crossOf_37 {x : Nat} : wps rm K Q c_Flat_crossOf_37 kc ks loc (.ref (x + 1) :: st) h = eg_gf h x 10 1 (fun v => wps rm K Q c_Flat_crossOf_40 kc ks loc (v :: st) h) := rfl
theorem s_Flat_crossOf_40 {x : Int32} {l0 l1 : Option Value} {l : eg_Lo} : wps rm K Q c_Flat_crossOf_40 kc ks (l0 :: l1 :: some (.int x) :: l) (st) h = wps rm K Q c_Flat_crossOf_41 kc ks (l0 :: l1 :: some (.int x) :: l) (.int x :: st) h := rfl
theorem s_Flat_crossOf_41 {x : Nat} {i : Int32} : wps rm K Q c_Flat_crossOf_41 kc ks loc (.int i :: .ref (x + 1) :: st) h = eg_ia h x i (fun v => wps rm K Q c_Flat_crossOf_42 kc ks loc (.int v :: st) h) := rfl
theorem s_Flat_crossOf_42 {x : Nat} {l : eg_Lo} : wps rm K Q c_Flat_crossOf_42 kc ks (some (.ref x) :: l) (st) h = wps rm K Q c_Flat_crossOf_43 kc ks (some (.ref x) :: l) (.ref x :: st) h := rfl
theorem s_Flat_crossOf_43 {x : Nat} : wps rm K Q c_Flat_crossOf_43 kc ks loc (.ref (x + 1) :: st) h = eg_gf h x 3 0 (fun v => wps rm K Q c_Flat_crossOf_46 kc ks loc (v :: st) h) := rfl
theorem s_Flat_crossOf_46 {x : Nat} : wps rm K Q c_Flat_crossOf_46 kc ks loc (.ref (x + 1) :: st) h = eg_gf h x 10 1 (fun v => wps rm K Q c_Flat_crossOf_49 kc ks loc (v :: st) h) := rfl
theorem s_Flat_crossOf_49 {x : Int32} {l0 : Option Value} {l : eg_Lo} : wps rm K Q c_Flat_crossOf_49 kc ks (l0 :: some (.int x) :: l) (st) h = wps rm K Q c_Flat_crossOf_50 kc ks (l0 :: some (.int x) :: l) (.int x :: st) h := rfl
theorem s_Flat_crossOf_50 {x : Nat} {i : Int32} : wps rm K Q c_Flat_crossOf_50 kc ks loc (.int i :: .ref (x + 1) :: st) h = eg_ia h x i (fun v => wps rm K Q c_Flat_crossOf_51 kc ks loc (.int v :: st) h) := rfl
theorem s_Flat_crossOf_51 {x y : Int32} : wps rm K Q c_Flat_crossOf_51 kc ks loc (.int y :: .int x :: st) h = wps rm K Q c_Flat_crossOf_52 kc ks loc (.int (x - y) :: st) h := rfl
theorem s_Flat_crossOf_52 {x : Int32} : wps rm K Q c_Flat_crossOf_52 kc ks loc (.int x :: st) h = wps rm K Q c_Flat_crossOf_53 kc ks loc (.long (x.toInt64) :: st) h := rfl
theorem s_Flat_crossOf_53 {x y : Int64} : wps rm K Q c_Flat_crossOf_53 kc ks loc (.long y :: .long x :: st) h = wps rm K Q c_Flat_crossOf_54 kc ks loc (.long (x * y) :: st) h := rfl
theorem s_Flat_crossOf_54 {x y : Int64} : wps rm K Q c_Flat_crossOf_54 kc ks loc (.long y :: .long x :: st) h = wps rm K Q c_Flat_crossOf_55 kc ks loc (.long (x + y) :: st) h := rfl
theorem s_Flat_crossOf_55 {x : Nat} {l : eg_Lo} : wps rm K Q c_Flat_crossOf_55 kc ks (some (.ref x) :: l) (st) h = wps rm K Q c_Flat_crossOf_56 kc ks (some (.ref x) :: l) (.ref x :: st) h := rfl
theorem s_Flat_crossOf_56 {x : Nat} : wps rm K Q c_Flat_crossOf_56 kc ks loc (.ref (x + 1) :: st) h = eg_gf h x 3 1 (fun v => wps rm K Q c_Flat_crossOf_59 kc ks loc (v :: st) h) := rfl
theorem s_Flat_crossOf_59  : wps rm K Q c_Flat_crossOf_59 kc ks loc (st) h = wps rm K Q c_Flat_crossOf_60 kc ks loc (.int (2) :: st) h := rfl
theorem s_Flat_crossOf_60 {x : Nat} {i : Int32} : wps rm K Q c_Flat_crossOf_60 kc ks loc (.int i :: .ref (x + 1) :: st) h = eg_la h x i (fun v => wps rm K Q c_Flat_crossOf_61 kc ks loc (.long v :: st) h) := rfl
theorem s_Flat_crossOf_61 {x : Nat} {l : eg_Lo} : wps rm K Q c_Flat_crossOf_61 kc ks (some (.ref x) :: l) (st) h = wps rm K Q c_Flat_crossOf_62 kc ks (some (.ref x) :: l) (.ref x :: st) h := rfl
theorem s_Flat_crossOf_62 {x : Nat} : wps rm K Q c_Flat_crossOf_62 kc ks loc (.ref (x + 1) :: st) h = eg_gf h x 3 0 (fun v => wps rm K Q c_Flat_crossOf_65 kc ks loc (v :: st) h) := rfl
theorem s_Flat_crossOf_65 {x : Nat} : wps rm K Q c_Flat_crossOf_65 kc ks loc (.ref (x + 1) :: st) h = eg_gf h x 10 2 (fun v => wps rm K Q c_Flat_crossOf_68 kc ks loc (v :: st) h) := rfl
theorem s_Flat_crossOf_68 {x : Int32} {l0 l1 : Option Value} {l : eg_Lo} : wps rm K Q c_Flat_crossOf_68 kc ks (l0 :: l1 :: some (.int x) :: l) (st) h = wps rm K Q c_Flat_crossOf_69 kc ks (l0 :: l1 :: some (.int x) :: l) (.int x :: st) h := rfl
theorem s_Flat_crossOf_69 {x : Nat} {i : Int32} : wps rm K Q c_Flat_crossOf_69 kc ks loc (.int i :: .ref (x + 1) :: st) h = eg_ia h x i (fun v => wps rm K Q c_Flat_crossOf_70 kc ks loc (.int v :: st) h) := rfl
theorem s_Flat_crossOf_70 {x : Nat} {l : eg_Lo} : wps rm K Q c_Flat_crossOf_70 kc ks (some (.ref x) :: l) (st) h = wps rm K Q c_Flat_crossOf_71 kc ks (some (.ref x) :: l) (.ref x :: st) h := rfl
theorem s_Flat_crossOf_71 {x : Nat} : wps rm K Q c_Flat_crossOf_71 kc ks loc (.ref (x + 1) :: st) h = eg_gf h x 3 0 (fun v => wps rm K Q c_Flat_crossOf_74 kc ks loc (v :: st) h) := rfl
theorem s_Flat_crossOf_74 {x : Nat} : wps rm K Q c_Flat_crossOf_74 kc ks loc (.ref (x + 1) :: st) h = eg_gf h x 10 2 (fun v => wps rm K Q c_Flat_crossOf_77 kc ks loc (v :: st) h) := rfl
theorem s_Flat_crossOf_77 {x : Int32} {l0 : Option Value} {l : eg_Lo} : wps rm K Q c_Flat_crossOf_77 kc ks (l0 :: some (.int x) :: l) (st) h = wps rm K Q c_Flat_crossOf_78 kc ks (l0 :: some (.int x) :: l) (.int x :: st) h := rfl
theorem s_Flat_crossOf_78 {x : Nat} {i : Int32} : wps rm K Q c_Flat_crossOf_78 kc ks loc (.int i :: .ref (x + 1) :: st) h = eg_ia h x i (fun v => wps rm K Q c_Flat_crossOf_79 kc ks loc (.int v :: st) h) := rfl
theorem s_Flat_crossOf_79 {x y : Int32} : wps rm K Q c_Flat_crossOf_79 kc ks loc (.int y :: .int x :: st) h = wps rm K Q c_Flat_crossOf_80 kc ks loc (.int (x - y) :: st) h := rfl
theorem s_Flat_crossOf_80 {x : Int32} : wps rm K Q c_Flat_crossOf_80 kc ks loc (.int x :: st) h = wps rm K Q c_Flat_crossOf_81 kc ks loc (.long (x.toInt64) :: st) h := rfl
theorem s_Flat_crossOf_81 {x y : Int64} : wps rm K Q c_Flat_crossOf_81 kc ks loc (.long y :: .long x :: st) h = wps rm K Q c_Flat_crossOf_82 kc ks loc (.long (x * y) :: st) h := rfl
theorem s_Flat_crossOf_82 {x y : Int64} : wps rm K Q c_Flat_crossOf_82 kc ks loc (.long y :: .long x :: st) h = wps rm K Q c_Flat_crossOf_83 kc ks loc (.long (x + y) :: st) h := rfl
theorem s_Flat_crossOf_83 {x : Int64} : wps rm K Q c_Flat_crossOf_83 kc ks loc ([.long x]) h = (kc = rm.cells ∧ Q (some (.long x)) h) := rfl
def T_Flat_crossOf : List (Nat × List eg_I) := []
end
theorem q_Flat_crossOf : (T_Flat_crossOf.all fun q => eg_seq m_Flat_crossOf q.1 q.2) = true := by decide +kernel
theorem b_Flat_crossOf {as : List Value} {h : List eg_E} {Q : Option Value → List eg_E → Prop} (hf : (eg_fl as).length ≤ 3) (hw : wps (eg_rm m_Flat_crossOf) (eg_run (eg_rm m_Flat_crossOf) (eg_R m_Flat_crossOf Q (h.length + 0)) Q T_Flat_crossOf 2) Q c_Flat_crossOf_0 0 0 (eg_entry 3 as) [] h) : eg_Runs n_Flat_crossOf as h Q := eg_begin (d := m_Flat_crossOf) rfl (by decide) (by decide +kernel) q_Flat_crossOf hf hw
/-! ===== Flat_isBeaten ===== -/
def c_Flat_isBeaten_30 : List eg_I := .inl (30, 1, .ireturn, 0, 1) :: []
def c_Flat_isBeaten_29 : List eg_I := .inl (29, 1, .iconst (0), 0, 0) :: c_Flat_isBeaten_30
def c_Flat_isBeaten_26 : List eg_I := .inl (26, 3, .goto (4), 30, 0) :: []
def c_Flat_isBeaten_25 : List eg_I := .inl (25, 1, .iconst (1), 0, 0) :: c_Flat_isBeaten_26
def c_Flat_isBeaten_22 : List eg_I := .inl (22, 3, .ifCond .ne (7), 29, 0) :: c_Flat_isBeaten_25
def c_Flat_isBeaten_19 : List eg_I := .inr (19, 0, 110, n_Frac_isLess, 4, 4, 0, 0) :: c_Flat_isBeaten_22
def c_Flat_isBeaten_16 : List eg_I := .inl (16, 3, .getfield 95, 3, 6) :: c_Flat_isBeaten_19
def c_Flat_isBeaten_15 : List eg_I := .inl (15, 1, .aload 0, 0, 0) :: c_Flat_isBeaten_16
def c_Flat_isBeaten_12 : List eg_I := .inl (12, 3, .getfield 91, 3, 5) :: c_Flat_isBeaten_15
def c_Flat_isBeaten_11 : List eg_I := .inl (11, 1, .aload 0, 0, 0) :: c_Flat_isBeaten_12
def c_Flat_isBeaten_10 : List eg_I := .inl (10, 1, .lload 3, 0, 0) :: c_Flat_isBeaten_11
def c_Flat_isBeaten_9 : List eg_I := .inl (9, 1, .lmul, 0, 0) :: c_Flat_isBeaten_10
def c_Flat_isBeaten_8 : List eg_I := .inl (8, 1, .lload 1, 0, 0) :: c_Flat_isBeaten_9
def c_Flat_isBeaten_7 : List eg_I := .inl (7, 1, .lload 1, 0, 0) :: c_Flat_isBeaten_8
def c_Flat_isBeaten_4 : List eg_I := .inl (4, 3, .ifCond .eq (25), 29, 0) :: c_Flat_isBeaten_7
def c_Flat_isBeaten_1 : List eg_I := .inl (1, 3, .getfield 51, 3, 4) :: c_Flat_isBeaten_4
def c_Flat_isBeaten_0 : List eg_I := .inl (0, 1, .aload 0, 0, 0) :: c_Flat_isBeaten_1
section
variable {rm : Room} {K : Nat → Nat → Nat → eg_Lo → List Value → List eg_E → Prop} {Q : Option Value → List eg_E → Prop} {kc ks : Nat} {loc : eg_Lo} {st : List Value} {h : List eg_E}
theorem s_Flat_isBeaten_0 {x : Nat} {l : eg_Lo} : wps rm K Q c_Flat_isBeaten_0 kc ks (some (.ref x) :: l) (st) h = wps rm K Q c_Flat_isBeaten_1 kc ks (some (.ref x) :: l) (.ref x :: st) h := rfl
theorem s_Flat_isBeaten_1 {x : Nat} : wps rm K Q c_Flat_isBeaten_1 kc ks loc (.ref (x + 1) :: st) h = eg_gf h x 3 4 (fun v => wps rm K Q c_Flat_isBeaten_4 kc ks loc (v :: st) h) := rfl
theorem s_Flat_isBeaten_4 {x : Int32} : wps rm K Q c_Flat_isBeaten_4 kc ks loc (.int x :: st) h = ((x = 0 → K 29 kc ks loc st h) ∧ (¬ x = 0 → wps rm K Q c_Flat_isBeaten_7 kc ks loc (st) h)) := rfl
theorem s_Flat_isBeaten_7 {x : Int64} {l0 : Option Value} {l : eg_Lo} : wps rm K Q c_Flat_isBeaten_7 kc ks (l0 :: some (.long x) :: l) (st) h = wps rm K Q c_Flat_isBeaten_8 kc ks (l0 :: some (.long x) :: l) (.long x :: st) h := rfl
theorem s_Flat_isBeaten_8 {x : Int64} {l0 : Option Value} {l : eg_Lo} : wps rm K Q c_Flat_isBeaten_8 kc ks (l0 :: some (.long x) :: l) (st) h = wps rm K Q c_Flat_isBeaten_9 kc ks (l0 :: some (.long x) :: l) (.long x :: st) h := rfl
theorem s_Flat_isBeaten_9 {x y : Int64} : wps rm K Q c_Flat_isBeaten_9 kc ks loc (.long y :: .long x :: st) h = wps rm K Q c_Flat_isBeaten_10 kc ks loc (.long (x * y) :: st) h := rfl
theorem s_Flat_isBeaten_10 {x : Int64} {l0 l1 l2 : Option Value} {l : eg_Lo} : wps rm K Q c_Flat_isBeaten_10 kc ks (l0 :: l1 :: l2 :: some (.long x) :: l) (st) h = wps rm K Q c_Flat_isBeaten_11 kc ks (l0 :: l1 :: l2 :: some (.long x) :: l) (.long x :: st) h := rfl
theorem s_Flat_isBeaten_11 {x : Nat} {l : eg_Lo} : wps rm K Q c_Flat_isBeaten_11 kc ks (some (.ref x) :: l) (st) h = wps rm K Q c_Flat_isBeaten_12 kc ks (some (.ref x) :: l) (.ref x :: st) h := rfl
theorem s_Flat_isBeaten_12 {x : Nat} : wps rm K Q c_Flat_isBeaten_12 kc ks loc (.ref (x + 1) :: st) h = eg_gf h x 3 5 (fun v => wps rm K Q c_Flat_isBeaten_15 kc ks loc (v :: st) h) := rfl
theorem s_Flat_isBeaten_15 {x : Nat} {l : eg_Lo} : wps rm K Q c_Flat_isBeaten_15 kc ks (some (.ref x) :: l) (st) h = wps rm K Q c_Flat_isBeaten_16 kc ks (some (.ref x) :: l) (.ref x :: st) h := rfl
theorem s_Flat_isBeaten_16 {x : Nat} : wps rm K Q c_Flat_isBeaten_16 kc ks loc (.ref (x + 1) :: st) h = eg_gf h x 3 6 (fun v => wps rm K Q c_Flat_isBeaten_19 kc ks loc (v :: st) h) := rfl
theorem s_Flat_isBeaten_19  {a1 : Value} {a2 : Value} {a3 : Value} {a4 : Value} : wps rm K Q c_Flat_isBeaten_19 kc ks loc (a4 :: a3 :: a2 :: a1 :: st) h = (st.length ≤ 4 ∧ eg_Cs n_Frac_isLess [a1, a2, a3, a4] h (fun v h9 => wps rm K Q c_Flat_isBeaten_22 kc ks loc (v.toList ++ st) h9)) := eg_c0_4
theorem s_Flat_isBeaten_22 {x : Int32} : wps rm K Q c_Flat_isBeaten_22 kc ks loc (.int x :: st) h = ((¬ x = 0 → K 29 kc ks loc st h) ∧ (x = 0 → wps rm K Q c_Flat_isBeaten_25 kc ks loc (st) h)) := rfl
theorem s_Flat_isBeaten_25  : wps rm K Q c_Flat_isBeaten_25 kc ks loc (st) h = wps rm K Q c_Flat_isBeaten_26 kc ks loc (.int (1) :: st) h := rfl
theorem s_Flat_isBeaten_26  : wps rm K Q c_Flat_isBeaten_26 kc ks loc (st) h = K 30 kc ks loc st h := rfl
theorem s_Flat_isBeaten_29  : wps rm K Q c_Flat_isBeaten_29 kc ks loc (st) h = wps rm K Q c_Flat_isBeaten_30 kc ks loc (.int (0) :: st) h := rfl
theorem s_Flat_isBeaten_30 {x : Int32} : wps rm K Q c_Flat_isBeaten_30 kc ks loc ([.int x]) h = (kc = rm.cells ∧ ((1 : Nat) = 1 → x = 0 ∨ x = 1) ∧ Q (some (.int x)) h) := rfl
def T_Flat_isBeaten : List (Nat × List eg_I) := [(29, c_Flat_isBeaten_29), (30, c_Flat_isBeaten_30)]
theorem j_Flat_isBeaten_29 {R : Nat → Nat → Nat → eg_Lo → List Value → List eg_E → Prop} {f pc0 : Nat} : eg_run rm R Q T_Flat_isBeaten (f + 1) 29 kc ks loc st h = wps rm (eg_run rm R Q T_Flat_isBeaten f) Q c_Flat_isBeaten_29 kc ks loc st h := rfl
theorem j_Flat_isBeaten_30 {R : Nat → Nat → Nat → eg_Lo → List Value → List eg_E → Prop} {f pc0 : Nat} : eg_run rm R Q T_Flat_isBeaten (f + 1) 30 kc ks loc st h = wps rm (eg_run rm R Q T_Flat_isBeaten f) Q c_Flat_isBeaten_30 kc ks loc st h := rfl
end
theorem q_Flat_isBeaten : (T_Flat_isBeaten.all fun q => eg_seq m_Flat_isBeaten q.1 q.2) = true := by decide +kernel
theorem b_Flat_isBeaten {as : List Value} {h : List eg_E} {Q : Option Value → List eg_E → Prop} (hf : (eg_fl as).length ≤ 5) (hw : wps (eg_rm m_Flat_isBeaten) (eg_run (eg_rm m_Flat_isBeaten) (eg_R m_Flat_isBeaten Q (h.length + 0)) Q T_Flat_isBeaten 4) Q c_Flat_isBeaten_0 0 0 (eg_entry 5 as) [] h) : eg_Runs n_Flat_isBeaten as h Q := eg_begin (d := m_Flat_isBeaten) rfl (by decide) (by decide +kernel) q_Flat_isBeaten hf hw
/-! ===== Flat_hold ===== -/
def c_Flat_hold_47 : List eg_I := .inl (47, 1, .return_, 0, 0) :: []
def c_Flat_hold_46 : List eg_I := .inl (46, 1, .iastore, 0, 0) :: c_Flat_hold_47
def c_Flat_hold_45 : List eg_I := .inl (45, 1, .iaload, 0, 0) :: c_Flat_hold_46
def c_Flat_hold_44 : List eg_I := .inl (44, 1, .iload 3, 0, 0) :: c_Flat_hold_45
def c_Flat_hold_41 : List eg_I := .inl (41, 3, .getfield 116, 10, 3) :: c_Flat_hold_44
def c_Flat_hold_38 : List eg_I := .inl (38, 3, .getfield 12, 3, 0) :: c_Flat_hold_41
def c_Flat_hold_37 : List eg_I := .inl (37, 1, .aload 0, 0, 0) :: c_Flat_hold_38
def c_Flat_hold_36 : List eg_I := .inl (36, 1, .iadd, 0, 0) :: c_Flat_hold_37
def c_Flat_hold_35 : List eg_I := .inl (35, 1, .iconst (1), 0, 0) :: c_Flat_hold_36
def c_Flat_hold_34 : List eg_I := .inl (34, 1, .iload 1, 0, 0) :: c_Flat_hold_35
def c_Flat_hold_31 : List eg_I := .inl (31, 3, .getfield 25, 3, 3) :: c_Flat_hold_34
def c_Flat_hold_30 : List eg_I := .inl (30, 1, .aload 0, 0, 0) :: c_Flat_hold_31
def c_Flat_hold_29 : List eg_I := .inl (29, 1, .iastore, 0, 0) :: c_Flat_hold_30
def c_Flat_hold_28 : List eg_I := .inl (28, 1, .iaload, 0, 0) :: c_Flat_hold_29
def c_Flat_hold_27 : List eg_I := .inl (27, 1, .iload 2, 0, 0) :: c_Flat_hold_28
def c_Flat_hold_24 : List eg_I := .inl (24, 3, .getfield 116, 10, 3) :: c_Flat_hold_27
def c_Flat_hold_21 : List eg_I := .inl (21, 3, .getfield 12, 3, 0) :: c_Flat_hold_24
def c_Flat_hold_20 : List eg_I := .inl (20, 1, .aload 0, 0, 0) :: c_Flat_hold_21
def c_Flat_hold_19 : List eg_I := .inl (19, 1, .iload 1, 0, 0) :: c_Flat_hold_20
def c_Flat_hold_16 : List eg_I := .inl (16, 3, .getfield 25, 3, 3) :: c_Flat_hold_19
def c_Flat_hold_15 : List eg_I := .inl (15, 1, .aload 0, 0, 0) :: c_Flat_hold_16
def c_Flat_hold_12 : List eg_I := .inl (12, 3, .if_icmp .ge (35), 47, 0) :: c_Flat_hold_15
def c_Flat_hold_11 : List eg_I := .inl (11, 1, .arraylength, 0, 0) :: c_Flat_hold_12
def c_Flat_hold_8 : List eg_I := .inl (8, 3, .getfield 25, 3, 3) :: c_Flat_hold_11
def c_Flat_hold_7 : List eg_I := .inl (7, 1, .aload 0, 0, 0) :: c_Flat_hold_8
def c_Flat_hold_6 : List eg_I := .inl (6, 1, .iadd, 0, 0) :: c_Flat_hold_7
def c_Flat_hold_5 : List eg_I := .inl (5, 1, .iconst (1), 0, 0) :: c_Flat_hold_6
def c_Flat_hold_4 : List eg_I := .inl (4, 1, .iload 1, 0, 0) :: c_Flat_hold_5
def c_Flat_hold_1 : List eg_I := .inl (1, 3, .ifCond .lt (46), 47, 0) :: c_Flat_hold_4
def c_Flat_hold_0 : List eg_I := .inl (0, 1, .iload 1, 0, 0) :: c_Flat_hold_1
section
variable {rm : Room} {K : Nat → Nat → Nat → eg_Lo → List Value → List eg_E → Prop} {Q : Option Value → List eg_E → Prop} {kc ks : Nat} {loc : eg_Lo} {st : List Value} {h : List eg_E}
theorem s_Flat_hold_0 {x : Int32} {l0 : Option Value} {l : eg_Lo} : wps rm K Q c_Flat_hold_0 kc ks (l0 :: some (.int x) :: l) (st) h = wps rm K Q c_Flat_hold_1 kc ks (l0 :: some (.int x) :: l) (.int x :: st) h := rfl
theorem s_Flat_hold_1 {x : Int32} : wps rm K Q c_Flat_hold_1 kc ks loc (.int x :: st) h = ((x < 0 → K 47 kc ks loc st h) ∧ (¬ x < 0 → wps rm K Q c_Flat_hold_4 kc ks loc (st) h)) := rfl
theorem s_Flat_hold_4 {x : Int32} {l0 : Option Value} {l : eg_Lo} : wps rm K Q c_Flat_hold_4 kc ks (l0 :: some (.int x) :: l) (st) h = wps rm K Q c_Flat_hold_5 kc ks (l0 :: some (.int x) :: l) (.int x :: st) h := rfl
theorem s_Flat_hold_5  : wps rm K Q c_Flat_hold_5 kc ks loc (st) h = wps rm K Q c_Flat_hold_6 kc ks loc (.int (1) :: st) h := rfl
theorem s_Flat_hold_6 {x y : Int32} : wps rm K Q c_Flat_hold_6 kc ks loc (.int y :: .int x :: st) h = wps rm K Q c_Flat_hold_7 kc ks loc (.int (x + y) :: st) h := rfl
theorem s_Flat_hold_7 {x : Nat} {l : eg_Lo} : wps rm K Q c_Flat_hold_7 kc ks (some (.ref x) :: l) (st) h = wps rm K Q c_Flat_hold_8 kc ks (some (.ref x) :: l) (.ref x :: st) h := rfl
theorem s_Flat_hold_8 {x : Nat} : wps rm K Q c_Flat_hold_8 kc ks loc (.ref (x + 1) :: st) h = eg_gf h x 3 3 (fun v => wps rm K Q c_Flat_hold_11 kc ks loc (v :: st) h) := rfl
theorem s_Flat_hold_11 {x : Nat} : wps rm K Q c_Flat_hold_11 kc ks loc (.ref (x + 1) :: st) h = eg_al h x (fun v => wps rm K Q c_Flat_hold_12 kc ks loc (.int v :: st) h) := rfl
theorem s_Flat_hold_12 {x y : Int32} : wps rm K Q c_Flat_hold_12 kc ks loc (.int y :: .int x :: st) h = ((y ≤ x → K 47 kc ks loc st h) ∧ (¬ y ≤ x → wps rm K Q c_Flat_hold_15 kc ks loc (st) h)) := rfl
theorem s_Flat_hold_15 {x : Nat} {l : eg_Lo} : wps rm K Q c_Flat_hold_15 kc ks (some (.ref x) :: l) (st) h = wps rm K Q c_Flat_hold_16 kc ks (some (.ref x) :: l) (.ref x :: st) h := rfl
theorem s_Flat_hold_16 {x : Nat} : wps rm K Q c_Flat_hold_16 kc ks loc (.ref (x + 1) :: st) h = eg_gf h x 3 3 (fun v => wps rm K Q c_Flat_hold_19 kc ks loc (v :: st) h) := rfl
theorem s_Flat_hold_19 {x : Int32} {l0 : Option Value} {l : eg_Lo} : wps rm K Q c_Flat_hold_19 kc ks (l0 :: some (.int x) :: l) (st) h = wps rm K Q c_Flat_hold_20 kc ks (l0 :: some (.int x) :: l) (.int x :: st) h := rfl
theorem s_Flat_hold_20 {x : Nat} {l : eg_Lo} : wps rm K Q c_Flat_hold_20 kc ks (some (.ref x) :: l) (st) h = wps rm K Q c_Flat_hold_21 kc ks (some (.ref x) :: l) (.ref x :: st) h := rfl
theorem s_Flat_hold_21 {x : Nat} : wps rm K Q c_Flat_hold_21 kc ks loc (.ref (x + 1) :: st) h = eg_gf h x 3 0 (fun v => wps rm K Q c_Flat_hold_24 kc ks loc (v :: st) h) := rfl
theorem s_Flat_hold_24 {x : Nat} : wps rm K Q c_Flat_hold_24 kc ks loc (.ref (x + 1) :: st) h = eg_gf h x 10 3 (fun v => wps rm K Q c_Flat_hold_27 kc ks loc (v :: st) h) := rfl
theorem s_Flat_hold_27 {x : Int32} {l0 l1 : Option Value} {l : eg_Lo} : wps rm K Q c_Flat_hold_27 kc ks (l0 :: l1 :: some (.int x) :: l) (st) h = wps rm K Q c_Flat_hold_28 kc ks (l0 :: l1 :: some (.int x) :: l) (.int x :: st) h := rfl
theorem s_Flat_hold_28 {x : Nat} {i : Int32} : wps rm K Q c_Flat_hold_28 kc ks loc (.int i :: .ref (x + 1) :: st) h = eg_ia h x i (fun v => wps rm K Q c_Flat_hold_29 kc ks loc (.int v :: st) h) := rfl
theorem s_Flat_hold_29 {x : Nat} {i : Int32} {v : Int32} : wps rm K Q c_Flat_hold_29 kc ks loc (.int v :: .int i :: .ref (x + 1) :: st) h = eg_is h x i v (fun h9 => wps rm K Q c_Flat_hold_30 kc ks loc (st) h9) := rfl
theorem s_Flat_hold_30 {x : Nat} {l : eg_Lo} : wps rm K Q c_Flat_hold_30 kc ks (some (.ref x) :: l) (st) h = wps rm K Q c_Flat_hold_31 kc ks (some (.ref x) :: l) (.ref x :: st) h := rfl
theorem s_Flat_hold_31 {x : Nat} : wps rm K Q c_Flat_hold_31 kc ks loc (.ref (x + 1) :: st) h = eg_gf h x 3 3 (fun v => wps rm K Q c_Flat_hold_34 kc ks loc (v :: st) h) := rfl
theorem s_Flat_hold_34 {x : Int32} {l0 : Option Value} {l : eg_Lo} : wps rm K Q c_Flat_hold_34 kc ks (l0 :: some (.int x) :: l) (st) h = wps rm K Q c_Flat_hold_35 kc ks (l0 :: some (.int x) :: l) (.int x :: st) h := rfl
theorem s_Flat_hold_35  : wps rm K Q c_Flat_hold_35 kc ks loc (st) h = wps rm K Q c_Flat_hold_36 kc ks loc (.int (1) :: st) h := rfl
theorem s_Flat_hold_36 {x y : Int32} : wps rm K Q c_Flat_hold_36 kc ks loc (.int y :: .int x :: st) h = wps rm K Q c_Flat_hold_37 kc ks loc (.int (x + y) :: st) h := rfl
theorem s_Flat_hold_37 {x : Nat} {l : eg_Lo} : wps rm K Q c_Flat_hold_37 kc ks (some (.ref x) :: l) (st) h = wps rm K Q c_Flat_hold_38 kc ks (some (.ref x) :: l) (.ref x :: st) h := rfl
theorem s_Flat_hold_38 {x : Nat} : wps rm K Q c_Flat_hold_38 kc ks loc (.ref (x + 1) :: st) h = eg_gf h x 3 0 (fun v => wps rm K Q c_Flat_hold_41 kc ks loc (v :: st) h) := rfl
theorem s_Flat_hold_41 {x : Nat} : wps rm K Q c_Flat_hold_41 kc ks loc (.ref (x + 1) :: st) h = eg_gf h x 10 3 (fun v => wps rm K Q c_Flat_hold_44 kc ks loc (v :: st) h) := rfl
theorem s_Flat_hold_44 {x : Int32} {l0 l1 l2 : Option Value} {l : eg_Lo} : wps rm K Q c_Flat_hold_44 kc ks (l0 :: l1 :: l2 :: some (.int x) :: l) (st) h = wps rm K Q c_Flat_hold_45 kc ks (l0 :: l1 :: l2 :: some (.int x) :: l) (.int x :: st) h := rfl
theorem s_Flat_hold_45 {x : Nat} {i : Int32} : wps rm K Q c_Flat_hold_45 kc ks loc (.int i :: .ref (x + 1) :: st) h = eg_ia h x i (fun v => wps rm K Q c_Flat_hold_46 kc ks loc (.int v :: st) h) := rfl
theorem s_Flat_hold_46 {x : Nat} {i : Int32} {v : Int32} : wps rm K Q c_Flat_hold_46 kc ks loc (.int v :: .int i :: .ref (x + 1) :: st) h = eg_is h x i v (fun h9 => wps rm K Q c_Flat_hold_47 kc ks loc (st) h9) := rfl
theorem s_Flat_hold_47  : wps rm K Q c_Flat_hold_47 kc ks loc ([]) h = (kc = rm.cells ∧ Q none h) := rfl
def T_Flat_hold : List (Nat × List eg_I) := [(47, c_Flat_hold_47)]
theorem j_Flat_hold_47 {R : Nat → Nat → Nat → eg_Lo → List Value → List eg_E → Prop} {f pc0 : Nat} : eg_run rm R Q T_Flat_hold (f + 1) 47 kc ks loc st h = wps rm (eg_run rm R Q T_Flat_hold f) Q c_Flat_hold_47 kc ks loc st h := rfl
end
theorem q_Flat_hold : (T_Flat_hold.all fun q => eg_seq m_Flat_hold q.1 q.2) = true := by decide +kernel
theorem b_Flat_hold {as : List Value} {h : List eg_E} {Q : Option Value → List eg_E → Prop} (hf : (eg_fl as).length ≤ 4) (hw : wps (eg_rm m_Flat_hold) (eg_run (eg_rm m_Flat_hold) (eg_R m_Flat_hold Q (h.length + 0)) Q T_Flat_hold 3) Q c_Flat_hold_0 0 0 (eg_entry 4 as) [] h) : eg_Runs n_Flat_hold as h Q := eg_begin (d := m_Flat_hold) rfl (by decide) (by decide +kernel) q_Flat_hold hf hw
/-! ===== Flat_finish ===== -/
def c_Flat_finish_55 : List eg_I := .inl (55, 1, .return_, 0, 0) :: []
def c_Flat_finish_52 : List eg_I := .inr (52, 1, 132, n_Frac_become, 2, 4, 0, 0) :: c_Flat_finish_55
def c_Flat_finish_49 : List eg_I := .inl (49, 3, .getfield 95, 3, 6) :: c_Flat_finish_52
def c_Flat_finish_48 : List eg_I := .inl (48, 1, .aload 0, 0, 0) :: c_Flat_finish_49
def c_Flat_finish_45 : List eg_I := .inl (45, 3, .getfield 91, 3, 5) :: c_Flat_finish_48
def c_Flat_finish_44 : List eg_I := .inl (44, 1, .aload 0, 0, 0) :: c_Flat_finish_45
def c_Flat_finish_41 : List eg_I := .inl (41, 3, .getfield 128, 2, 2) :: c_Flat_finish_44
def c_Flat_finish_40 : List eg_I := .inl (40, 1, .aload 1, 0, 0) :: c_Flat_finish_41
def c_Flat_finish_37 : List eg_I := .inl (37, 3, .monitorenter, 104, 0) :: c_Flat_finish_40
def c_Flat_finish_35 : List eg_I := .inl (35, 2, .iconst (6), 0, 0) :: c_Flat_finish_37
def c_Flat_finish_34 : List eg_I := .inl (34, 1, .iconst (0), 0, 0) :: c_Flat_finish_35
def c_Flat_finish_31 : List eg_I := .inl (31, 3, .getfield 125, 2, 0) :: c_Flat_finish_34
def c_Flat_finish_30 : List eg_I := .inl (30, 1, .aload 1, 0, 0) :: c_Flat_finish_31
def c_Flat_finish_29 : List eg_I := .inl (29, 1, .iconst (0), 0, 0) :: c_Flat_finish_30
def c_Flat_finish_26 : List eg_I := .inl (26, 3, .getfield 25, 3, 3) :: c_Flat_finish_29
def c_Flat_finish_25 : List eg_I := .inl (25, 1, .aload 0, 0, 0) :: c_Flat_finish_26
def c_Flat_finish_22 : List eg_I := .inl (22, 3, .putfield 122, 2, 6) :: c_Flat_finish_25
def c_Flat_finish_21 : List eg_I := .inl (21, 1, .iadd, 0, 0) :: c_Flat_finish_22
def c_Flat_finish_20 : List eg_I := .inl (20, 1, .iconst (2), 0, 0) :: c_Flat_finish_21
def c_Flat_finish_19 : List eg_I := .inl (19, 1, .iload 3, 0, 0) :: c_Flat_finish_20
def c_Flat_finish_18 : List eg_I := .inl (18, 1, .aload 1, 0, 0) :: c_Flat_finish_19
def c_Flat_finish_15 : List eg_I := .inl (15, 3, .putfield 119, 2, 5) :: c_Flat_finish_18
def c_Flat_finish_14 : List eg_I := .inl (14, 1, .iload 2, 0, 0) :: c_Flat_finish_15
def c_Flat_finish_13 : List eg_I := .inl (13, 1, .aload 1, 0, 0) :: c_Flat_finish_14
def c_Flat_finish_10 : List eg_I := .inr (10, 1, 47, n_Flat_hold, 3, 3, 0, 0) :: c_Flat_finish_13
def c_Flat_finish_7 : List eg_I := .inl (7, 3, .getfield 101, 3, 8) :: c_Flat_finish_10
def c_Flat_finish_6 : List eg_I := .inl (6, 1, .aload 0, 0, 0) :: c_Flat_finish_7
def c_Flat_finish_3 : List eg_I := .inl (3, 3, .getfield 98, 3, 7) :: c_Flat_finish_6
def c_Flat_finish_2 : List eg_I := .inl (2, 1, .aload 0, 0, 0) :: c_Flat_finish_3
def c_Flat_finish_1 : List eg_I := .inl (1, 1, .iload 3, 0, 0) :: c_Flat_finish_2
def c_Flat_finish_0 : List eg_I := .inl (0, 1, .aload 0, 0, 0) :: c_Flat_finish_1
section
variable {rm : Room} {K : Nat → Nat → Nat → eg_Lo → List Value → List eg_E → Prop} {Q : Option Value → List eg_E → Prop} {kc ks : Nat} {loc : eg_Lo} {st : List Value} {h : List eg_E}
theorem s_Flat_finish_0 {x : Nat} {l : eg_Lo} : wps rm K Q c_Flat_finish_0 kc ks (some (.ref x) :: l) (st) h = wps rm K Q c_Flat_finish_1 kc ks (some (.ref x) :: l) (.ref x :: st) h := rfl
theorem s_Flat_finish_1 {x : Int32} {l0 l1 l2 : Option Value} {l : eg_Lo} : wps rm K Q c_Flat_finish_1 kc ks (l0 :: l1 :: l2 :: some (.int x) :: l) (st) h = wps rm K Q c_Flat_finish_2 kc ks (l0 :: l1 :: l2 :: some (.int x) :: l) (.int x :: st) h := rfl
theorem s_Flat_finish_2 {x : Nat} {l : eg_Lo} : wps rm K Q c_Flat_finish_2 kc ks (some (.ref x) :: l) (st) h = wps rm K Q c_Flat_finish_3 kc ks (some (.ref x) :: l) (.ref x :: st) h := rfl
theorem s_Flat_finish_3 {x : Nat} : wps rm K Q c_Flat_finish_3 kc ks loc (.ref (x + 1) :: st) h = eg_gf h x 3 7 (fun v => wps rm K Q c_Flat_finish_6 kc ks loc (v :: st) h) := rfl
theorem s_Flat_finish_6 {x : Nat} {l : eg_Lo} : wps rm K Q c_Flat_finish_6 kc ks (some (.ref x) :: l) (st) h = wps rm K Q c_Flat_finish_7 kc ks (some (.ref x) :: l) (.ref x :: st) h := rfl
theorem s_Flat_finish_7 {x : Nat} : wps rm K Q c_Flat_finish_7 kc ks loc (.ref (x + 1) :: st) h = eg_gf h x 3 8 (fun v => wps rm K Q c_Flat_finish_10 kc ks loc (v :: st) h) := rfl
theorem s_Flat_finish_10  {a1 : Value} {a2 : Value} {a3 : Value} {x : Nat} : wps rm K Q c_Flat_finish_10 kc ks loc (a3 :: a2 :: a1 :: .ref (x + 1) :: st) h = (eg_cls h x 3 ∧ st.length ≤ 4 ∧ eg_Cs n_Flat_hold (.ref (x + 1) :: [a1, a2, a3]) h (fun v h9 => wps rm K Q c_Flat_finish_13 kc ks loc (v.toList ++ st) h9)) := eg_c1_3
theorem s_Flat_finish_13 {x : Nat} {l0 : Option Value} {l : eg_Lo} : wps rm K Q c_Flat_finish_13 kc ks (l0 :: some (.ref x) :: l) (st) h = wps rm K Q c_Flat_finish_14 kc ks (l0 :: some (.ref x) :: l) (.ref x :: st) h := rfl
theorem s_Flat_finish_14 {x : Int32} {l0 l1 : Option Value} {l : eg_Lo} : wps rm K Q c_Flat_finish_14 kc ks (l0 :: l1 :: some (.int x) :: l) (st) h = wps rm K Q c_Flat_finish_15 kc ks (l0 :: l1 :: some (.int x) :: l) (.int x :: st) h := rfl
theorem s_Flat_finish_15 {x : Nat} {v : Value} : wps rm K Q c_Flat_finish_15 kc ks loc (v :: .ref (x + 1) :: st) h = eg_pf h x 2 5 v (fun h9 => wps rm K Q c_Flat_finish_18 kc ks loc (st) h9) := rfl
theorem s_Flat_finish_18 {x : Nat} {l0 : Option Value} {l : eg_Lo} : wps rm K Q c_Flat_finish_18 kc ks (l0 :: some (.ref x) :: l) (st) h = wps rm K Q c_Flat_finish_19 kc ks (l0 :: some (.ref x) :: l) (.ref x :: st) h := rfl
theorem s_Flat_finish_19 {x : Int32} {l0 l1 l2 : Option Value} {l : eg_Lo} : wps rm K Q c_Flat_finish_19 kc ks (l0 :: l1 :: l2 :: some (.int x) :: l) (st) h = wps rm K Q c_Flat_finish_20 kc ks (l0 :: l1 :: l2 :: some (.int x) :: l) (.int x :: st) h := rfl
theorem s_Flat_finish_20  : wps rm K Q c_Flat_finish_20 kc ks loc (st) h = wps rm K Q c_Flat_finish_21 kc ks loc (.int (2) :: st) h := rfl
theorem s_Flat_finish_21 {x y : Int32} : wps rm K Q c_Flat_finish_21 kc ks loc (.int y :: .int x :: st) h = wps rm K Q c_Flat_finish_22 kc ks loc (.int (x + y) :: st) h := rfl
theorem s_Flat_finish_22 {x : Nat} {v : Value} : wps rm K Q c_Flat_finish_22 kc ks loc (v :: .ref (x + 1) :: st) h = eg_pf h x 2 6 v (fun h9 => wps rm K Q c_Flat_finish_25 kc ks loc (st) h9) := rfl
theorem s_Flat_finish_25 {x : Nat} {l : eg_Lo} : wps rm K Q c_Flat_finish_25 kc ks (some (.ref x) :: l) (st) h = wps rm K Q c_Flat_finish_26 kc ks (some (.ref x) :: l) (.ref x :: st) h := rfl
theorem s_Flat_finish_26 {x : Nat} : wps rm K Q c_Flat_finish_26 kc ks loc (.ref (x + 1) :: st) h = eg_gf h x 3 3 (fun v => wps rm K Q c_Flat_finish_29 kc ks loc (v :: st) h) := rfl
theorem s_Flat_finish_29  : wps rm K Q c_Flat_finish_29 kc ks loc (st) h = wps rm K Q c_Flat_finish_30 kc ks loc (.int (0) :: st) h := rfl
theorem s_Flat_finish_30 {x : Nat} {l0 : Option Value} {l : eg_Lo} : wps rm K Q c_Flat_finish_30 kc ks (l0 :: some (.ref x) :: l) (st) h = wps rm K Q c_Flat_finish_31 kc ks (l0 :: some (.ref x) :: l) (.ref x :: st) h := rfl
theorem s_Flat_finish_31 {x : Nat} : wps rm K Q c_Flat_finish_31 kc ks loc (.ref (x + 1) :: st) h = eg_gf h x 2 0 (fun v => wps rm K Q c_Flat_finish_34 kc ks loc (v :: st) h) := rfl
theorem s_Flat_finish_34  : wps rm K Q c_Flat_finish_34 kc ks loc (st) h = wps rm K Q c_Flat_finish_35 kc ks loc (.int (0) :: st) h := rfl
theorem s_Flat_finish_35  : wps rm K Q c_Flat_finish_35 kc ks loc (st) h = wps rm K Q c_Flat_finish_37 kc ks loc (.int (6) :: st) h := rfl
theorem s_Flat_finish_37 {x y : Nat} {sp dp z : Int32} : wps rm K Q c_Flat_finish_37 kc ks loc (.int z :: .int dp :: .ref (y + 1) :: .int sp :: .ref (x + 1) :: []) h = eg_cpi h x y sp dp z (fun h9 => wps rm K Q c_Flat_finish_40 kc ks loc ([]) h9) := eg_cp_i
theorem s_Flat_finish_40 {x : Nat} {l0 : Option Value} {l : eg_Lo} : wps rm K Q c_Flat_finish_40 kc ks (l0 :: some (.ref x) :: l) (st) h = wps rm K Q c_Flat_finish_41 kc ks (l0 :: some (.ref x) :: l) (.ref x :: st) h := rfl
theorem s_Flat_finish_41 {x : Nat} : wps rm K Q c_Flat_finish_41 kc ks loc (.ref (x + 1) :: st) h = eg_gf h x 2 2 (fun v => wps rm K Q c_Flat_finish_44 kc ks loc (v :: st) h) := rfl
theorem s_Flat_finish_44 {x : Nat} {l : eg_Lo} : wps rm K Q c_Flat_finish_44 kc ks (some (.ref x) :: l) (st) h = wps rm K Q c_Flat_finish_45 kc ks (some (.ref x) :: l) (.ref x :: st) h := rfl
theorem s_Flat_finish_45 {x : Nat} : wps rm K Q c_Flat_finish_45 kc ks loc (.ref (x + 1) :: st) h = eg_gf h x 3 5 (fun v => wps rm K Q c_Flat_finish_48 kc ks loc (v :: st) h) := rfl
theorem s_Flat_finish_48 {x : Nat} {l : eg_Lo} : wps rm K Q c_Flat_finish_48 kc ks (some (.ref x) :: l) (st) h = wps rm K Q c_Flat_finish_49 kc ks (some (.ref x) :: l) (.ref x :: st) h := rfl
theorem s_Flat_finish_49 {x : Nat} : wps rm K Q c_Flat_finish_49 kc ks loc (.ref (x + 1) :: st) h = eg_gf h x 3 6 (fun v => wps rm K Q c_Flat_finish_52 kc ks loc (v :: st) h) := rfl
theorem s_Flat_finish_52  {a1 : Value} {a2 : Value} {x : Nat} : wps rm K Q c_Flat_finish_52 kc ks loc (a2 :: a1 :: .ref (x + 1) :: st) h = (eg_cls h x 4 ∧ st.length ≤ 4 ∧ eg_Cs n_Frac_become (.ref (x + 1) :: [a1, a2]) h (fun v h9 => wps rm K Q c_Flat_finish_55 kc ks loc (v.toList ++ st) h9)) := eg_c1_2
theorem s_Flat_finish_55  : wps rm K Q c_Flat_finish_55 kc ks loc ([]) h = (kc = rm.cells ∧ Q none h) := rfl
def T_Flat_finish : List (Nat × List eg_I) := []
end
theorem q_Flat_finish : (T_Flat_finish.all fun q => eg_seq m_Flat_finish q.1 q.2) = true := by decide +kernel
theorem b_Flat_finish {as : List Value} {h : List eg_E} {Q : Option Value → List eg_E → Prop} (hf : (eg_fl as).length ≤ 4) (hw : wps (eg_rm m_Flat_finish) (eg_run (eg_rm m_Flat_finish) (eg_R m_Flat_finish Q (h.length + 0)) Q T_Flat_finish 2) Q c_Flat_finish_0 0 0 (eg_entry 4 as) [] h) : eg_Runs n_Flat_finish as h Q := eg_begin (d := m_Flat_finish) rfl (by decide) (by decide +kernel) q_Flat_finish hf hw
/-! ===== Frac_init ===== -/
def c_Frac_init_9 : List eg_I := .inl (9, 1, .return_, 0, 0) :: []
def c_Frac_init_6 : List eg_I := .inl (6, 3, .putfield 7, 4, 1) :: c_Frac_init_9
def c_Frac_init_5 : List eg_I := .inl (5, 1, .sipush (1), 0, 0) :: c_Frac_init_6
def c_Frac_init_4 : List eg_I := .inl (4, 1, .aload 0, 0, 0) :: c_Frac_init_5
def c_Frac_init_1 : List eg_I := .inl (1, 3, .athrow, 1, 0) :: c_Frac_init_4
def c_Frac_init_0 : List eg_I := .inl (0, 1, .aload 0, 0, 0) :: c_Frac_init_1
section
variable {rm : Room} {K : Nat → Nat → Nat → eg_Lo → List Value → List eg_E → Prop} {Q : Option Value → List eg_E → Prop} {kc ks : Nat} {loc : eg_Lo} {st : List Value} {h : List eg_E}
theorem s_Frac_init_0 {x : Nat} {l : eg_Lo} : wps rm K Q c_Frac_init_0 kc ks (some (.ref x) :: l) (st) h = wps rm K Q c_Frac_init_1 kc ks (some (.ref x) :: l) (.ref x :: st) h := rfl
theorem s_Frac_init_1 {x : Nat} : wps rm K Q c_Frac_init_1 kc ks loc (.ref (x + 1) :: st) h = (st.length ≤ 4 ∧ wps rm K Q c_Frac_init_4 kc ks loc (st) h) := rfl
theorem s_Frac_init_4 {x : Nat} {l : eg_Lo} : wps rm K Q c_Frac_init_4 kc ks (some (.ref x) :: l) (st) h = wps rm K Q c_Frac_init_5 kc ks (some (.ref x) :: l) (.ref x :: st) h := rfl
theorem s_Frac_init_5  : wps rm K Q c_Frac_init_5 kc ks loc (st) h = wps rm K Q c_Frac_init_6 kc ks loc (.long (1) :: st) h := rfl
theorem s_Frac_init_6 {x : Nat} {v : Value} : wps rm K Q c_Frac_init_6 kc ks loc (v :: .ref (x + 1) :: st) h = eg_pf h x 4 1 v (fun h9 => wps rm K Q c_Frac_init_9 kc ks loc (st) h9) := rfl
theorem s_Frac_init_9  : wps rm K Q c_Frac_init_9 kc ks loc ([]) h = (kc = rm.cells ∧ Q none h) := rfl
def T_Frac_init : List (Nat × List eg_I) := []
end
theorem q_Frac_init : (T_Frac_init.all fun q => eg_seq m_Frac_init q.1 q.2) = true := by decide +kernel
theorem b_Frac_init {as : List Value} {h : List eg_E} {Q : Option Value → List eg_E → Prop} (hf : (eg_fl as).length ≤ 1) (hw : wps (eg_rm m_Frac_init) (eg_run (eg_rm m_Frac_init) (eg_R m_Frac_init Q (h.length + 0)) Q T_Frac_init 2) Q c_Frac_init_0 0 0 (eg_entry 1 as) [] h) : eg_Runs n_Frac_init as h Q := eg_begin (d := m_Frac_init) rfl (by decide) (by decide +kernel) q_Frac_init hf hw
/-! ===== Frac_become ===== -/
def c_Frac_become_37 : List eg_I := .inl (37, 1, .return_, 0, 0) :: []
def c_Frac_become_34 : List eg_I := .inl (34, 3, .putfield 7, 4, 1) :: c_Frac_become_37
def c_Frac_become_33 : List eg_I := .inl (33, 1, .ldiv, 0, 0) :: c_Frac_become_34
def c_Frac_become_31 : List eg_I := .inl (31, 2, .lload 5, 0, 0) :: c_Frac_become_33
def c_Frac_become_30 : List eg_I := .inl (30, 1, .lload 3, 0, 0) :: c_Frac_become_31
def c_Frac_become_29 : List eg_I := .inl (29, 1, .aload 0, 0, 0) :: c_Frac_become_30
def c_Frac_become_26 : List eg_I := .inl (26, 3, .putfield 17, 4, 0) :: c_Frac_become_29
def c_Frac_become_25 : List eg_I := .inl (25, 1, .ldiv, 0, 0) :: c_Frac_become_26
def c_Frac_become_23 : List eg_I := .inl (23, 2, .lload 5, 0, 0) :: c_Frac_become_25
def c_Frac_become_22 : List eg_I := .inl (22, 1, .lload 1, 0, 0) :: c_Frac_become_23
def c_Frac_become_21 : List eg_I := .inl (21, 1, .aload 0, 0, 0) :: c_Frac_become_22
def c_Frac_become_20 : List eg_I := .inl (20, 1, .return_, 0, 0) :: []
def c_Frac_become_17 : List eg_I := .inl (17, 3, .ifCond .ne (4), 21, 0) :: c_Frac_become_20
def c_Frac_become_16 : List eg_I := .inl (16, 1, .lcmp, 0, 0) :: c_Frac_become_17
def c_Frac_become_15 : List eg_I := .inl (15, 1, .sipush (0), 0, 0) :: c_Frac_become_16
def c_Frac_become_13 : List eg_I := .inl (13, 2, .lload 5, 0, 0) :: c_Frac_become_15
def c_Frac_become_10 : List eg_I := .inl (10, 3, .ifCond .le (10), 20, 0) :: c_Frac_become_13
def c_Frac_become_9 : List eg_I := .inl (9, 1, .lcmp, 0, 0) :: c_Frac_become_10
def c_Frac_become_8 : List eg_I := .inl (8, 1, .sipush (0), 0, 0) :: c_Frac_become_9
def c_Frac_become_7 : List eg_I := .inl (7, 1, .lload 3, 0, 0) :: c_Frac_become_8
def c_Frac_become_5 : List eg_I := .inl (5, 2, .lstore 5, 0, 0) :: c_Frac_become_7
def c_Frac_become_2 : List eg_I := .inr (2, 0, 13, n_Frac_commonMeasure, 2, 4, 0, 0) :: c_Frac_become_5
def c_Frac_become_1 : List eg_I := .inl (1, 1, .lload 3, 0, 0) :: c_Frac_become_2
def c_Frac_become_0 : List eg_I := .inl (0, 1, .lload 1, 0, 0) :: c_Frac_become_1
section
variable {rm : Room} {K : Nat → Nat → Nat → eg_Lo → List Value → List eg_E → Prop} {Q : Option Value → List eg_E → Prop} {kc ks : Nat} {loc : eg_Lo} {st : List Value} {h : List eg_E}
theorem s_Frac_become_0 {x : Int64} {l0 : Option Value} {l : eg_Lo} : wps rm K Q c_Frac_become_0 kc ks (l0 :: some (.long x) :: l) (st) h = wps rm K Q c_Frac_become_1 kc ks (l0 :: some (.long x) :: l) (.long x :: st) h := rfl
theorem s_Frac_become_1 {x : Int64} {l0 l1 l2 : Option Value} {l : eg_Lo} : wps rm K Q c_Frac_become_1 kc ks (l0 :: l1 :: l2 :: some (.long x) :: l) (st) h = wps rm K Q c_Frac_become_2 kc ks (l0 :: l1 :: l2 :: some (.long x) :: l) (.long x :: st) h := rfl
theorem s_Frac_become_2  {a1 : Value} {a2 : Value} : wps rm K Q c_Frac_become_2 kc ks loc (a2 :: a1 :: st) h = (st.length ≤ 4 ∧ eg_Cs n_Frac_commonMeasure [a1, a2] h (fun v h9 => wps rm K Q c_Frac_become_5 kc ks loc (v.toList ++ st) h9)) := eg_c0_2
theorem s_Frac_become_5 {x : Int64} : wps rm K Q c_Frac_become_5 kc ks loc (.long x :: st) h = wps rm K Q c_Frac_become_7 kc ks (eg_set2 loc 5 (.long x)) (st) h := rfl
theorem s_Frac_become_7 {x : Int64} {l0 l1 l2 : Option Value} {l : eg_Lo} : wps rm K Q c_Frac_become_7 kc ks (l0 :: l1 :: l2 :: some (.long x) :: l) (st) h = wps rm K Q c_Frac_become_8 kc ks (l0 :: l1 :: l2 :: some (.long x) :: l) (.long x :: st) h := rfl
theorem s_Frac_become_8  : wps rm K Q c_Frac_become_8 kc ks loc (st) h = wps rm K Q c_Frac_become_9 kc ks loc (.long (0) :: st) h := rfl
theorem s_Frac_become_9 {x y : Int64} : wps rm K Q c_Frac_become_9 kc ks loc (.long y :: .long x :: st) h = wps rm K Q c_Frac_become_10 kc ks loc (.int (lg_cmp x y) :: st) h := rfl
theorem s_Frac_become_10 {x : Int32} : wps rm K Q c_Frac_become_10 kc ks loc (.int x :: st) h = ((x ≤ 0 → K 20 kc ks loc st h) ∧ (¬ x ≤ 0 → wps rm K Q c_Frac_become_13 kc ks loc (st) h)) := rfl
theorem s_Frac_become_13 {x : Int64} {l0 l1 l2 l3 l4 : Option Value} {l : eg_Lo} : wps rm K Q c_Frac_become_13 kc ks (l0 :: l1 :: l2 :: l3 :: l4 :: some (.long x) :: l) (st) h = wps rm K Q c_Frac_become_15 kc ks (l0 :: l1 :: l2 :: l3 :: l4 :: some (.long x) :: l) (.long x :: st) h := rfl
theorem s_Frac_become_15  : wps rm K Q c_Frac_become_15 kc ks loc (st) h = wps rm K Q c_Frac_become_16 kc ks loc (.long (0) :: st) h := rfl
theorem s_Frac_become_16 {x y : Int64} : wps rm K Q c_Frac_become_16 kc ks loc (.long y :: .long x :: st) h = wps rm K Q c_Frac_become_17 kc ks loc (.int (lg_cmp x y) :: st) h := rfl
theorem s_Frac_become_17 {x : Int32} : wps rm K Q c_Frac_become_17 kc ks loc (.int x :: st) h = ((¬ x = 0 → K 21 kc ks loc st h) ∧ (x = 0 → wps rm K Q c_Frac_become_20 kc ks loc (st) h)) := rfl
theorem s_Frac_become_20  : wps rm K Q c_Frac_become_20 kc ks loc ([]) h = (kc = rm.cells ∧ Q none h) := rfl
theorem s_Frac_become_21 {x : Nat} {l : eg_Lo} : wps rm K Q c_Frac_become_21 kc ks (some (.ref x) :: l) (st) h = wps rm K Q c_Frac_become_22 kc ks (some (.ref x) :: l) (.ref x :: st) h := rfl
theorem s_Frac_become_22 {x : Int64} {l0 : Option Value} {l : eg_Lo} : wps rm K Q c_Frac_become_22 kc ks (l0 :: some (.long x) :: l) (st) h = wps rm K Q c_Frac_become_23 kc ks (l0 :: some (.long x) :: l) (.long x :: st) h := rfl
theorem s_Frac_become_23 {x : Int64} {l0 l1 l2 l3 l4 : Option Value} {l : eg_Lo} : wps rm K Q c_Frac_become_23 kc ks (l0 :: l1 :: l2 :: l3 :: l4 :: some (.long x) :: l) (st) h = wps rm K Q c_Frac_become_25 kc ks (l0 :: l1 :: l2 :: l3 :: l4 :: some (.long x) :: l) (.long x :: st) h := rfl
theorem s_Frac_become_25 {x y : Int64} : wps rm K Q c_Frac_become_25 kc ks loc (.long y :: .long x :: st) h = (¬ y = 0 ∧ wps rm K Q c_Frac_become_26 kc ks loc (.long (x / y) :: st) h) := rfl
theorem s_Frac_become_26 {x : Nat} {v : Value} : wps rm K Q c_Frac_become_26 kc ks loc (v :: .ref (x + 1) :: st) h = eg_pf h x 4 0 v (fun h9 => wps rm K Q c_Frac_become_29 kc ks loc (st) h9) := rfl
theorem s_Frac_become_29 {x : Nat} {l : eg_Lo} : wps rm K Q c_Frac_become_29 kc ks (some (.ref x) :: l) (st) h = wps rm K Q c_Frac_become_30 kc ks (some (.ref x) :: l) (.ref x :: st) h := rfl
theorem s_Frac_become_30 {x : Int64} {l0 l1 l2 : Option Value} {l : eg_Lo} : wps rm K Q c_Frac_become_30 kc ks (l0 :: l1 :: l2 :: some (.long x) :: l) (st) h = wps rm K Q c_Frac_become_31 kc ks (l0 :: l1 :: l2 :: some (.long x) :: l) (.long x :: st) h := rfl
theorem s_Frac_become_31 {x : Int64} {l0 l1 l2 l3 l4 : Option Value} {l : eg_Lo} : wps rm K Q c_Frac_become_31 kc ks (l0 :: l1 :: l2 :: l3 :: l4 :: some (.long x) :: l) (st) h = wps rm K Q c_Frac_become_33 kc ks (l0 :: l1 :: l2 :: l3 :: l4 :: some (.long x) :: l) (.long x :: st) h := rfl
theorem s_Frac_become_33 {x y : Int64} : wps rm K Q c_Frac_become_33 kc ks loc (.long y :: .long x :: st) h = (¬ y = 0 ∧ wps rm K Q c_Frac_become_34 kc ks loc (.long (x / y) :: st) h) := rfl
theorem s_Frac_become_34 {x : Nat} {v : Value} : wps rm K Q c_Frac_become_34 kc ks loc (v :: .ref (x + 1) :: st) h = eg_pf h x 4 1 v (fun h9 => wps rm K Q c_Frac_become_37 kc ks loc (st) h9) := rfl
theorem s_Frac_become_37  : wps rm K Q c_Frac_become_37 kc ks loc ([]) h = (kc = rm.cells ∧ Q none h) := rfl
def T_Frac_become : List (Nat × List eg_I) := [(20, c_Frac_become_20), (21, c_Frac_become_21)]
theorem j_Frac_become_20 {R : Nat → Nat → Nat → eg_Lo → List Value → List eg_E → Prop} {f pc0 : Nat} : eg_run rm R Q T_Frac_become (f + 1) 20 kc ks loc st h = wps rm (eg_run rm R Q T_Frac_become f) Q c_Frac_become_20 kc ks loc st h := rfl
theorem j_Frac_become_21 {R : Nat → Nat → Nat → eg_Lo → List Value → List eg_E → Prop} {f pc0 : Nat} : eg_run rm R Q T_Frac_become (f + 1) 21 kc ks loc st h = wps rm (eg_run rm R Q T_Frac_become f) Q c_Frac_become_21 kc ks loc st h := rfl
end
theorem q_Frac_become : (T_Frac_become.all fun q => eg_seq m_Frac_become q.1 q.2) = true := by decide +kernel
theorem b_Frac_become {as : List Value} {h : List eg_E} {Q : Option Value → List eg_E → Prop} (hf : (eg_fl as).length ≤ 7) (hw : wps (eg_rm m_Frac_become) (eg_run (eg_rm m_Frac_become) (eg_R m_Frac_become Q (h.length + 0)) Q T_Frac_become 4) Q c_Frac_become_0 0 0 (eg_entry 7 as) [] h) : eg_Runs n_Frac_become as h Q := eg_begin (d := m_Frac_become) rfl (by decide) (by decide +kernel) q_Frac_become hf hw
/-! ===== Frac_side ===== -/
def c_Frac_side_15 : List eg_I := .inl (15, 1, .lreturn, 0, 0) :: []
def c_Frac_side_12 : List eg_I := .inl (12, 3, .getfield 17, 4, 0) :: c_Frac_side_15
def c_Frac_side_11 : List eg_I := .inl (11, 1, .aload 0, 0, 0) :: c_Frac_side_12
def c_Frac_side_8 : List eg_I := .inl (8, 3, .goto (7), 15, 0) :: []
def c_Frac_side_5 : List eg_I := .inl (5, 3, .getfield 7, 4, 1) :: c_Frac_side_8
def c_Frac_side_4 : List eg_I := .inl (4, 1, .aload 0, 0, 0) :: c_Frac_side_5
def c_Frac_side_1 : List eg_I := .inl (1, 3, .ifCond .eq (10), 11, 0) :: c_Frac_side_4
def c_Frac_side_0 : List eg_I := .inl (0, 1, .iload 1, 0, 0) :: c_Frac_side_1
section
variable {rm : Room} {K : Nat → Nat → Nat → eg_Lo → List Value → List eg_E → Prop} {Q : Option Value → List eg_E → Prop} {kc ks : Nat} {loc : eg_Lo} {st : List Value} {h : List eg_E}
theorem s_Frac_side_0 {x : Int32} {l0 : Option Value} {l : eg_Lo} : wps rm K Q c_Frac_side_0 kc ks (l0 :: some (.int x) :: l) (st) h = wps rm K Q c_Frac_side_1 kc ks (l0 :: some (.int x) :: l) (.int x :: st) h := rfl
theorem s_Frac_side_1 {x : Int32} : wps rm K Q c_Frac_side_1 kc ks loc (.int x :: st) h = ((x = 0 → K 11 kc ks loc st h) ∧ (¬ x = 0 → wps rm K Q c_Frac_side_4 kc ks loc (st) h)) := rfl
theorem s_Frac_side_4 {x : Nat} {l : eg_Lo} : wps rm K Q c_Frac_side_4 kc ks (some (.ref x) :: l) (st) h = wps rm K Q c_Frac_side_5 kc ks (some (.ref x) :: l) (.ref x :: st) h := rfl
theorem s_Frac_side_5 {x : Nat} : wps rm K Q c_Frac_side_5 kc ks loc (.ref (x + 1) :: st) h = eg_gf h x 4 1 (fun v => wps rm K Q c_Frac_side_8 kc ks loc (v :: st) h) := rfl
theorem s_Frac_side_8  : wps rm K Q c_Frac_side_8 kc ks loc (st) h = K 15 kc ks loc st h := rfl
theorem s_Frac_side_11 {x : Nat} {l : eg_Lo} : wps rm K Q c_Frac_side_11 kc ks (some (.ref x) :: l) (st) h = wps rm K Q c_Frac_side_12 kc ks (some (.ref x) :: l) (.ref x :: st) h := rfl
theorem s_Frac_side_12 {x : Nat} : wps rm K Q c_Frac_side_12 kc ks loc (.ref (x + 1) :: st) h = eg_gf h x 4 0 (fun v => wps rm K Q c_Frac_side_15 kc ks loc (v :: st) h) := rfl
theorem s_Frac_side_15 {x : Int64} : wps rm K Q c_Frac_side_15 kc ks loc ([.long x]) h = (kc = rm.cells ∧ Q (some (.long x)) h) := rfl
def T_Frac_side : List (Nat × List eg_I) := [(11, c_Frac_side_11), (15, c_Frac_side_15)]
theorem j_Frac_side_11 {R : Nat → Nat → Nat → eg_Lo → List Value → List eg_E → Prop} {f pc0 : Nat} : eg_run rm R Q T_Frac_side (f + 1) 11 kc ks loc st h = wps rm (eg_run rm R Q T_Frac_side f) Q c_Frac_side_11 kc ks loc st h := rfl
theorem j_Frac_side_15 {R : Nat → Nat → Nat → eg_Lo → List Value → List eg_E → Prop} {f pc0 : Nat} : eg_run rm R Q T_Frac_side (f + 1) 15 kc ks loc st h = wps rm (eg_run rm R Q T_Frac_side f) Q c_Frac_side_15 kc ks loc st h := rfl
end
theorem q_Frac_side : (T_Frac_side.all fun q => eg_seq m_Frac_side q.1 q.2) = true := by decide +kernel
theorem b_Frac_side {as : List Value} {h : List eg_E} {Q : Option Value → List eg_E → Prop} (hf : (eg_fl as).length ≤ 2) (hw : wps (eg_rm m_Frac_side) (eg_run (eg_rm m_Frac_side) (eg_R m_Frac_side Q (h.length + 0)) Q T_Frac_side 4) Q c_Frac_side_0 0 0 (eg_entry 2 as) [] h) : eg_Runs n_Frac_side as h Q := eg_begin (d := m_Frac_side) rfl (by decide) (by decide +kernel) q_Frac_side hf hw
/-! ===== Frac_commonMeasure ===== -/
def c_Frac_commonMeasure_52 : List eg_I := .inl (52, 1, .lreturn, 0, 0) :: []
def c_Frac_commonMeasure_50 : List eg_I := .inl (50, 2, .lload 4, 0, 0) :: c_Frac_commonMeasure_52
def c_Frac_commonMeasure_47 : List eg_I := .inl (47, 3, .goto (-32), 15, 0) :: []
def c_Frac_commonMeasure_44 : List eg_I := .inl (44, 3, .iinc 8 (1), 0, 0) :: c_Frac_commonMeasure_47
def c_Frac_commonMeasure_42 : List eg_I := .inl (42, 2, .lstore 6, 0, 0) :: c_Frac_commonMeasure_44
def c_Frac_commonMeasure_40 : List eg_I := .inl (40, 2, .lload 9, 0, 0) :: c_Frac_commonMeasure_42
def c_Frac_commonMeasure_38 : List eg_I := .inl (38, 2, .lstore 4, 0, 0) :: c_Frac_commonMeasure_40
def c_Frac_commonMeasure_36 : List eg_I := .inl (36, 2, .lload 6, 0, 0) :: c_Frac_commonMeasure_38
def c_Frac_commonMeasure_34 : List eg_I := .inl (34, 2, .lstore 9, 0, 0) :: c_Frac_commonMeasure_36
def c_Frac_commonMeasure_33 : List eg_I := .inl (33, 1, .lrem, 0, 0) :: c_Frac_commonMeasure_34
def c_Frac_commonMeasure_31 : List eg_I := .inl (31, 2, .lload 6, 0, 0) :: c_Frac_commonMeasure_33
def c_Frac_commonMeasure_29 : List eg_I := .inl (29, 2, .lload 4, 0, 0) :: c_Frac_commonMeasure_31
def c_Frac_commonMeasure_26 : List eg_I := .inl (26, 3, .ifCond .eq (24), 50, 0) :: c_Frac_commonMeasure_29
def c_Frac_commonMeasure_25 : List eg_I := .inl (25, 1, .lcmp, 0, 0) :: c_Frac_commonMeasure_26
def c_Frac_commonMeasure_24 : List eg_I := .inl (24, 1, .sipush (0), 0, 0) :: c_Frac_commonMeasure_25
def c_Frac_commonMeasure_22 : List eg_I := .inl (22, 2, .lload 6, 0, 0) :: c_Frac_commonMeasure_24
def c_Frac_commonMeasure_19 : List eg_I := .inl (19, 3, .if_icmp .ge (31), 50, 0) :: c_Frac_commonMeasure_22
def c_Frac_commonMeasure_17 : List eg_I := .inl (17, 2, .iconst (100), 0, 0) :: c_Frac_commonMeasure_19
def c_Frac_commonMeasure_15 : List eg_I := .inl (15, 2, .iload 8, 0, 0) :: c_Frac_commonMeasure_17
def c_Frac_commonMeasure_13 : List eg_I := .inl (13, 2, .istore 8, 0, 0) :: [.inl (15, 0, .nop, 0, 0)]
def c_Frac_commonMeasure_12 : List eg_I := .inl (12, 1, .iconst (0), 0, 0) :: c_Frac_commonMeasure_13
def c_Frac_commonMeasure_10 : List eg_I := .inl (10, 2, .lstore 6, 0, 0) :: c_Frac_commonMeasure_12
def c_Frac_commonMeasure_7 : List eg_I := .inr (7, 0, 20, n_Math_abs_J, 1, 13, 0, 0) :: c_Frac_commonMeasure_10
def c_Frac_commonMeasure_6 : List eg_I := .inl (6, 1, .lload 2, 0, 0) :: c_Frac_commonMeasure_7
def c_Frac_commonMeasure_4 : List eg_I := .inl (4, 2, .lstore 4, 0, 0) :: c_Frac_commonMeasure_6
def c_Frac_commonMeasure_1 : List eg_I := .inr (1, 0, 20, n_Math_abs_J, 1, 13, 0, 0) :: c_Frac_commonMeasure_4
def c_Frac_commonMeasure_0 : List eg_I := .inl (0, 1, .lload 0, 0, 0) :: c_Frac_commonMeasure_1
section
variable {rm : Room} {K : Nat → Nat → Nat → eg_Lo → List Value → List eg_E → Prop} {Q : Option Value → List eg_E → Prop} {kc ks : Nat} {loc : eg_Lo} {st : List Value} {h : List eg_E}
theorem s_Frac_commonMeasure_0 {x : Int64} {l : eg_Lo} : wps rm K Q c_Frac_commonMeasure_0 kc ks (some (.long x) :: l) (st) h = wps rm K Q c_Frac_commonMeasure_1 kc ks (some (.long x) :: l) (.long x :: st) h := rfl
theorem s_Frac_commonMeasure_1  {a1 : Value} : wps rm K Q c_Frac_commonMeasure_1 kc ks loc (a1 :: st) h = (st.length ≤ 4 ∧ eg_Cs n_Math_abs_J [a1] h (fun v h9 => wps rm K Q c_Frac_commonMeasure_4 kc ks loc (v.toList ++ st) h9)) := eg_c0_1
theorem s_Frac_commonMeasure_4 {x : Int64} : wps rm K Q c_Frac_commonMeasure_4 kc ks loc (.long x :: st) h = wps rm K Q c_Frac_commonMeasure_6 kc ks (eg_set2 loc 4 (.long x)) (st) h := rfl
theorem s_Frac_commonMeasure_6 {x : Int64} {l0 l1 : Option Value} {l : eg_Lo} : wps rm K Q c_Frac_commonMeasure_6 kc ks (l0 :: l1 :: some (.long x) :: l) (st) h = wps rm K Q c_Frac_commonMeasure_7 kc ks (l0 :: l1 :: some (.long x) :: l) (.long x :: st) h := rfl
theorem s_Frac_commonMeasure_7  {a1 : Value} : wps rm K Q c_Frac_commonMeasure_7 kc ks loc (a1 :: st) h = (st.length ≤ 4 ∧ eg_Cs n_Math_abs_J [a1] h (fun v h9 => wps rm K Q c_Frac_commonMeasure_10 kc ks loc (v.toList ++ st) h9)) := eg_c0_1
theorem s_Frac_commonMeasure_10 {x : Int64} : wps rm K Q c_Frac_commonMeasure_10 kc ks loc (.long x :: st) h = wps rm K Q c_Frac_commonMeasure_12 kc ks (eg_set2 loc 6 (.long x)) (st) h := rfl
theorem s_Frac_commonMeasure_12  : wps rm K Q c_Frac_commonMeasure_12 kc ks loc (st) h = wps rm K Q c_Frac_commonMeasure_13 kc ks loc (.int (0) :: st) h := rfl
theorem s_Frac_commonMeasure_13 {x : Int32} : wps rm K Q c_Frac_commonMeasure_13 kc ks loc (.int x :: st) h = K 15 kc ks (eg_set1 loc 8 (.int x)) (st) h := rfl
theorem s_Frac_commonMeasure_15 {x : Int32} {l0 l1 l2 l3 l4 l5 l6 l7 : Option Value} {l : eg_Lo} : wps rm K Q c_Frac_commonMeasure_15 kc ks (l0 :: l1 :: l2 :: l3 :: l4 :: l5 :: l6 :: l7 :: some (.int x) :: l) (st) h = wps rm K Q c_Frac_commonMeasure_17 kc ks (l0 :: l1 :: l2 :: l3 :: l4 :: l5 :: l6 :: l7 :: some (.int x) :: l) (.int x :: st) h := rfl
theorem s_Frac_commonMeasure_17  : wps rm K Q c_Frac_commonMeasure_17 kc ks loc (st) h = wps rm K Q c_Frac_commonMeasure_19 kc ks loc (.int (100) :: st) h := rfl
theorem s_Frac_commonMeasure_19 {x y : Int32} : wps rm K Q c_Frac_commonMeasure_19 kc ks loc (.int y :: .int x :: st) h = ((y ≤ x → K 50 kc ks loc st h) ∧ (¬ y ≤ x → wps rm K Q c_Frac_commonMeasure_22 kc ks loc (st) h)) := rfl
theorem s_Frac_commonMeasure_22 {x : Int64} {l0 l1 l2 l3 l4 l5 : Option Value} {l : eg_Lo} : wps rm K Q c_Frac_commonMeasure_22 kc ks (l0 :: l1 :: l2 :: l3 :: l4 :: l5 :: some (.long x) :: l) (st) h = wps rm K Q c_Frac_commonMeasure_24 kc ks (l0 :: l1 :: l2 :: l3 :: l4 :: l5 :: some (.long x) :: l) (.long x :: st) h := rfl
theorem s_Frac_commonMeasure_24  : wps rm K Q c_Frac_commonMeasure_24 kc ks loc (st) h = wps rm K Q c_Frac_commonMeasure_25 kc ks loc (.long (0) :: st) h := rfl
theorem s_Frac_commonMeasure_25 {x y : Int64} : wps rm K Q c_Frac_commonMeasure_25 kc ks loc (.long y :: .long x :: st) h = wps rm K Q c_Frac_commonMeasure_26 kc ks loc (.int (lg_cmp x y) :: st) h := rfl
theorem s_Frac_commonMeasure_26 {x : Int32} : wps rm K Q c_Frac_commonMeasure_26 kc ks loc (.int x :: st) h = ((x = 0 → K 50 kc ks loc st h) ∧ (¬ x = 0 → wps rm K Q c_Frac_commonMeasure_29 kc ks loc (st) h)) := rfl
theorem s_Frac_commonMeasure_29 {x : Int64} {l0 l1 l2 l3 : Option Value} {l : eg_Lo} : wps rm K Q c_Frac_commonMeasure_29 kc ks (l0 :: l1 :: l2 :: l3 :: some (.long x) :: l) (st) h = wps rm K Q c_Frac_commonMeasure_31 kc ks (l0 :: l1 :: l2 :: l3 :: some (.long x) :: l) (.long x :: st) h := rfl
theorem s_Frac_commonMeasure_31 {x : Int64} {l0 l1 l2 l3 l4 l5 : Option Value} {l : eg_Lo} : wps rm K Q c_Frac_commonMeasure_31 kc ks (l0 :: l1 :: l2 :: l3 :: l4 :: l5 :: some (.long x) :: l) (st) h = wps rm K Q c_Frac_commonMeasure_33 kc ks (l0 :: l1 :: l2 :: l3 :: l4 :: l5 :: some (.long x) :: l) (.long x :: st) h := rfl
theorem s_Frac_commonMeasure_33 {x y : Int64} : wps rm K Q c_Frac_commonMeasure_33 kc ks loc (.long y :: .long x :: st) h = (¬ y = 0 ∧ wps rm K Q c_Frac_commonMeasure_34 kc ks loc (.long (x - x / y * y) :: st) h) := rfl
theorem s_Frac_commonMeasure_34 {x : Int64} : wps rm K Q c_Frac_commonMeasure_34 kc ks loc (.long x :: st) h = wps rm K Q c_Frac_commonMeasure_36 kc ks (eg_set2 loc 9 (.long x)) (st) h := rfl
theorem s_Frac_commonMeasure_36 {x : Int64} {l0 l1 l2 l3 l4 l5 : Option Value} {l : eg_Lo} : wps rm K Q c_Frac_commonMeasure_36 kc ks (l0 :: l1 :: l2 :: l3 :: l4 :: l5 :: some (.long x) :: l) (st) h = wps rm K Q c_Frac_commonMeasure_38 kc ks (l0 :: l1 :: l2 :: l3 :: l4 :: l5 :: some (.long x) :: l) (.long x :: st) h := rfl
theorem s_Frac_commonMeasure_38 {x : Int64} : wps rm K Q c_Frac_commonMeasure_38 kc ks loc (.long x :: st) h = wps rm K Q c_Frac_commonMeasure_40 kc ks (eg_set2 loc 4 (.long x)) (st) h := rfl
theorem s_Frac_commonMeasure_40 {x : Int64} {l0 l1 l2 l3 l4 l5 l6 l7 l8 : Option Value} {l : eg_Lo} : wps rm K Q c_Frac_commonMeasure_40 kc ks (l0 :: l1 :: l2 :: l3 :: l4 :: l5 :: l6 :: l7 :: l8 :: some (.long x) :: l) (st) h = wps rm K Q c_Frac_commonMeasure_42 kc ks (l0 :: l1 :: l2 :: l3 :: l4 :: l5 :: l6 :: l7 :: l8 :: some (.long x) :: l) (.long x :: st) h := rfl
theorem s_Frac_commonMeasure_42 {x : Int64} : wps rm K Q c_Frac_commonMeasure_42 kc ks loc (.long x :: st) h = wps rm K Q c_Frac_commonMeasure_44 kc ks (eg_set2 loc 6 (.long x)) (st) h := rfl
theorem s_Frac_commonMeasure_44 {x : Int32} {l0 l1 l2 l3 l4 l5 l6 l7 : Option Value} {l9 : eg_Lo} : wps rm K Q c_Frac_commonMeasure_44 kc ks (l0 :: l1 :: l2 :: l3 :: l4 :: l5 :: l6 :: l7 :: some (.int x) :: l9) (st) h = wps rm K Q c_Frac_commonMeasure_47 kc ks (eg_set1 (l0 :: l1 :: l2 :: l3 :: l4 :: l5 :: l6 :: l7 :: some (.int x) :: l9) 8 (.int (x + (1)))) (st) h := rfl
theorem s_Frac_commonMeasure_47  : wps rm K Q c_Frac_commonMeasure_47 kc ks loc (st) h = K 15 kc ks loc st h := rfl
theorem s_Frac_commonMeasure_50 {x : Int64} {l0 l1 l2 l3 : Option Value} {l : eg_Lo} : wps rm K Q c_Frac_commonMeasure_50 kc ks (l0 :: l1 :: l2 :: l3 :: some (.long x) :: l) (st) h = wps rm K Q c_Frac_commonMeasure_52 kc ks (l0 :: l1 :: l2 :: l3 :: some (.long x) :: l) (.long x :: st) h := rfl
theorem s_Frac_commonMeasure_52 {x : Int64} : wps rm K Q c_Frac_commonMeasure_52 kc ks loc ([.long x]) h = (kc = rm.cells ∧ Q (some (.long x)) h) := rfl
def T_Frac_commonMeasure : List (Nat × List eg_I) := [(50, c_Frac_commonMeasure_50)]
theorem j_Frac_commonMeasure_50 {R : Nat → Nat → Nat → eg_Lo → List Value → List eg_E → Prop} {f pc0 : Nat} : eg_run rm R Q T_Frac_commonMeasure (f + 1) 50 kc ks loc st h = wps rm (eg_run rm R Q T_Frac_commonMeasure f) Q c_Frac_commonMeasure_50 kc ks loc st h := rfl
theorem j_Frac_commonMeasure_15 {R : Nat → Nat → Nat → eg_Lo → List Value → List eg_E → Prop} {f pc0 : Nat} : eg_run rm R Q T_Frac_commonMeasure (f + 1) 15 kc ks loc st h = R 15 kc ks loc st h := rfl
end
theorem q_Frac_commonMeasure : (T_Frac_commonMeasure.all fun q => eg_seq m_Frac_commonMeasure q.1 q.2) = true := by decide +kernel
theorem b_Frac_commonMeasure {as : List Value} {h : List eg_E} {Q : Option Value → List eg_E → Prop} (hf : (eg_fl as).length ≤ 11) (hw : wps (eg_rm m_Frac_commonMeasure) (eg_run (eg_rm m_Frac_commonMeasure) (eg_R m_Frac_commonMeasure Q (h.length + 0)) Q T_Frac_commonMeasure 3) Q c_Frac_commonMeasure_0 0 0 (eg_entry 11 as) [] h) : eg_Runs n_Frac_commonMeasure as h Q := eg_begin (d := m_Frac_commonMeasure) rfl (by decide) (by decide +kernel) q_Frac_commonMeasure hf hw
theorem p_Frac_commonMeasure_15 {Q : Option Value → List eg_E → Prop} {n0 kc ks : Nat} {loc : eg_Lo} {st : List Value} {h : List eg_E} (hw : wps (eg_rm m_Frac_commonMeasure) (eg_run (eg_rm m_Frac_commonMeasure) (eg_R m_Frac_commonMeasure Q n0) Q T_Frac_commonMeasure 3) Q c_Frac_commonMeasure_15 kc ks loc st h) : eg_R m_Frac_commonMeasure Q n0 15 kc ks loc st h := eg_go (by decide +kernel) q_Frac_commonMeasure hw
/-! ===== Frac_isLess ===== -/
def c_Frac_isLess_125 : List eg_I := .inl (125, 1, .ireturn, 0, 1) :: []
def c_Frac_isLess_124 : List eg_I := .inl (124, 1, .iconst (0), 0, 0) :: c_Frac_isLess_125
def c_Frac_isLess_121 : List eg_I := .inl (121, 3, .goto (-118), 3, 0) :: []
def c_Frac_isLess_118 : List eg_I := .inl (118, 3, .iinc 8 (1), 0, 0) :: c_Frac_isLess_121
def c_Frac_isLess_116 : List eg_I := .inl (116, 2, .lstore 6, 0, 0) :: c_Frac_isLess_118
def c_Frac_isLess_114 : List eg_I := .inl (114, 2, .lload 13, 0, 0) :: c_Frac_isLess_116
def c_Frac_isLess_113 : List eg_I := .inl (113, 1, .lstore 2, 0, 0) :: c_Frac_isLess_114
def c_Frac_isLess_111 : List eg_I := .inl (111, 2, .lload 15, 0, 0) :: c_Frac_isLess_113
def c_Frac_isLess_109 : List eg_I := .inl (109, 2, .lstore 4, 0, 0) :: c_Frac_isLess_111
def c_Frac_isLess_108 : List eg_I := .inl (108, 1, .lload 2, 0, 0) :: c_Frac_isLess_109
def c_Frac_isLess_107 : List eg_I := .inl (107, 1, .lstore 0, 0, 0) :: c_Frac_isLess_108
def c_Frac_isLess_105 : List eg_I := .inl (105, 2, .lload 6, 0, 0) :: c_Frac_isLess_107
def c_Frac_isLess_104 : List eg_I := .inl (104, 1, .ireturn, 0, 1) :: []
def c_Frac_isLess_103 : List eg_I := .inl (103, 1, .iconst (0), 0, 0) :: c_Frac_isLess_104
def c_Frac_isLess_100 : List eg_I := .inl (100, 3, .goto (4), 104, 0) :: []
def c_Frac_isLess_99 : List eg_I := .inl (99, 1, .iconst (1), 0, 0) :: c_Frac_isLess_100
def c_Frac_isLess_96 : List eg_I := .inl (96, 3, .ifCond .ge (7), 103, 0) :: c_Frac_isLess_99
def c_Frac_isLess_95 : List eg_I := .inl (95, 1, .lcmp, 0, 0) :: c_Frac_isLess_96
def c_Frac_isLess_93 : List eg_I := .inl (93, 2, .lload 15, 0, 0) :: c_Frac_isLess_95
def c_Frac_isLess_91 : List eg_I := .inl (91, 2, .lload 13, 0, 0) :: c_Frac_isLess_93
def c_Frac_isLess_88 : List eg_I := .inl (88, 3, .ifCond .ne (17), 105, 0) :: c_Frac_isLess_91
def c_Frac_isLess_87 : List eg_I := .inl (87, 1, .lcmp, 0, 0) :: c_Frac_isLess_88
def c_Frac_isLess_86 : List eg_I := .inl (86, 1, .sipush (0), 0, 0) :: c_Frac_isLess_87
def c_Frac_isLess_84 : List eg_I := .inl (84, 2, .lload 15, 0, 0) :: c_Frac_isLess_86
def c_Frac_isLess_81 : List eg_I := .inl (81, 3, .ifCond .eq (10), 91, 0) :: c_Frac_isLess_84
def c_Frac_isLess_80 : List eg_I := .inl (80, 1, .lcmp, 0, 0) :: c_Frac_isLess_81
def c_Frac_isLess_79 : List eg_I := .inl (79, 1, .sipush (0), 0, 0) :: c_Frac_isLess_80
def c_Frac_isLess_77 : List eg_I := .inl (77, 2, .lload 13, 0, 0) :: c_Frac_isLess_79
def c_Frac_isLess_75 : List eg_I := .inl (75, 2, .lstore 15, 0, 0) :: c_Frac_isLess_77
def c_Frac_isLess_74 : List eg_I := .inl (74, 1, .lsub, 0, 0) :: c_Frac_isLess_75
def c_Frac_isLess_73 : List eg_I := .inl (73, 1, .lmul, 0, 0) :: c_Frac_isLess_74
def c_Frac_isLess_71 : List eg_I := .inl (71, 2, .lload 6, 0, 0) :: c_Frac_isLess_73
def c_Frac_isLess_69 : List eg_I := .inl (69, 2, .lload 11, 0, 0) :: c_Frac_isLess_71
def c_Frac_isLess_67 : List eg_I := .inl (67, 2, .lload 4, 0, 0) :: c_Frac_isLess_69
def c_Frac_isLess_65 : List eg_I := .inl (65, 2, .lstore 13, 0, 0) :: c_Frac_isLess_67
def c_Frac_isLess_64 : List eg_I := .inl (64, 1, .lsub, 0, 0) :: c_Frac_isLess_65
def c_Frac_isLess_63 : List eg_I := .inl (63, 1, .lmul, 0, 0) :: c_Frac_isLess_64
def c_Frac_isLess_62 : List eg_I := .inl (62, 1, .lload 2, 0, 0) :: c_Frac_isLess_63
def c_Frac_isLess_60 : List eg_I := .inl (60, 2, .lload 9, 0, 0) :: c_Frac_isLess_62
def c_Frac_isLess_59 : List eg_I := .inl (59, 1, .lload 0, 0, 0) :: c_Frac_isLess_60
def c_Frac_isLess_58 : List eg_I := .inl (58, 1, .ireturn, 0, 1) :: []
def c_Frac_isLess_57 : List eg_I := .inl (57, 1, .iconst (0), 0, 0) :: c_Frac_isLess_58
def c_Frac_isLess_54 : List eg_I := .inl (54, 3, .goto (4), 58, 0) :: []
def c_Frac_isLess_53 : List eg_I := .inl (53, 1, .iconst (1), 0, 0) :: c_Frac_isLess_54
def c_Frac_isLess_50 : List eg_I := .inl (50, 3, .ifCond .ge (7), 57, 0) :: c_Frac_isLess_53
def c_Frac_isLess_49 : List eg_I := .inl (49, 1, .lcmp, 0, 0) :: c_Frac_isLess_50
def c_Frac_isLess_47 : List eg_I := .inl (47, 2, .lload 11, 0, 0) :: c_Frac_isLess_49
def c_Frac_isLess_45 : List eg_I := .inl (45, 2, .lload 9, 0, 0) :: c_Frac_isLess_47
def c_Frac_isLess_42 : List eg_I := .inl (42, 3, .ifCond .eq (17), 59, 0) :: c_Frac_isLess_45
def c_Frac_isLess_41 : List eg_I := .inl (41, 1, .lcmp, 0, 0) :: c_Frac_isLess_42
def c_Frac_isLess_39 : List eg_I := .inl (39, 2, .lload 11, 0, 0) :: c_Frac_isLess_41
def c_Frac_isLess_37 : List eg_I := .inl (37, 2, .lload 9, 0, 0) :: c_Frac_isLess_39
def c_Frac_isLess_35 : List eg_I := .inl (35, 2, .lstore 11, 0, 0) :: c_Frac_isLess_37
def c_Frac_isLess_34 : List eg_I := .inl (34, 1, .ldiv, 0, 0) :: c_Frac_isLess_35
def c_Frac_isLess_32 : List eg_I := .inl (32, 2, .lload 6, 0, 0) :: c_Frac_isLess_34
def c_Frac_isLess_30 : List eg_I := .inl (30, 2, .lload 4, 0, 0) :: c_Frac_isLess_32
def c_Frac_isLess_28 : List eg_I := .inl (28, 2, .lstore 9, 0, 0) :: c_Frac_isLess_30
def c_Frac_isLess_27 : List eg_I := .inl (27, 1, .ldiv, 0, 0) :: c_Frac_isLess_28
def c_Frac_isLess_26 : List eg_I := .inl (26, 1, .lload 2, 0, 0) :: c_Frac_isLess_27
def c_Frac_isLess_25 : List eg_I := .inl (25, 1, .lload 0, 0, 0) :: c_Frac_isLess_26
def c_Frac_isLess_24 : List eg_I := .inl (24, 1, .ireturn, 0, 1) :: []
def c_Frac_isLess_23 : List eg_I := .inl (23, 1, .iconst (0), 0, 0) :: c_Frac_isLess_24
def c_Frac_isLess_20 : List eg_I := .inl (20, 3, .ifCond .ne (5), 25, 0) :: c_Frac_isLess_23
def c_Frac_isLess_19 : List eg_I := .inl (19, 1, .lcmp, 0, 0) :: c_Frac_isLess_20
def c_Frac_isLess_18 : List eg_I := .inl (18, 1, .sipush (0), 0, 0) :: c_Frac_isLess_19
def c_Frac_isLess_16 : List eg_I := .inl (16, 2, .lload 6, 0, 0) :: c_Frac_isLess_18
def c_Frac_isLess_13 : List eg_I := .inl (13, 3, .ifCond .eq (10), 23, 0) :: c_Frac_isLess_16
def c_Frac_isLess_12 : List eg_I := .inl (12, 1, .lcmp, 0, 0) :: c_Frac_isLess_13
def c_Frac_isLess_11 : List eg_I := .inl (11, 1, .sipush (0), 0, 0) :: c_Frac_isLess_12
def c_Frac_isLess_10 : List eg_I := .inl (10, 1, .lload 2, 0, 0) :: c_Frac_isLess_11
def c_Frac_isLess_7 : List eg_I := .inl (7, 3, .if_icmp .ge (117), 124, 0) :: c_Frac_isLess_10
def c_Frac_isLess_5 : List eg_I := .inl (5, 2, .iconst (100), 0, 0) :: c_Frac_isLess_7
def c_Frac_isLess_3 : List eg_I := .inl (3, 2, .iload 8, 0, 0) :: c_Frac_isLess_5
def c_Frac_isLess_1 : List eg_I := .inl (1, 2, .istore 8, 0, 0) :: [.inl (3, 0, .nop, 0, 0)]
def c_Frac_isLess_0 : List eg_I := .inl (0, 1, .iconst (0), 0, 0) :: c_Frac_isLess_1
section
variable {rm : Room} {K : Nat → Nat → Nat → eg_Lo → List Value → List eg_E → Prop} {Q : Option Value → List eg_E → Prop} {kc ks : Nat} {loc : eg_Lo} {st : List Value} {h : List eg_E}
theorem s_Frac_isLess_0  : wps rm K Q c_Frac_isLess_0 kc ks loc (st) h = wps rm K Q c_Frac_isLess_1 kc ks loc (.int (0) :: st) h := rfl
theorem s_Frac_isLess_1 {x : Int32} : wps rm K Q c_Frac_isLess_1 kc ks loc (.int x :: st) h = K 3 kc ks (eg_set1 loc 8 (.int x)) (st) h := rfl
theorem s_Frac_isLess_3 {x : Int32} {l0 l1 l2 l3 l4 l5 l6 l7 : Option Value} {l : eg_Lo} : wps rm K Q c_Frac_isLess_3 kc ks (l0 :: l1 :: l2 :: l3 :: l4 :: l5 :: l6 :: l7 :: some (.int x) :: l) (st) h = wps rm K Q c_Frac_isLess_5 kc ks (l0 :: l1 :: l2 :: l3 :: l4 :: l5 :: l6 :: l7 :: some (.int x) :: l) (.int x :: st) h := rfl
theorem s_Frac_isLess_5  : wps rm K Q c_Frac_isLess_5 kc ks loc (st) h = wps rm K Q c_Frac_isLess_7 kc ks loc (.int (100) :: st) h := rfl
theorem s_Frac_isLess_7 {x y : Int32} : wps rm K Q c_Frac_isLess_7 kc ks loc (.int y :: .int x :: st) h = ((y ≤ x → K 124 kc ks loc st h) ∧ (¬ y ≤ x → wps rm K Q c_Frac_isLess_10 kc ks loc (st) h)) := rfl
theorem s_Frac_isLess_10 {x : Int64} {l0 l1 : Option Value} {l : eg_Lo} : wps rm K Q c_Frac_isLess_10 kc ks (l0 :: l1 :: some (.long x) :: l) (st) h = wps rm K Q c_Frac_isLess_11 kc ks (l0 :: l1 :: some (.long x) :: l) (.long x :: st) h := rfl
theorem s_Frac_isLess_11  : wps rm K Q c_Frac_isLess_11 kc ks loc (st) h = wps rm K Q c_Frac_isLess_12 kc ks loc (.long (0) :: st) h := rfl
theorem s_Frac_isLess_12 {x y : Int64} : wps rm K Q c_Frac_isLess_12 kc ks loc (.long y :: .long x :: st) h = wps rm K Q c_Frac_isLess_13 kc ks loc (.int (lg_cmp x y) :: st) h := rfl
theorem s_Frac_isLess_13 {x : Int32} : wps rm K Q c_Frac_isLess_13 kc ks loc (.int x :: st) h = ((x = 0 → K 23 kc ks loc st h) ∧ (¬ x = 0 → wps rm K Q c_Frac_isLess_16 kc ks loc (st) h)) := rfl
theorem s_Frac_isLess_16 {x : Int64} {l0 l1 l2 l3 l4 l5 : Option Value} {l : eg_Lo} : wps rm K Q c_Frac_isLess_16 kc ks (l0 :: l1 :: l2 :: l3 :: l4 :: l5 :: some (.long x) :: l) (st) h = wps rm K Q c_Frac_isLess_18 kc ks (l0 :: l1 :: l2 :: l3 :: l4 :: l5 :: some (.long x) :: l) (.long x :: st) h := rfl
theorem s_Frac_isLess_18  : wps rm K Q c_Frac_isLess_18 kc ks loc (st) h = wps rm K Q c_Frac_isLess_19 kc ks loc (.long (0) :: st) h := rfl
theorem s_Frac_isLess_19 {x y : Int64} : wps rm K Q c_Frac_isLess_19 kc ks loc (.long y :: .long x :: st) h = wps rm K Q c_Frac_isLess_20 kc ks loc (.int (lg_cmp x y) :: st) h := rfl
theorem s_Frac_isLess_20 {x : Int32} : wps rm K Q c_Frac_isLess_20 kc ks loc (.int x :: st) h = ((¬ x = 0 → K 25 kc ks loc st h) ∧ (x = 0 → wps rm K Q c_Frac_isLess_23 kc ks loc (st) h)) := rfl
theorem s_Frac_isLess_23  : wps rm K Q c_Frac_isLess_23 kc ks loc (st) h = wps rm K Q c_Frac_isLess_24 kc ks loc (.int (0) :: st) h := rfl
theorem s_Frac_isLess_24 {x : Int32} : wps rm K Q c_Frac_isLess_24 kc ks loc ([.int x]) h = (kc = rm.cells ∧ ((1 : Nat) = 1 → x = 0 ∨ x = 1) ∧ Q (some (.int x)) h) := rfl
theorem s_Frac_isLess_25 {x : Int64} {l : eg_Lo} : wps rm K Q c_Frac_isLess_25 kc ks (some (.long x) :: l) (st) h = wps rm K Q c_Frac_isLess_26 kc ks (some (.long x) :: l) (.long x :: st) h := rfl
theorem s_Frac_isLess_26 {x : Int64} {l0 l1 : Option Value} {l : eg_Lo} : wps rm K Q c_Frac_isLess_26 kc ks (l0 :: l1 :: some (.long x) :: l) (st) h = wps rm K Q c_Frac_isLess_27 kc ks (l0 :: l1 :: some (.long x) :: l) (.long x :: st) h := rfl
theorem s_Frac_isLess_27 {x y : Int64} : wps rm K Q c_Frac_isLess_27 kc ks loc (.long y :: .long x :: st) h = (¬ y = 0 ∧ wps rm K Q c_Frac_isLess_28 kc ks loc (.long (x / y) :: st) h) := rfl
theorem s_Frac_isLess_28 {x : Int64} : wps rm K Q c_Frac_isLess_28 kc ks loc (.long x :: st) h = wps rm K Q c_Frac_isLess_30 kc ks (eg_set2 loc 9 (.long x)) (st) h := rfl
theorem s_Frac_isLess_30 {x : Int64} {l0 l1 l2 l3 : Option Value} {l : eg_Lo} : wps rm K Q c_Frac_isLess_30 kc ks (l0 :: l1 :: l2 :: l3 :: some (.long x) :: l) (st) h = wps rm K Q c_Frac_isLess_32 kc ks (l0 :: l1 :: l2 :: l3 :: some (.long x) :: l) (.long x :: st) h := rfl
theorem s_Frac_isLess_32 {x : Int64} {l0 l1 l2 l3 l4 l5 : Option Value} {l : eg_Lo} : wps rm K Q c_Frac_isLess_32 kc ks (l0 :: l1 :: l2 :: l3 :: l4 :: l5 :: some (.long x) :: l) (st) h = wps rm K Q c_Frac_isLess_34 kc ks (l0 :: l1 :: l2 :: l3 :: l4 :: l5 :: some (.long x) :: l) (.long x :: st) h := rfl
theorem s_Frac_isLess_34 {x y : Int64} : wps rm K Q c_Frac_isLess_34 kc ks loc (.long y :: .long x :: st) h = (¬ y = 0 ∧ wps rm K Q c_Frac_isLess_35 kc ks loc (.long (x / y) :: st) h) := rfl
theorem s_Frac_isLess_35 {x : Int64} : wps rm K Q c_Frac_isLess_35 kc ks loc (.long x :: st) h = wps rm K Q c_Frac_isLess_37 kc ks (eg_set2 loc 11 (.long x)) (st) h := rfl
theorem s_Frac_isLess_37 {x : Int64} {l0 l1 l2 l3 l4 l5 l6 l7 l8 : Option Value} {l : eg_Lo} : wps rm K Q c_Frac_isLess_37 kc ks (l0 :: l1 :: l2 :: l3 :: l4 :: l5 :: l6 :: l7 :: l8 :: some (.long x) :: l) (st) h = wps rm K Q c_Frac_isLess_39 kc ks (l0 :: l1 :: l2 :: l3 :: l4 :: l5 :: l6 :: l7 :: l8 :: some (.long x) :: l) (.long x :: st) h := rfl
theorem s_Frac_isLess_39 {x : Int64} {l0 l1 l2 l3 l4 l5 l6 l7 l8 l9 l10 : Option Value} {l : eg_Lo} : wps rm K Q c_Frac_isLess_39 kc ks (l0 :: l1 :: l2 :: l3 :: l4 :: l5 :: l6 :: l7 :: l8 :: l9 :: l10 :: some (.long x) :: l) (st) h = wps rm K Q c_Frac_isLess_41 kc ks (l0 :: l1 :: l2 :: l3 :: l4 :: l5 :: l6 :: l7 :: l8 :: l9 :: l10 :: some (.long x) :: l) (.long x :: st) h := rfl
theorem s_Frac_isLess_41 {x y : Int64} : wps rm K Q c_Frac_isLess_41 kc ks loc (.long y :: .long x :: st) h = wps rm K Q c_Frac_isLess_42 kc ks loc (.int (lg_cmp x y) :: st) h := rfl
theorem s_Frac_isLess_42 {x : Int32} : wps rm K Q c_Frac_isLess_42 kc ks loc (.int x :: st) h = ((x = 0 → K 59 kc ks loc st h) ∧ (¬ x = 0 → wps rm K Q c_Frac_isLess_45 kc ks loc (st) h)) := rfl
theorem s_Frac_isLess_45 {x : Int64} {l0 l1 l2 l3 l4 l5 l6 l7 l8 : Option Value} {l : eg_Lo} : wps rm K Q c_Frac_isLess_45 kc ks (l0 :: l1 :: l2 :: l3 :: l4 :: l5 :: l6 :: l7 :: l8 :: some (.long x) :: l) (st) h = wps rm K Q c_Frac_isLess_47 kc ks (l0 :: l1 :: l2 :: l3 :: l4 :: l5 :: l6 :: l7 :: l8 :: some (.long x) :: l) (.long x :: st) h := rfl
theorem s_Frac_isLess_47 {x : Int64} {l0 l1 l2 l3 l4 l5 l6 l7 l8 l9 l10 : Option Value} {l : eg_Lo} : wps rm K Q c_Frac_isLess_47 kc ks (l0 :: l1 :: l2 :: l3 :: l4 :: l5 :: l6 :: l7 :: l8 :: l9 :: l10 :: some (.long x) :: l) (st) h = wps rm K Q c_Frac_isLess_49 kc ks (l0 :: l1 :: l2 :: l3 :: l4 :: l5 :: l6 :: l7 :: l8 :: l9 :: l10 :: some (.long x) :: l) (.long x :: st) h := rfl
theorem s_Frac_isLess_49 {x y : Int64} : wps rm K Q c_Frac_isLess_49 kc ks loc (.long y :: .long x :: st) h = wps rm K Q c_Frac_isLess_50 kc ks loc (.int (lg_cmp x y) :: st) h := rfl
theorem s_Frac_isLess_50 {x : Int32} : wps rm K Q c_Frac_isLess_50 kc ks loc (.int x :: st) h = ((0 ≤ x → K 57 kc ks loc st h) ∧ (¬ 0 ≤ x → wps rm K Q c_Frac_isLess_53 kc ks loc (st) h)) := rfl
theorem s_Frac_isLess_53  : wps rm K Q c_Frac_isLess_53 kc ks loc (st) h = wps rm K Q c_Frac_isLess_54 kc ks loc (.int (1) :: st) h := rfl
theorem s_Frac_isLess_54  : wps rm K Q c_Frac_isLess_54 kc ks loc (st) h = K 58 kc ks loc st h := rfl
theorem s_Frac_isLess_57  : wps rm K Q c_Frac_isLess_57 kc ks loc (st) h = wps rm K Q c_Frac_isLess_58 kc ks loc (.int (0) :: st) h := rfl
theorem s_Frac_isLess_58 {x : Int32} : wps rm K Q c_Frac_isLess_58 kc ks loc ([.int x]) h = (kc = rm.cells ∧ ((1 : Nat) = 1 → x = 0 ∨ x = 1) ∧ Q (some (.int x)) h) := rfl
theorem s_Frac_isLess_59 {x : Int64} {l : eg_Lo} : wps rm K Q c_Frac_isLess_59 kc ks (some (.long x) :: l) (st) h = wps rm K Q c_Frac_isLess_60 kc ks (some (.long x) :: l) (.long x :: st) h := rfl
theorem s_Frac_isLess_60 {x : Int64} {l0 l1 l2 l3 l4 l5 l6 l7 l8 : Option Value} {l : eg_Lo} : wps rm K Q c_Frac_isLess_60 kc ks (l0 :: l1 :: l2 :: l3 :: l4 :: l5 :: l6 :: l7 :: l8 :: some (.long x) :: l) (st) h = wps rm K Q c_Frac_isLess_62 kc ks (l0 :: l1 :: l2 :: l3 :: l4 :: l5 :: l6 :: l7 :: l8 :: some (.long x) :: l) (.long x :: st) h := rfl
theorem s_Frac_isLess_62 {x : Int64} {l0 l1 : Option Value} {l : eg_Lo} : wps rm K Q c_Frac_isLess_62 kc ks (l0 :: l1 :: some (.long x) :: l) (st) h = wps rm K Q c_Frac_isLess_63 kc ks (l0 :: l1 :: some (.long x) :: l) (.long x :: st) h := rfl
theorem s_Frac_isLess_63 {x y : Int64} : wps rm K Q c_Frac_isLess_63 kc ks loc (.long y :: .long x :: st) h = wps rm K Q c_Frac_isLess_64 kc ks loc (.long (x * y) :: st) h := rfl
theorem s_Frac_isLess_64 {x y : Int64} : wps rm K Q c_Frac_isLess_64 kc ks loc (.long y :: .long x :: st) h = wps rm K Q c_Frac_isLess_65 kc ks loc (.long (x - y) :: st) h := rfl
theorem s_Frac_isLess_65 {x : Int64} : wps rm K Q c_Frac_isLess_65 kc ks loc (.long x :: st) h = wps rm K Q c_Frac_isLess_67 kc ks (eg_set2 loc 13 (.long x)) (st) h := rfl
theorem s_Frac_isLess_67 {x : Int64} {l0 l1 l2 l3 : Option Value} {l : eg_Lo} : wps rm K Q c_Frac_isLess_67 kc ks (l0 :: l1 :: l2 :: l3 :: some (.long x) :: l) (st) h = wps rm K Q c_Frac_isLess_69 kc ks (l0 :: l1 :: l2 :: l3 :: some (.long x) :: l) (.long x :: st) h := rfl
theorem s_Frac_isLess_69 {x : Int64} {l0 l1 l2 l3 l4 l5 l6 l7 l8 l9 l10 : Option Value} {l : eg_Lo} : wps rm K Q c_Frac_isLess_69 kc ks (l0 :: l1 :: l2 :: l3 :: l4 :: l5 :: l6 :: l7 :: l8 :: l9 :: l10 :: some (.long x) :: l) (st) h = wps rm K Q c_Frac_isLess_71 kc ks (l0 :: l1 :: l2 :: l3 :: l4 :: l5 :: l6 :: l7 :: l8 :: l9 :: l10 :: some (.long x) :: l) (.long x :: st) h := rfl
theorem s_Frac_isLess_71 {x : Int64} {l0 l1 l2 l3 l4 l5 : Option Value} {l : eg_Lo} : wps rm K Q c_Frac_isLess_71 kc ks (l0 :: l1 :: l2 :: l3 :: l4 :: l5 :: some (.long x) :: l) (st) h = wps rm K Q c_Frac_isLess_73 kc ks (l0 :: l1 :: l2 :: l3 :: l4 :: l5 :: some (.long x) :: l) (.long x :: st) h := rfl
theorem s_Frac_isLess_73 {x y : Int64} : wps rm K Q c_Frac_isLess_73 kc ks loc (.long y :: .long x :: st) h = wps rm K Q c_Frac_isLess_74 kc ks loc (.long (x * y) :: st) h := rfl
theorem s_Frac_isLess_74 {x y : Int64} : wps rm K Q c_Frac_isLess_74 kc ks loc (.long y :: .long x :: st) h = wps rm K Q c_Frac_isLess_75 kc ks loc (.long (x - y) :: st) h := rfl
theorem s_Frac_isLess_75 {x : Int64} : wps rm K Q c_Frac_isLess_75 kc ks loc (.long x :: st) h = wps rm K Q c_Frac_isLess_77 kc ks (eg_set2 loc 15 (.long x)) (st) h := rfl
theorem s_Frac_isLess_77 {x : Int64} {l0 l1 l2 l3 l4 l5 l6 l7 l8 l9 l10 l11 l12 : Option Value} {l : eg_Lo} : wps rm K Q c_Frac_isLess_77 kc ks (l0 :: l1 :: l2 :: l3 :: l4 :: l5 :: l6 :: l7 :: l8 :: l9 :: l10 :: l11 :: l12 :: some (.long x) :: l) (st) h = wps rm K Q c_Frac_isLess_79 kc ks (l0 :: l1 :: l2 :: l3 :: l4 :: l5 :: l6 :: l7 :: l8 :: l9 :: l10 :: l11 :: l12 :: some (.long x) :: l) (.long x :: st) h := rfl
theorem s_Frac_isLess_79  : wps rm K Q c_Frac_isLess_79 kc ks loc (st) h = wps rm K Q c_Frac_isLess_80 kc ks loc (.long (0) :: st) h := rfl
theorem s_Frac_isLess_80 {x y : Int64} : wps rm K Q c_Frac_isLess_80 kc ks loc (.long y :: .long x :: st) h = wps rm K Q c_Frac_isLess_81 kc ks loc (.int (lg_cmp x y) :: st) h := rfl
theorem s_Frac_isLess_81 {x : Int32} : wps rm K Q c_Frac_isLess_81 kc ks loc (.int x :: st) h = ((x = 0 → K 91 kc ks loc st h) ∧ (¬ x = 0 → wps rm K Q c_Frac_isLess_84 kc ks loc (st) h)) := rfl
theorem s_Frac_isLess_84 {x : Int64} {l0 l1 l2 l3 l4 l5 l6 l7 l8 l9 l10 l11 l12 l13 l14 : Option Value} {l : eg_Lo} : wps rm K Q c_Frac_isLess_84 kc ks (l0 :: l1 :: l2 :: l3 :: l4 :: l5 :: l6 :: l7 :: l8 :: l9 :: l10 :: l11 :: l12 :: l13 :: l14 :: some (.long x) :: l) (st) h = wps rm K Q c_Frac_isLess_86 kc ks (l0 :: l1 :: l2 :: l3 :: l4 :: l5 :: l6 :: l7 :: l8 :: l9 :: l10 :: l11 :: l12 :: l13 :: l14 :: some (.long x) :: l) (.long x :: st) h := rfl
theorem s_Frac_isLess_86  : wps rm K Q c_Frac_isLess_86 kc ks loc (st) h = wps rm K Q c_Frac_isLess_87 kc ks loc (.long (0) :: st) h := rfl
theorem s_Frac_isLess_87 {x y : Int64} : wps rm K Q c_Frac_isLess_87 kc ks loc (.long y :: .long x :: st) h = wps rm K Q c_Frac_isLess_88 kc ks loc (.int (lg_cmp x y) :: st) h := rfl
theorem s_Frac_isLess_88 {x : Int32} : wps rm K Q c_Frac_isLess_88 kc ks loc (.int x :: st) h = ((¬ x = 0 → K 105 kc ks loc st h) ∧ (x = 0 → wps rm K Q c_Frac_isLess_91 kc ks loc (st) h)) := rfl
theorem s_Frac_isLess_91 {x : Int64} {l0 l1 l2 l3 l4 l5 l6 l7 l8 l9 l10 l11 l12 : Option Value} {l : eg_Lo} : wps rm K Q c_Frac_isLess_91 kc ks (l0 :: l1 :: l2 :: l3 :: l4 :: l5 :: l6 :: l7 :: l8 :: l9 :: l10 :: l11 :: l12 :: some (.long x) :: l) (st) h = wps rm K Q c_Frac_isLess_93 kc ks (l0 :: l1 :: l2 :: l3 :: l4 :: l5 :: l6 :: l7 :: l8 :: l9 :: l10 :: l11 :: l12 :: some (.long x) :: l) (.long x :: st) h := rfl
theorem s_Frac_isLess_93 {x : Int64} {l0 l1 l2 l3 l4 l5 l6 l7 l8 l9 l10 l11 l12 l13 l14 : Option Value} {l : eg_Lo} : wps rm K Q c_Frac_isLess_93 kc ks (l0 :: l1 :: l2 :: l3 :: l4 :: l5 :: l6 :: l7 :: l8 :: l9 :: l10 :: l11 :: l12 :: l13 :: l14 :: some (.long x) :: l) (st) h = wps rm K Q c_Frac_isLess_95 kc ks (l0 :: l1 :: l2 :: l3 :: l4 :: l5 :: l6 :: l7 :: l8 :: l9 :: l10 :: l11 :: l12 :: l13 :: l14 :: some (.long x) :: l) (.long x :: st) h := rfl
theorem s_Frac_isLess_95 {x y : Int64} : wps rm K Q c_Frac_isLess_95 kc ks loc (.long y :: .long x :: st) h = wps rm K Q c_Frac_isLess_96 kc ks loc (.int (lg_cmp x y) :: st) h := rfl
theorem s_Frac_isLess_96 {x : Int32} : wps rm K Q c_Frac_isLess_96 kc ks loc (.int x :: st) h = ((0 ≤ x → K 103 kc ks loc st h) ∧ (¬ 0 ≤ x → wps rm K Q c_Frac_isLess_99 kc ks loc (st) h)) := rfl
theorem s_Frac_isLess_99  : wps rm K Q c_Frac_isLess_99 kc ks loc (st) h = wps rm K Q c_Frac_isLess_100 kc ks loc (.int (1) :: st) h := rfl
theorem s_Frac_isLess_100  : wps rm K Q c_Frac_isLess_100 kc ks loc (st) h = K 104 kc ks loc st h := rfl
theorem s_Frac_isLess_103  : wps rm K Q c_Frac_isLess_103 kc ks loc (st) h = wps rm K Q c_Frac_isLess_104 kc ks loc (.int (0) :: st) h := rfl
theorem s_Frac_isLess_104 {x : Int32} : wps rm K Q c_Frac_isLess_104 kc ks loc ([.int x]) h = (kc = rm.cells ∧ ((1 : Nat) = 1 → x = 0 ∨ x = 1) ∧ Q (some (.int x)) h) := rfl
theorem s_Frac_isLess_105 {x : Int64} {l0 l1 l2 l3 l4 l5 : Option Value} {l : eg_Lo} : wps rm K Q c_Frac_isLess_105 kc ks (l0 :: l1 :: l2 :: l3 :: l4 :: l5 :: some (.long x) :: l) (st) h = wps rm K Q c_Frac_isLess_107 kc ks (l0 :: l1 :: l2 :: l3 :: l4 :: l5 :: some (.long x) :: l) (.long x :: st) h := rfl
theorem s_Frac_isLess_107 {x : Int64} : wps rm K Q c_Frac_isLess_107 kc ks loc (.long x :: st) h = wps rm K Q c_Frac_isLess_108 kc ks (eg_set2 loc 0 (.long x)) (st) h := rfl
theorem s_Frac_isLess_108 {x : Int64} {l0 l1 : Option Value} {l : eg_Lo} : wps rm K Q c_Frac_isLess_108 kc ks (l0 :: l1 :: some (.long x) :: l) (st) h = wps rm K Q c_Frac_isLess_109 kc ks (l0 :: l1 :: some (.long x) :: l) (.long x :: st) h := rfl
theorem s_Frac_isLess_109 {x : Int64} : wps rm K Q c_Frac_isLess_109 kc ks loc (.long x :: st) h = wps rm K Q c_Frac_isLess_111 kc ks (eg_set2 loc 4 (.long x)) (st) h := rfl
theorem s_Frac_isLess_111 {x : Int64} {l0 l1 l2 l3 l4 l5 l6 l7 l8 l9 l10 l11 l12 l13 l14 : Option Value} {l : eg_Lo} : wps rm K Q c_Frac_isLess_111 kc ks (l0 :: l1 :: l2 :: l3 :: l4 :: l5 :: l6 :: l7 :: l8 :: l9 :: l10 :: l11 :: l12 :: l13 :: l14 :: some (.long x) :: l) (st) h = wps rm K Q c_Frac_isLess_113 kc ks (l0 :: l1 :: l2 :: l3 :: l4 :: l5 :: l6 :: l7 :: l8 :: l9 :: l10 :: l11 :: l12 :: l13 :: l14 :: some (.long x) :: l) (.long x :: st) h := rfl
theorem s_Frac_isLess_113 {x : Int64} : wps rm K Q c_Frac_isLess_113 kc ks loc (.long x :: st) h = wps rm K Q c_Frac_isLess_114 kc ks (eg_set2 loc 2 (.long x)) (st) h := rfl
theorem s_Frac_isLess_114 {x : Int64} {l0 l1 l2 l3 l4 l5 l6 l7 l8 l9 l10 l11 l12 : Option Value} {l : eg_Lo} : wps rm K Q c_Frac_isLess_114 kc ks (l0 :: l1 :: l2 :: l3 :: l4 :: l5 :: l6 :: l7 :: l8 :: l9 :: l10 :: l11 :: l12 :: some (.long x) :: l) (st) h = wps rm K Q c_Frac_isLess_116 kc ks (l0 :: l1 :: l2 :: l3 :: l4 :: l5 :: l6 :: l7 :: l8 :: l9 :: l10 :: l11 :: l12 :: some (.long x) :: l) (.long x :: st) h := rfl
theorem s_Frac_isLess_116 {x : Int64} : wps rm K Q c_Frac_isLess_116 kc ks loc (.long x :: st) h = wps rm K Q c_Frac_isLess_118 kc ks (eg_set2 loc 6 (.long x)) (st) h := rfl
theorem s_Frac_isLess_118 {x : Int32} {l0 l1 l2 l3 l4 l5 l6 l7 : Option Value} {l9 : eg_Lo} : wps rm K Q c_Frac_isLess_118 kc ks (l0 :: l1 :: l2 :: l3 :: l4 :: l5 :: l6 :: l7 :: some (.int x) :: l9) (st) h = wps rm K Q c_Frac_isLess_121 kc ks (eg_set1 (l0 :: l1 :: l2 :: l3 :: l4 :: l5 :: l6 :: l7 :: some (.int x) :: l9) 8 (.int (x + (1)))) (st) h := rfl
theorem s_Frac_isLess_121  : wps rm K Q c_Frac_isLess_121 kc ks loc (st) h = K 3 kc ks loc st h := rfl
theorem s_Frac_isLess_124  : wps rm K Q c_Frac_isLess_124 kc ks loc (st) h = wps rm K Q c_Frac_isLess_125 kc ks loc (.int (0) :: st) h := rfl
theorem s_Frac_isLess_125 {x : Int32} : wps rm K Q c_Frac_isLess_125 kc ks loc ([.int x]) h = (kc = rm.cells ∧ ((1 : Nat) = 1 → x = 0 ∨ x = 1) ∧ Q (some (.int x)) h) := rfl
def T_Frac_isLess : List (Nat × List eg_I) := [(23, c_Frac_isLess_23), (25, c_Frac_isLess_25), (57, c_Frac_isLess_57), (58, c_Frac_isLess_58), (59, c_Frac_isLess_59), (91, c_Frac_isLess_91), (103, c_Frac_isLess_103), (104, c_Frac_isLess_104), (105, c_Frac_isLess_105), (124, c_Frac_isLess_124)]
theorem j_Frac_isLess_23 {R : Nat → Nat → Nat → eg_Lo → List Value → List eg_E → Prop} {f pc0 : Nat} : eg_run rm R Q T_Frac_isLess (f + 1) 23 kc ks loc st h = wps rm (eg_run rm R Q T_Frac_isLess f) Q c_Frac_isLess_23 kc ks loc st h := rfl
theorem j_Frac_isLess_25 {R : Nat → Nat → Nat → eg_Lo → List Value → List eg_E → Prop} {f pc0 : Nat} : eg_run rm R Q T_Frac_isLess (f + 1) 25 kc ks loc st h = wps rm (eg_run rm R Q T_Frac_isLess f) Q c_Frac_isLess_25 kc ks loc st h := rfl
theorem j_Frac_isLess_57 {R : Nat → Nat → Nat → eg_Lo → List Value → List eg_E → Prop} {f pc0 : Nat} : eg_run rm R Q T_Frac_isLess (f + 1) 57 kc ks loc st h = wps rm (eg_run rm R Q T_Frac_isLess f) Q c_Frac_isLess_57 kc ks loc st h := rfl
theorem j_Frac_isLess_58 {R : Nat → Nat → Nat → eg_Lo → List Value → List eg_E → Prop} {f pc0 : Nat} : eg_run rm R Q T_Frac_isLess (f + 1) 58 kc ks loc st h = wps rm (eg_run rm R Q T_Frac_isLess f) Q c_Frac_isLess_58 kc ks loc st h := rfl
theorem j_Frac_isLess_59 {R : Nat → Nat → Nat → eg_Lo → List Value → List eg_E → Prop} {f pc0 : Nat} : eg_run rm R Q T_Frac_isLess (f + 1) 59 kc ks loc st h = wps rm (eg_run rm R Q T_Frac_isLess f) Q c_Frac_isLess_59 kc ks loc st h := rfl
theorem j_Frac_isLess_91 {R : Nat → Nat → Nat → eg_Lo → List Value → List eg_E → Prop} {f pc0 : Nat} : eg_run rm R Q T_Frac_isLess (f + 1) 91 kc ks loc st h = wps rm (eg_run rm R Q T_Frac_isLess f) Q c_Frac_isLess_91 kc ks loc st h := rfl
theorem j_Frac_isLess_103 {R : Nat → Nat → Nat → eg_Lo → List Value → List eg_E → Prop} {f pc0 : Nat} : eg_run rm R Q T_Frac_isLess (f + 1) 103 kc ks loc st h = wps rm (eg_run rm R Q T_Frac_isLess f) Q c_Frac_isLess_103 kc ks loc st h := rfl
theorem j_Frac_isLess_104 {R : Nat → Nat → Nat → eg_Lo → List Value → List eg_E → Prop} {f pc0 : Nat} : eg_run rm R Q T_Frac_isLess (f + 1) 104 kc ks loc st h = wps rm (eg_run rm R Q T_Frac_isLess f) Q c_Frac_isLess_104 kc ks loc st h := rfl
theorem j_Frac_isLess_105 {R : Nat → Nat → Nat → eg_Lo → List Value → List eg_E → Prop} {f pc0 : Nat} : eg_run rm R Q T_Frac_isLess (f + 1) 105 kc ks loc st h = wps rm (eg_run rm R Q T_Frac_isLess f) Q c_Frac_isLess_105 kc ks loc st h := rfl
theorem j_Frac_isLess_124 {R : Nat → Nat → Nat → eg_Lo → List Value → List eg_E → Prop} {f pc0 : Nat} : eg_run rm R Q T_Frac_isLess (f + 1) 124 kc ks loc st h = wps rm (eg_run rm R Q T_Frac_isLess f) Q c_Frac_isLess_124 kc ks loc st h := rfl
theorem j_Frac_isLess_3 {R : Nat → Nat → Nat → eg_Lo → List Value → List eg_E → Prop} {f pc0 : Nat} : eg_run rm R Q T_Frac_isLess (f + 1) 3 kc ks loc st h = R 3 kc ks loc st h := rfl
end
theorem q_Frac_isLess : (T_Frac_isLess.all fun q => eg_seq m_Frac_isLess q.1 q.2) = true := by decide +kernel
theorem b_Frac_isLess {as : List Value} {h : List eg_E} {Q : Option Value → List eg_E → Prop} (hf : (eg_fl as).length ≤ 17) (hw : wps (eg_rm m_Frac_isLess) (eg_run (eg_rm m_Frac_isLess) (eg_R m_Frac_isLess Q (h.length + 0)) Q T_Frac_isLess 12) Q c_Frac_isLess_0 0 0 (eg_entry 17 as) [] h) : eg_Runs n_Frac_isLess as h Q := eg_begin (d := m_Frac_isLess) rfl (by decide) (by decide +kernel) q_Frac_isLess hf hw
theorem p_Frac_isLess_3 {Q : Option Value → List eg_E → Prop} {n0 kc ks : Nat} {loc : eg_Lo} {st : List Value} {h : List eg_E} (hw : wps (eg_rm m_Frac_isLess) (eg_run (eg_rm m_Frac_isLess) (eg_R m_Frac_isLess Q n0) Q T_Frac_isLess 12) Q c_Frac_isLess_3 kc ks loc st h) : eg_R m_Frac_isLess Q n0 3 kc ks loc st h := eg_go (by decide +kernel) q_Frac_isLess hw
/-! ===== Frac_lower ===== -/
def c_Frac_lower_65 : List eg_I := .inl (65, 1, .return_, 0, 0) :: []
def c_Frac_lower_62 : List eg_I := .inl (62, 3, .goto (-19), 43, 0) :: []
def c_Frac_lower_59 : List eg_I := .inl (59, 3, .iinc 4 (1), 0, 0) :: c_Frac_lower_62
def c_Frac_lower_58 : List eg_I := .inl (58, 1, .lastore, 0, 0) :: c_Frac_lower_59
def c_Frac_lower_57 : List eg_I := .inl (57, 1, .ldiv, 0, 0) :: c_Frac_lower_58
def c_Frac_lower_56 : List eg_I := .inl (56, 1, .lload 2, 0, 0) :: c_Frac_lower_57
def c_Frac_lower_55 : List eg_I := .inl (55, 1, .laload, 0, 0) :: c_Frac_lower_56
def c_Frac_lower_54 : List eg_I := .inl (54, 1, .dup2, 0, 0) :: c_Frac_lower_55
def c_Frac_lower_52 : List eg_I := .inl (52, 2, .iload 4, 0, 0) :: c_Frac_lower_54
def c_Frac_lower_51 : List eg_I := .inl (51, 1, .aload 0, 0, 0) :: c_Frac_lower_52
def c_Frac_lower_48 : List eg_I := .inl (48, 3, .if_icmp .ge (17), 65, 0) :: c_Frac_lower_51
def c_Frac_lower_47 : List eg_I := .inl (47, 1, .iadd, 0, 0) :: c_Frac_lower_48
def c_Frac_lower_46 : List eg_I := .inl (46, 1, .iconst (3), 0, 0) :: c_Frac_lower_47
def c_Frac_lower_45 : List eg_I := .inl (45, 1, .iload 1, 0, 0) :: c_Frac_lower_46
def c_Frac_lower_43 : List eg_I := .inl (43, 2, .iload 4, 0, 0) :: c_Frac_lower_45
def c_Frac_lower_41 : List eg_I := .inl (41, 2, .istore 4, 0, 0) :: [.inl (43, 0, .nop, 0, 0)]
def c_Frac_lower_40 : List eg_I := .inl (40, 1, .iload 1, 0, 0) :: c_Frac_lower_41
def c_Frac_lower_39 : List eg_I := .inl (39, 1, .return_, 0, 0) :: []
def c_Frac_lower_36 : List eg_I := .inl (36, 3, .ifCond .ne (4), 40, 0) :: c_Frac_lower_39
def c_Frac_lower_35 : List eg_I := .inl (35, 1, .lcmp, 0, 0) :: c_Frac_lower_36
def c_Frac_lower_34 : List eg_I := .inl (34, 1, .sipush (0), 0, 0) :: c_Frac_lower_35
def c_Frac_lower_33 : List eg_I := .inl (33, 1, .lload 2, 0, 0) :: c_Frac_lower_34
def c_Frac_lower_32 : List eg_I := .inl (32, 1, .lstore 2, 0, 0) :: c_Frac_lower_33
def c_Frac_lower_29 : List eg_I := .inr (29, 0, 13, n_Frac_commonMeasure, 2, 4, 0, 0) :: c_Frac_lower_32
def c_Frac_lower_28 : List eg_I := .inl (28, 1, .laload, 0, 0) :: c_Frac_lower_29
def c_Frac_lower_27 : List eg_I := .inl (27, 1, .iadd, 0, 0) :: c_Frac_lower_28
def c_Frac_lower_26 : List eg_I := .inl (26, 1, .iconst (2), 0, 0) :: c_Frac_lower_27
def c_Frac_lower_25 : List eg_I := .inl (25, 1, .iload 1, 0, 0) :: c_Frac_lower_26
def c_Frac_lower_24 : List eg_I := .inl (24, 1, .aload 0, 0, 0) :: c_Frac_lower_25
def c_Frac_lower_21 : List eg_I := .inr (21, 0, 13, n_Frac_commonMeasure, 2, 4, 0, 0) :: c_Frac_lower_24
def c_Frac_lower_20 : List eg_I := .inl (20, 1, .laload, 0, 0) :: c_Frac_lower_21
def c_Frac_lower_19 : List eg_I := .inl (19, 1, .iadd, 0, 0) :: c_Frac_lower_20
def c_Frac_lower_18 : List eg_I := .inl (18, 1, .iconst (1), 0, 0) :: c_Frac_lower_19
def c_Frac_lower_17 : List eg_I := .inl (17, 1, .iload 1, 0, 0) :: c_Frac_lower_18
def c_Frac_lower_16 : List eg_I := .inl (16, 1, .aload 0, 0, 0) :: c_Frac_lower_17
def c_Frac_lower_15 : List eg_I := .inl (15, 1, .laload, 0, 0) :: c_Frac_lower_16
def c_Frac_lower_14 : List eg_I := .inl (14, 1, .iload 1, 0, 0) :: c_Frac_lower_15
def c_Frac_lower_13 : List eg_I := .inl (13, 1, .aload 0, 0, 0) :: c_Frac_lower_14
def c_Frac_lower_12 : List eg_I := .inl (12, 1, .return_, 0, 0) :: []
def c_Frac_lower_9 : List eg_I := .inl (9, 3, .if_icmp .le (4), 13, 0) :: c_Frac_lower_12
def c_Frac_lower_8 : List eg_I := .inl (8, 1, .isub, 0, 0) :: c_Frac_lower_9
def c_Frac_lower_7 : List eg_I := .inl (7, 1, .iconst (3), 0, 0) :: c_Frac_lower_8
def c_Frac_lower_6 : List eg_I := .inl (6, 1, .arraylength, 0, 0) :: c_Frac_lower_7
def c_Frac_lower_5 : List eg_I := .inl (5, 1, .aload 0, 0, 0) :: c_Frac_lower_6
def c_Frac_lower_4 : List eg_I := .inl (4, 1, .iload 1, 0, 0) :: c_Frac_lower_5
def c_Frac_lower_1 : List eg_I := .inl (1, 3, .ifCond .lt (11), 12, 0) :: c_Frac_lower_4
def c_Frac_lower_0 : List eg_I := .inl (0, 1, .iload 1, 0, 0) :: c_Frac_lower_1
section
variable {rm : Room} {K : Nat → Nat → Nat → eg_Lo → List Value → List eg_E → Prop} {Q : Option Value → List eg_E → Prop} {kc ks : Nat} {loc : eg_Lo} {st : List Value} {h : List eg_E}
theorem s_Frac_lower_0 {x : Int32} {l0 : Option Value} {l : eg_Lo} : wps rm K Q c_Frac_lower_0 kc ks (l0 :: some (.int x) :: l) (st) h = wps rm K Q c_Frac_lower_1 kc ks (l0 :: some (.int x) :: l) (.int x :: st) h := rfl
theorem s_Frac_lower_1 {x : Int32} : wps rm K Q c_Frac_lower_1 kc ks loc (.int x :: st) h = ((x < 0 → K 12 kc ks loc st h) ∧ (¬ x < 0 → wps rm K Q c_Frac_lower_4 kc ks loc (st) h)) := rfl
theorem s_Frac_lower_4 {x : Int32} {l0 : Option Value} {l : eg_Lo} : wps rm K Q c_Frac_lower_4 kc ks (l0 :: some (.int x) :: l) (st) h = wps rm K Q c_Frac_lower_5 kc ks (l0 :: some (.int x) :: l) (.int x :: st) h := rfl
theorem s_Frac_lower_5 {x : Nat} {l : eg_Lo} : wps rm K Q c_Frac_lower_5 kc ks (some (.ref x) :: l) (st) h = wps rm K Q c_Frac_lower_6 kc ks (some (.ref x) :: l) (.ref x :: st) h := rfl
theorem s_Frac_lower_6 {x : Nat} : wps rm K Q c_Frac_lower_6 kc ks loc (.ref (x + 1) :: st) h = eg_al h x (fun v => wps rm K Q c_Frac_lower_7 kc ks loc (.int v :: st) h) := rfl
theorem s_Frac_lower_7  : wps rm K Q c_Frac_lower_7 kc ks loc (st) h = wps rm K Q c_Frac_lower_8 kc ks loc (.int (3) :: st) h := rfl
theorem s_Frac_lower_8 {x y : Int32} : wps rm K Q c_Frac_lower_8 kc ks loc (.int y :: .int x :: st) h = wps rm K Q c_Frac_lower_9 kc ks loc (.int (x - y) :: st) h := rfl
theorem s_Frac_lower_9 {x y : Int32} : wps rm K Q c_Frac_lower_9 kc ks loc (.int y :: .int x :: st) h = ((x ≤ y → K 13 kc ks loc st h) ∧ (¬ x ≤ y → wps rm K Q c_Frac_lower_12 kc ks loc (st) h)) := rfl
theorem s_Frac_lower_12  : wps rm K Q c_Frac_lower_12 kc ks loc ([]) h = (kc = rm.cells ∧ Q none h) := rfl
theorem s_Frac_lower_13 {x : Nat} {l : eg_Lo} : wps rm K Q c_Frac_lower_13 kc ks (some (.ref x) :: l) (st) h = wps rm K Q c_Frac_lower_14 kc ks (some (.ref x) :: l) (.ref x :: st) h := rfl
theorem s_Frac_lower_14 {x : Int32} {l0 : Option Value} {l : eg_Lo} : wps rm K Q c_Frac_lower_14 kc ks (l0 :: some (.int x) :: l) (st) h = wps rm K Q c_Frac_lower_15 kc ks (l0 :: some (.int x) :: l) (.int x :: st) h := rfl
theorem s_Frac_lower_15 {x : Nat} {i : Int32} : wps rm K Q c_Frac_lower_15 kc ks loc (.int i :: .ref (x + 1) :: st) h = eg_la h x i (fun v => wps rm K Q c_Frac_lower_16 kc ks loc (.long v :: st) h) := rfl
theorem s_Frac_lower_16 {x : Nat} {l : eg_Lo} : wps rm K Q c_Frac_lower_16 kc ks (some (.ref x) :: l) (st) h = wps rm K Q c_Frac_lower_17 kc ks (some (.ref x) :: l) (.ref x :: st) h := rfl
theorem s_Frac_lower_17 {x : Int32} {l0 : Option Value} {l : eg_Lo} : wps rm K Q c_Frac_lower_17 kc ks (l0 :: some (.int x) :: l) (st) h = wps rm K Q c_Frac_lower_18 kc ks (l0 :: some (.int x) :: l) (.int x :: st) h := rfl
theorem s_Frac_lower_18  : wps rm K Q c_Frac_lower_18 kc ks loc (st) h = wps rm K Q c_Frac_lower_19 kc ks loc (.int (1) :: st) h := rfl
theorem s_Frac_lower_19 {x y : Int32} : wps rm K Q c_Frac_lower_19 kc ks loc (.int y :: .int x :: st) h = wps rm K Q c_Frac_lower_20 kc ks loc (.int (x + y) :: st) h := rfl
theorem s_Frac_lower_20 {x : Nat} {i : Int32} : wps rm K Q c_Frac_lower_20 kc ks loc (.int i :: .ref (x + 1) :: st) h = eg_la h x i (fun v => wps rm K Q c_Frac_lower_21 kc ks loc (.long v :: st) h) := rfl
theorem s_Frac_lower_21  {a1 : Value} {a2 : Value} : wps rm K Q c_Frac_lower_21 kc ks loc (a2 :: a1 :: st) h = (st.length ≤ 4 ∧ eg_Cs n_Frac_commonMeasure [a1, a2] h (fun v h9 => wps rm K Q c_Frac_lower_24 kc ks loc (v.toList ++ st) h9)) := eg_c0_2
theorem s_Frac_lower_24 {x : Nat} {l : eg_Lo} : wps rm K Q c_Frac_lower_24 kc ks (some (.ref x) :: l) (st) h = wps rm K Q c_Frac_lower_25 kc ks (some (.ref x) :: l) (.ref x :: st) h := rfl
theorem s_Frac_lower_25 {x : Int32} {l0 : Option Value} {l : eg_Lo} : wps rm K Q c_Frac_lower_25 kc ks (l0 :: some (.int x) :: l) (st) h = wps rm K Q c_Frac_lower_26 kc ks (l0 :: some (.int x) :: l) (.int x :: st) h := rfl
theorem s_Frac_lower_26  : wps rm K Q c_Frac_lower_26 kc ks loc (st) h = wps rm K Q c_Frac_lower_27 kc ks loc (.int (2) :: st) h := rfl
theorem s_Frac_lower_27 {x y : Int32} : wps rm K Q c_Frac_lower_27 kc ks loc (.int y :: .int x :: st) h = wps rm K Q c_Frac_lower_28 kc ks loc (.int (x + y) :: st) h := rfl
theorem s_Frac_lower_28 {x : Nat} {i : Int32} : wps rm K Q c_Frac_lower_28 kc ks loc (.int i :: .ref (x + 1) :: st) h = eg_la h x i (fun v => wps rm K Q c_Frac_lower_29 kc ks loc (.long v :: st) h) := rfl
theorem s_Frac_lower_29  {a1 : Value} {a2 : Value} : wps rm K Q c_Frac_lower_29 kc ks loc (a2 :: a1 :: st) h = (st.length ≤ 4 ∧ eg_Cs n_Frac_commonMeasure [a1, a2] h (fun v h9 => wps rm K Q c_Frac_lower_32 kc ks loc (v.toList ++ st) h9)) := eg_c0_2
theorem s_Frac_lower_32 {x : Int64} : wps rm K Q c_Frac_lower_32 kc ks loc (.long x :: st) h = wps rm K Q c_Frac_lower_33 kc ks (eg_set2 loc 2 (.long x)) (st) h := rfl
theorem s_Frac_lower_33 {x : Int64} {l0 l1 : Option Value} {l : eg_Lo} : wps rm K Q c_Frac_lower_33 kc ks (l0 :: l1 :: some (.long x) :: l) (st) h = wps rm K Q c_Frac_lower_34 kc ks (l0 :: l1 :: some (.long x) :: l) (.long x :: st) h := rfl
theorem s_Frac_lower_34  : wps rm K Q c_Frac_lower_34 kc ks loc (st) h = wps rm K Q c_Frac_lower_35 kc ks loc (.long (0) :: st) h := rfl
theorem s_Frac_lower_35 {x y : Int64} : wps rm K Q c_Frac_lower_35 kc ks loc (.long y :: .long x :: st) h = wps rm K Q c_Frac_lower_36 kc ks loc (.int (lg_cmp x y) :: st) h := rfl
theorem s_Frac_lower_36 {x : Int32} : wps rm K Q c_Frac_lower_36 kc ks loc (.int x :: st) h = ((¬ x = 0 → K 40 kc ks loc st h) ∧ (x = 0 → wps rm K Q c_Frac_lower_39 kc ks loc (st) h)) := rfl
theorem s_Frac_lower_39  : wps rm K Q c_Frac_lower_39 kc ks loc ([]) h = (kc = rm.cells ∧ Q none h) := rfl
theorem s_Frac_lower_40 {x : Int32} {l0 : Option Value} {l : eg_Lo} : wps rm K Q c_Frac_lower_40 kc ks (l0 :: some (.int x) :: l) (st) h = wps rm K Q c_Frac_lower_41 kc ks (l0 :: some (.int x) :: l) (.int x :: st) h := rfl
theorem s_Frac_lower_41 {x : Int32} : wps rm K Q c_Frac_lower_41 kc ks loc (.int x :: st) h = K 43 kc ks (eg_set1 loc 4 (.int x)) (st) h := rfl
theorem s_Frac_lower_43 {x : Int32} {l0 l1 l2 l3 : Option Value} {l : eg_Lo} : wps rm K Q c_Frac_lower_43 kc ks (l0 :: l1 :: l2 :: l3 :: some (.int x) :: l) (st) h = wps rm K Q c_Frac_lower_45 kc ks (l0 :: l1 :: l2 :: l3 :: some (.int x) :: l) (.int x :: st) h := rfl
theorem s_Frac_lower_45 {x : Int32} {l0 : Option Value} {l : eg_Lo} : wps rm K Q c_Frac_lower_45 kc ks (l0 :: some (.int x) :: l) (st) h = wps rm K Q c_Frac_lower_46 kc ks (l0 :: some (.int x) :: l) (.int x :: st) h := rfl
theorem s_Frac_lower_46  : wps rm K Q c_Frac_lower_46 kc ks loc (st) h = wps rm K Q c_Frac_lower_47 kc ks loc (.int (3) :: st) h := rfl
theorem s_Frac_lower_47 {x y : Int32} : wps rm K Q c_Frac_lower_47 kc ks loc (.int y :: .int x :: st) h = wps rm K Q c_Frac_lower_48 kc ks loc (.int (x + y) :: st) h := rfl
theorem s_Frac_lower_48 {x y : Int32} : wps rm K Q c_Frac_lower_48 kc ks loc (.int y :: .int x :: st) h = ((y ≤ x → K 65 kc ks loc st h) ∧ (¬ y ≤ x → wps rm K Q c_Frac_lower_51 kc ks loc (st) h)) := rfl
theorem s_Frac_lower_51 {x : Nat} {l : eg_Lo} : wps rm K Q c_Frac_lower_51 kc ks (some (.ref x) :: l) (st) h = wps rm K Q c_Frac_lower_52 kc ks (some (.ref x) :: l) (.ref x :: st) h := rfl
theorem s_Frac_lower_52 {x : Int32} {l0 l1 l2 l3 : Option Value} {l : eg_Lo} : wps rm K Q c_Frac_lower_52 kc ks (l0 :: l1 :: l2 :: l3 :: some (.int x) :: l) (st) h = wps rm K Q c_Frac_lower_54 kc ks (l0 :: l1 :: l2 :: l3 :: some (.int x) :: l) (.int x :: st) h := rfl
theorem s_Frac_lower_54 {y : Int32} {x : Nat} : wps rm K Q c_Frac_lower_54 kc ks loc (.int y :: .ref x :: st) h = wps rm K Q c_Frac_lower_55 kc ks loc (.int y :: .ref x :: .int y :: .ref x :: st) h := rfl
theorem s_Frac_lower_55 {x : Nat} {i : Int32} : wps rm K Q c_Frac_lower_55 kc ks loc (.int i :: .ref (x + 1) :: st) h = eg_la h x i (fun v => wps rm K Q c_Frac_lower_56 kc ks loc (.long v :: st) h) := rfl
theorem s_Frac_lower_56 {x : Int64} {l0 l1 : Option Value} {l : eg_Lo} : wps rm K Q c_Frac_lower_56 kc ks (l0 :: l1 :: some (.long x) :: l) (st) h = wps rm K Q c_Frac_lower_57 kc ks (l0 :: l1 :: some (.long x) :: l) (.long x :: st) h := rfl
theorem s_Frac_lower_57 {x y : Int64} : wps rm K Q c_Frac_lower_57 kc ks loc (.long y :: .long x :: st) h = (¬ y = 0 ∧ wps rm K Q c_Frac_lower_58 kc ks loc (.long (x / y) :: st) h) := rfl
theorem s_Frac_lower_58 {x : Nat} {i : Int32} {v : Int64} : wps rm K Q c_Frac_lower_58 kc ks loc (.long v :: .int i :: .ref (x + 1) :: st) h = eg_lst h x i v (fun h9 => wps rm K Q c_Frac_lower_59 kc ks loc (st) h9) := rfl
theorem s_Frac_lower_59 {x : Int32} {l0 l1 l2 l3 : Option Value} {l9 : eg_Lo} : wps rm K Q c_Frac_lower_59 kc ks (l0 :: l1 :: l2 :: l3 :: some (.int x) :: l9) (st) h = wps rm K Q c_Frac_lower_62 kc ks (eg_set1 (l0 :: l1 :: l2 :: l3 :: some (.int x) :: l9) 4 (.int (x + (1)))) (st) h := rfl
theorem s_Frac_lower_62  : wps rm K Q c_Frac_lower_62 kc ks loc (st) h = K 43 kc ks loc st h := rfl
theorem s_Frac_lower_65  : wps rm K Q c_Frac_lower_65 kc ks loc ([]) h = (kc = rm.cells ∧ Q none h) := rfl
def T_Frac_lower : List (Nat × List eg_I) := [(12, c_Frac_lower_12), (13, c_Frac_lower_13), (40, c_Frac_lower_40), (65, c_Frac_lower_65)]
theorem j_Frac_lower_12 {R : Nat → Nat → Nat → eg_Lo → List Value → List eg_E → Prop} {f pc0 : Nat} : eg_run rm R Q T_Frac_lower (f + 1) 12 kc ks loc st h = wps rm (eg_run rm R Q T_Frac_lower f) Q c_Frac_lower_12 kc ks loc st h := rfl
theorem j_Frac_lower_13 {R : Nat → Nat → Nat → eg_Lo → List Value → List eg_E → Prop} {f pc0 : Nat} : eg_run rm R Q T_Frac_lower (f + 1) 13 kc ks loc st h = wps rm (eg_run rm R Q T_Frac_lower f) Q c_Frac_lower_13 kc ks loc st h := rfl
theorem j_Frac_lower_40 {R : Nat → Nat → Nat → eg_Lo → List Value → List eg_E → Prop} {f pc0 : Nat} : eg_run rm R Q T_Frac_lower (f + 1) 40 kc ks loc st h = wps rm (eg_run rm R Q T_Frac_lower f) Q c_Frac_lower_40 kc ks loc st h := rfl
theorem j_Frac_lower_65 {R : Nat → Nat → Nat → eg_Lo → List Value → List eg_E → Prop} {f pc0 : Nat} : eg_run rm R Q T_Frac_lower (f + 1) 65 kc ks loc st h = wps rm (eg_run rm R Q T_Frac_lower f) Q c_Frac_lower_65 kc ks loc st h := rfl
theorem j_Frac_lower_43 {R : Nat → Nat → Nat → eg_Lo → List Value → List eg_E → Prop} {f pc0 : Nat} : eg_run rm R Q T_Frac_lower (f + 1) 43 kc ks loc st h = R 43 kc ks loc st h := rfl
end
theorem q_Frac_lower : (T_Frac_lower.all fun q => eg_seq m_Frac_lower q.1 q.2) = true := by decide +kernel
theorem b_Frac_lower {as : List Value} {h : List eg_E} {Q : Option Value → List eg_E → Prop} (hf : (eg_fl as).length ≤ 5) (hw : wps (eg_rm m_Frac_lower) (eg_run (eg_rm m_Frac_lower) (eg_R m_Frac_lower Q (h.length + 0)) Q T_Frac_lower 6) Q c_Frac_lower_0 0 0 (eg_entry 5 as) [] h) : eg_Runs n_Frac_lower as h Q := eg_begin (d := m_Frac_lower) rfl (by decide) (by decide +kernel) q_Frac_lower hf hw
theorem p_Frac_lower_43 {Q : Option Value → List eg_E → Prop} {n0 kc ks : Nat} {loc : eg_Lo} {st : List Value} {h : List eg_E} (hw : wps (eg_rm m_Frac_lower) (eg_run (eg_rm m_Frac_lower) (eg_R m_Frac_lower Q n0) Q T_Frac_lower 6) Q c_Frac_lower_43 kc ks loc st h) : eg_R m_Frac_lower Q n0 43 kc ks loc st h := eg_go (by decide +kernel) q_Frac_lower hw
/-! ===== Frame_init ===== -/
def c_Frame_init_12 : List eg_I := .inl (12, 1, .return_, 0, 0) :: []
def c_Frame_init_9 : List eg_I := .inl (9, 3, .putfield 7, 5, 0) :: c_Frame_init_12
def c_Frame_init_7 : List eg_I := .inl (7, 2, .newarray .long, 1, 0) :: c_Frame_init_9
def c_Frame_init_5 : List eg_I := .inl (5, 2, .iconst (9), 0, 0) :: c_Frame_init_7
def c_Frame_init_4 : List eg_I := .inl (4, 1, .aload 0, 0, 0) :: c_Frame_init_5
def c_Frame_init_1 : List eg_I := .inl (1, 3, .athrow, 1, 0) :: c_Frame_init_4
def c_Frame_init_0 : List eg_I := .inl (0, 1, .aload 0, 0, 0) :: c_Frame_init_1
section
variable {rm : Room} {K : Nat → Nat → Nat → eg_Lo → List Value → List eg_E → Prop} {Q : Option Value → List eg_E → Prop} {kc ks : Nat} {loc : eg_Lo} {st : List Value} {h : List eg_E}
theorem s_Frame_init_0 {x : Nat} {l : eg_Lo} : wps rm K Q c_Frame_init_0 kc ks (some (.ref x) :: l) (st) h = wps rm K Q c_Frame_init_1 kc ks (some (.ref x) :: l) (.ref x :: st) h := rfl
theorem s_Frame_init_1 {x : Nat} : wps rm K Q c_Frame_init_1 kc ks loc (.ref (x + 1) :: st) h = (st.length ≤ 4 ∧ wps rm K Q c_Frame_init_4 kc ks loc (st) h) := rfl
theorem s_Frame_init_4 {x : Nat} {l : eg_Lo} : wps rm K Q c_Frame_init_4 kc ks (some (.ref x) :: l) (st) h = wps rm K Q c_Frame_init_5 kc ks (some (.ref x) :: l) (.ref x :: st) h := rfl
theorem s_Frame_init_5  : wps rm K Q c_Frame_init_5 kc ks loc (st) h = wps rm K Q c_Frame_init_7 kc ks loc (.int (9) :: st) h := rfl
theorem s_Frame_init_7 {x : Int32} : wps rm K Q c_Frame_init_7 kc ks loc (.int x :: st) h = (¬ x < 0 ∧ x.toNatClampNeg ≤ 1000 ∧ kc + 1 ≤ rm.cells ∧ ks + x.toNatClampNeg ≤ rm.slots ∧ wps rm K Q c_Frame_init_9 (kc + 1) (ks + x.toNatClampNeg) loc (.ref (h.length + 1) :: st) (h ++ [.inl (1, eg_zero 1 x.toNatClampNeg)])) := rfl
theorem s_Frame_init_9 {x : Nat} {v : Value} : wps rm K Q c_Frame_init_9 kc ks loc (v :: .ref (x + 1) :: st) h = eg_pf h x 5 0 v (fun h9 => wps rm K Q c_Frame_init_12 kc ks loc (st) h9) := rfl
theorem s_Frame_init_12  : wps rm K Q c_Frame_init_12 kc ks loc ([]) h = (kc = rm.cells ∧ Q none h) := rfl
def T_Frame_init : List (Nat × List eg_I) := []
end
theorem q_Frame_init : (T_Frame_init.all fun q => eg_seq m_Frame_init q.1 q.2) = true := by decide +kernel
theorem b_Frame_init {as : List Value} {h : List eg_E} {Q : Option Value → List eg_E → Prop} (hf : (eg_fl as).length ≤ 1) (hw : wps (eg_rm m_Frame_init) (eg_run (eg_rm m_Frame_init) (eg_R m_Frame_init Q (h.length + 1)) Q T_Frame_init 2) Q c_Frame_init_0 0 0 (eg_entry 1 as) [] h) : eg_Runs n_Frame_init as h Q := eg_begin (d := m_Frame_init) rfl (by decide) (by decide +kernel) q_Frame_init hf hw
/-! ===== Frame_layWays ===== -/
def c_Frame_layWays_186 : List eg_I := .inl (186, 1, .ireturn, 0, 1) :: []
def c_Frame_layWays_185 : List eg_I := .inl (185, 1, .iconst (1), 0, 0) :: c_Frame_layWays_186
def c_Frame_layWays_182 : List eg_I := .inr (182, 1, 13, n_Frame_setWay, 4, 5, 0, 0) :: c_Frame_layWays_185
def c_Frame_layWays_180 : List eg_I := .inl (180, 2, .lload 9, 0, 0) :: c_Frame_layWays_182
def c_Frame_layWays_178 : List eg_I := .inl (178, 2, .lload 7, 0, 0) :: c_Frame_layWays_180
def c_Frame_layWays_176 : List eg_I := .inl (176, 2, .lload 5, 0, 0) :: c_Frame_layWays_178
def c_Frame_layWays_175 : List eg_I := .inl (175, 1, .iconst (2), 0, 0) :: c_Frame_layWays_176
def c_Frame_layWays_174 : List eg_I := .inl (174, 1, .aload 0, 0, 0) :: c_Frame_layWays_175
def c_Frame_layWays_171 : List eg_I := .inr (171, 1, 13, n_Frame_setWay, 4, 5, 0, 0) :: c_Frame_layWays_174
def c_Frame_layWays_170 : List eg_I := .inl (170, 1, .lsub, 0, 0) :: c_Frame_layWays_171
def c_Frame_layWays_169 : List eg_I := .inl (169, 1, .lmul, 0, 0) :: c_Frame_layWays_170
def c_Frame_layWays_167 : List eg_I := .inl (167, 2, .lload 13, 0, 0) :: c_Frame_layWays_169
def c_Frame_layWays_166 : List eg_I := .inl (166, 1, .laload, 0, 0) :: c_Frame_layWays_167
def c_Frame_layWays_165 : List eg_I := .inl (165, 1, .iconst (2), 0, 0) :: c_Frame_layWays_166
def c_Frame_layWays_164 : List eg_I := .inl (164, 1, .aload 1, 0, 0) :: c_Frame_layWays_165
def c_Frame_layWays_163 : List eg_I := .inl (163, 1, .lmul, 0, 0) :: c_Frame_layWays_164
def c_Frame_layWays_161 : List eg_I := .inl (161, 2, .lload 11, 0, 0) :: c_Frame_layWays_163
def c_Frame_layWays_160 : List eg_I := .inl (160, 1, .i2l, 0, 0) :: c_Frame_layWays_161
def c_Frame_layWays_158 : List eg_I := .inl (158, 2, .iload 4, 0, 0) :: c_Frame_layWays_160
def c_Frame_layWays_157 : List eg_I := .inl (157, 1, .lsub, 0, 0) :: c_Frame_layWays_158
def c_Frame_layWays_156 : List eg_I := .inl (156, 1, .lmul, 0, 0) :: c_Frame_layWays_157
def c_Frame_layWays_154 : List eg_I := .inl (154, 2, .lload 13, 0, 0) :: c_Frame_layWays_156
def c_Frame_layWays_153 : List eg_I := .inl (153, 1, .laload, 0, 0) :: c_Frame_layWays_154
def c_Frame_layWays_152 : List eg_I := .inl (152, 1, .iconst (1), 0, 0) :: c_Frame_layWays_153
def c_Frame_layWays_151 : List eg_I := .inl (151, 1, .aload 1, 0, 0) :: c_Frame_layWays_152
def c_Frame_layWays_150 : List eg_I := .inl (150, 1, .lmul, 0, 0) :: c_Frame_layWays_151
def c_Frame_layWays_148 : List eg_I := .inl (148, 2, .lload 11, 0, 0) :: c_Frame_layWays_150
def c_Frame_layWays_147 : List eg_I := .inl (147, 1, .i2l, 0, 0) :: c_Frame_layWays_148
def c_Frame_layWays_146 : List eg_I := .inl (146, 1, .iload 3, 0, 0) :: c_Frame_layWays_147
def c_Frame_layWays_145 : List eg_I := .inl (145, 1, .lsub, 0, 0) :: c_Frame_layWays_146
def c_Frame_layWays_144 : List eg_I := .inl (144, 1, .lmul, 0, 0) :: c_Frame_layWays_145
def c_Frame_layWays_142 : List eg_I := .inl (142, 2, .lload 13, 0, 0) :: c_Frame_layWays_144
def c_Frame_layWays_141 : List eg_I := .inl (141, 1, .laload, 0, 0) :: c_Frame_layWays_142
def c_Frame_layWays_140 : List eg_I := .inl (140, 1, .iconst (0), 0, 0) :: c_Frame_layWays_141
def c_Frame_layWays_139 : List eg_I := .inl (139, 1, .aload 1, 0, 0) :: c_Frame_layWays_140
def c_Frame_layWays_138 : List eg_I := .inl (138, 1, .lmul, 0, 0) :: c_Frame_layWays_139
def c_Frame_layWays_136 : List eg_I := .inl (136, 2, .lload 11, 0, 0) :: c_Frame_layWays_138
def c_Frame_layWays_135 : List eg_I := .inl (135, 1, .i2l, 0, 0) :: c_Frame_layWays_136
def c_Frame_layWays_134 : List eg_I := .inl (134, 1, .iload 2, 0, 0) :: c_Frame_layWays_135
def c_Frame_layWays_133 : List eg_I := .inl (133, 1, .iconst (1), 0, 0) :: c_Frame_layWays_134
def c_Frame_layWays_132 : List eg_I := .inl (132, 1, .aload 0, 0, 0) :: c_Frame_layWays_133
def c_Frame_layWays_129 : List eg_I := .inr (129, 1, 13, n_Frame_setWay, 4, 5, 0, 0) :: c_Frame_layWays_132
def c_Frame_layWays_128 : List eg_I := .inl (128, 1, .laload, 0, 0) :: c_Frame_layWays_129
def c_Frame_layWays_127 : List eg_I := .inl (127, 1, .iconst (2), 0, 0) :: c_Frame_layWays_128
def c_Frame_layWays_126 : List eg_I := .inl (126, 1, .aload 1, 0, 0) :: c_Frame_layWays_127
def c_Frame_layWays_125 : List eg_I := .inl (125, 1, .laload, 0, 0) :: c_Frame_layWays_126
def c_Frame_layWays_124 : List eg_I := .inl (124, 1, .iconst (1), 0, 0) :: c_Frame_layWays_125
def c_Frame_layWays_123 : List eg_I := .inl (123, 1, .aload 1, 0, 0) :: c_Frame_layWays_124
def c_Frame_layWays_122 : List eg_I := .inl (122, 1, .laload, 0, 0) :: c_Frame_layWays_123
def c_Frame_layWays_121 : List eg_I := .inl (121, 1, .iconst (0), 0, 0) :: c_Frame_layWays_122
def c_Frame_layWays_120 : List eg_I := .inl (120, 1, .aload 1, 0, 0) :: c_Frame_layWays_121
def c_Frame_layWays_119 : List eg_I := .inl (119, 1, .iconst (0), 0, 0) :: c_Frame_layWays_120
def c_Frame_layWays_118 : List eg_I := .inl (118, 1, .aload 0, 0, 0) :: c_Frame_layWays_119
def c_Frame_layWays_116 : List eg_I := .inl (116, 2, .lstore 13, 0, 0) :: c_Frame_layWays_118
def c_Frame_layWays_115 : List eg_I := .inl (115, 1, .ladd, 0, 0) :: c_Frame_layWays_116
def c_Frame_layWays_114 : List eg_I := .inl (114, 1, .lmul, 0, 0) :: c_Frame_layWays_115
def c_Frame_layWays_113 : List eg_I := .inl (113, 1, .i2l, 0, 0) :: c_Frame_layWays_114
def c_Frame_layWays_111 : List eg_I := .inl (111, 2, .iload 4, 0, 0) :: c_Frame_layWays_113
def c_Frame_layWays_110 : List eg_I := .inl (110, 1, .laload, 0, 0) :: c_Frame_layWays_111
def c_Frame_layWays_109 : List eg_I := .inl (109, 1, .iconst (2), 0, 0) :: c_Frame_layWays_110
def c_Frame_layWays_108 : List eg_I := .inl (108, 1, .aload 1, 0, 0) :: c_Frame_layWays_109
def c_Frame_layWays_107 : List eg_I := .inl (107, 1, .ladd, 0, 0) :: c_Frame_layWays_108
def c_Frame_layWays_106 : List eg_I := .inl (106, 1, .lmul, 0, 0) :: c_Frame_layWays_107
def c_Frame_layWays_105 : List eg_I := .inl (105, 1, .i2l, 0, 0) :: c_Frame_layWays_106
def c_Frame_layWays_104 : List eg_I := .inl (104, 1, .iload 3, 0, 0) :: c_Frame_layWays_105
def c_Frame_layWays_103 : List eg_I := .inl (103, 1, .laload, 0, 0) :: c_Frame_layWays_104
def c_Frame_layWays_102 : List eg_I := .inl (102, 1, .iconst (1), 0, 0) :: c_Frame_layWays_103
def c_Frame_layWays_101 : List eg_I := .inl (101, 1, .aload 1, 0, 0) :: c_Frame_layWays_102
def c_Frame_layWays_100 : List eg_I := .inl (100, 1, .lmul, 0, 0) :: c_Frame_layWays_101
def c_Frame_layWays_99 : List eg_I := .inl (99, 1, .i2l, 0, 0) :: c_Frame_layWays_100
def c_Frame_layWays_98 : List eg_I := .inl (98, 1, .iload 2, 0, 0) :: c_Frame_layWays_99
def c_Frame_layWays_97 : List eg_I := .inl (97, 1, .laload, 0, 0) :: c_Frame_layWays_98
def c_Frame_layWays_96 : List eg_I := .inl (96, 1, .iconst (0), 0, 0) :: c_Frame_layWays_97
def c_Frame_layWays_95 : List eg_I := .inl (95, 1, .aload 1, 0, 0) :: c_Frame_layWays_96
def c_Frame_layWays_93 : List eg_I := .inl (93, 2, .lstore 11, 0, 0) :: c_Frame_layWays_95
def c_Frame_layWays_92 : List eg_I := .inl (92, 1, .ladd, 0, 0) :: c_Frame_layWays_93
def c_Frame_layWays_91 : List eg_I := .inl (91, 1, .lmul, 0, 0) :: c_Frame_layWays_92
def c_Frame_layWays_90 : List eg_I := .inl (90, 1, .laload, 0, 0) :: c_Frame_layWays_91
def c_Frame_layWays_89 : List eg_I := .inl (89, 1, .iconst (2), 0, 0) :: c_Frame_layWays_90
def c_Frame_layWays_88 : List eg_I := .inl (88, 1, .aload 1, 0, 0) :: c_Frame_layWays_89
def c_Frame_layWays_87 : List eg_I := .inl (87, 1, .laload, 0, 0) :: c_Frame_layWays_88
def c_Frame_layWays_86 : List eg_I := .inl (86, 1, .iconst (2), 0, 0) :: c_Frame_layWays_87
def c_Frame_layWays_85 : List eg_I := .inl (85, 1, .aload 1, 0, 0) :: c_Frame_layWays_86
def c_Frame_layWays_84 : List eg_I := .inl (84, 1, .ladd, 0, 0) :: c_Frame_layWays_85
def c_Frame_layWays_83 : List eg_I := .inl (83, 1, .lmul, 0, 0) :: c_Frame_layWays_84
def c_Frame_layWays_82 : List eg_I := .inl (82, 1, .laload, 0, 0) :: c_Frame_layWays_83
def c_Frame_layWays_81 : List eg_I := .inl (81, 1, .iconst (1), 0, 0) :: c_Frame_layWays_82
def c_Frame_layWays_80 : List eg_I := .inl (80, 1, .aload 1, 0, 0) :: c_Frame_layWays_81
def c_Frame_layWays_79 : List eg_I := .inl (79, 1, .laload, 0, 0) :: c_Frame_layWays_80
def c_Frame_layWays_78 : List eg_I := .inl (78, 1, .iconst (1), 0, 0) :: c_Frame_layWays_79
def c_Frame_layWays_77 : List eg_I := .inl (77, 1, .aload 1, 0, 0) :: c_Frame_layWays_78
def c_Frame_layWays_76 : List eg_I := .inl (76, 1, .lmul, 0, 0) :: c_Frame_layWays_77
def c_Frame_layWays_75 : List eg_I := .inl (75, 1, .laload, 0, 0) :: c_Frame_layWays_76
def c_Frame_layWays_74 : List eg_I := .inl (74, 1, .iconst (0), 0, 0) :: c_Frame_layWays_75
def c_Frame_layWays_73 : List eg_I := .inl (73, 1, .aload 1, 0, 0) :: c_Frame_layWays_74
def c_Frame_layWays_72 : List eg_I := .inl (72, 1, .laload, 0, 0) :: c_Frame_layWays_73
def c_Frame_layWays_71 : List eg_I := .inl (71, 1, .iconst (0), 0, 0) :: c_Frame_layWays_72
def c_Frame_layWays_70 : List eg_I := .inl (70, 1, .aload 1, 0, 0) :: c_Frame_layWays_71
def c_Frame_layWays_69 : List eg_I := .inl (69, 1, .ireturn, 0, 1) :: []
def c_Frame_layWays_68 : List eg_I := .inl (68, 1, .iconst (0), 0, 0) :: c_Frame_layWays_69
def c_Frame_layWays_65 : List eg_I := .inl (65, 3, .ifCond .ne (5), 70, 0) :: c_Frame_layWays_68
def c_Frame_layWays_64 : List eg_I := .inl (64, 1, .lcmp, 0, 0) :: c_Frame_layWays_65
def c_Frame_layWays_63 : List eg_I := .inl (63, 1, .sipush (0), 0, 0) :: c_Frame_layWays_64
def c_Frame_layWays_61 : List eg_I := .inl (61, 2, .lload 9, 0, 0) :: c_Frame_layWays_63
def c_Frame_layWays_58 : List eg_I := .inl (58, 3, .ifCond .ne (12), 70, 0) :: c_Frame_layWays_61
def c_Frame_layWays_57 : List eg_I := .inl (57, 1, .lcmp, 0, 0) :: c_Frame_layWays_58
def c_Frame_layWays_56 : List eg_I := .inl (56, 1, .sipush (0), 0, 0) :: c_Frame_layWays_57
def c_Frame_layWays_54 : List eg_I := .inl (54, 2, .lload 7, 0, 0) :: c_Frame_layWays_56
def c_Frame_layWays_51 : List eg_I := .inl (51, 3, .ifCond .ne (19), 70, 0) :: c_Frame_layWays_54
def c_Frame_layWays_50 : List eg_I := .inl (50, 1, .lcmp, 0, 0) :: c_Frame_layWays_51
def c_Frame_layWays_49 : List eg_I := .inl (49, 1, .sipush (0), 0, 0) :: c_Frame_layWays_50
def c_Frame_layWays_47 : List eg_I := .inl (47, 2, .lload 5, 0, 0) :: c_Frame_layWays_49
def c_Frame_layWays_45 : List eg_I := .inl (45, 2, .lstore 9, 0, 0) :: c_Frame_layWays_47
def c_Frame_layWays_44 : List eg_I := .inl (44, 1, .lsub, 0, 0) :: c_Frame_layWays_45
def c_Frame_layWays_43 : List eg_I := .inl (43, 1, .lmul, 0, 0) :: c_Frame_layWays_44
def c_Frame_layWays_42 : List eg_I := .inl (42, 1, .i2l, 0, 0) :: c_Frame_layWays_43
def c_Frame_layWays_41 : List eg_I := .inl (41, 1, .iload 2, 0, 0) :: c_Frame_layWays_42
def c_Frame_layWays_40 : List eg_I := .inl (40, 1, .laload, 0, 0) :: c_Frame_layWays_41
def c_Frame_layWays_39 : List eg_I := .inl (39, 1, .iconst (1), 0, 0) :: c_Frame_layWays_40
def c_Frame_layWays_38 : List eg_I := .inl (38, 1, .aload 1, 0, 0) :: c_Frame_layWays_39
def c_Frame_layWays_37 : List eg_I := .inl (37, 1, .lmul, 0, 0) :: c_Frame_layWays_38
def c_Frame_layWays_36 : List eg_I := .inl (36, 1, .i2l, 0, 0) :: c_Frame_layWays_37
def c_Frame_layWays_35 : List eg_I := .inl (35, 1, .iload 3, 0, 0) :: c_Frame_layWays_36
def c_Frame_layWays_34 : List eg_I := .inl (34, 1, .laload, 0, 0) :: c_Frame_layWays_35
def c_Frame_layWays_33 : List eg_I := .inl (33, 1, .iconst (0), 0, 0) :: c_Frame_layWays_34
def c_Frame_layWays_32 : List eg_I := .inl (32, 1, .aload 1, 0, 0) :: c_Frame_layWays_33
def c_Frame_layWays_30 : List eg_I := .inl (30, 2, .lstore 7, 0, 0) :: c_Frame_layWays_32
def c_Frame_layWays_29 : List eg_I := .inl (29, 1, .lsub, 0, 0) :: c_Frame_layWays_30
def c_Frame_layWays_28 : List eg_I := .inl (28, 1, .lmul, 0, 0) :: c_Frame_layWays_29
def c_Frame_layWays_27 : List eg_I := .inl (27, 1, .i2l, 0, 0) :: c_Frame_layWays_28
def c_Frame_layWays_25 : List eg_I := .inl (25, 2, .iload 4, 0, 0) :: c_Frame_layWays_27
def c_Frame_layWays_24 : List eg_I := .inl (24, 1, .laload, 0, 0) :: c_Frame_layWays_25
def c_Frame_layWays_23 : List eg_I := .inl (23, 1, .iconst (0), 0, 0) :: c_Frame_layWays_24
def c_Frame_layWays_22 : List eg_I := .inl (22, 1, .aload 1, 0, 0) :: c_Frame_layWays_23
def c_Frame_layWays_21 : List eg_I := .inl (21, 1, .lmul, 0, 0) :: c_Frame_layWays_22
def c_Frame_layWays_20 : List eg_I := .inl (20, 1, .i2l, 0, 0) :: c_Frame_layWays_21
def c_Frame_layWays_19 : List eg_I := .inl (19, 1, .iload 2, 0, 0) :: c_Frame_layWays_20
def c_Frame_layWays_18 : List eg_I := .inl (18, 1, .laload, 0, 0) :: c_Frame_layWays_19
def c_Frame_layWays_17 : List eg_I := .inl (17, 1, .iconst (2), 0, 0) :: c_Frame_layWays_18
def c_Frame_layWays_16 : List eg_I := .inl (16, 1, .aload 1, 0, 0) :: c_Frame_layWays_17
def c_Frame_layWays_14 : List eg_I := .inl (14, 2, .lstore 5, 0, 0) :: c_Frame_layWays_16
def c_Frame_layWays_13 : List eg_I := .inl (13, 1, .lsub, 0, 0) :: c_Frame_layWays_14
def c_Frame_layWays_12 : List eg_I := .inl (12, 1, .lmul, 0, 0) :: c_Frame_layWays_13
def c_Frame_layWays_11 : List eg_I := .inl (11, 1, .i2l, 0, 0) :: c_Frame_layWays_12
def c_Frame_layWays_10 : List eg_I := .inl (10, 1, .iload 3, 0, 0) :: c_Frame_layWays_11
def c_Frame_layWays_9 : List eg_I := .inl (9, 1, .laload, 0, 0) :: c_Frame_layWays_10
def c_Frame_layWays_8 : List eg_I := .inl (8, 1, .iconst (2), 0, 0) :: c_Frame_layWays_9
def c_Frame_layWays_7 : List eg_I := .inl (7, 1, .aload 1, 0, 0) :: c_Frame_layWays_8
def c_Frame_layWays_6 : List eg_I := .inl (6, 1, .lmul, 0, 0) :: c_Frame_layWays_7
def c_Frame_layWays_5 : List eg_I := .inl (5, 1, .i2l, 0, 0) :: c_Frame_layWays_6
def c_Frame_layWays_3 : List eg_I := .inl (3, 2, .iload 4, 0, 0) :: c_Frame_layWays_5
def c_Frame_layWays_2 : List eg_I := .inl (2, 1, .laload, 0, 0) :: c_Frame_layWays_3
def c_Frame_layWays_1 : List eg_I := .inl (1, 1, .iconst (1), 0, 0) :: c_Frame_layWays_2
def c_Frame_layWays_0 : List eg_I := .inl (0, 1, .aload 1, 0, 0) :: c_Frame_layWays_1
section
variable {rm : Room} {K : Nat → Nat → Nat → eg_Lo → List Value → List eg_E → Prop} {Q : Option Value → List eg_E → Prop} {kc ks : Nat} {loc : eg_Lo} {st : List Value} {h : List eg_E}
theorem s_Frame_layWays_0 {x : Nat} {l0 : Option Value} {l : eg_Lo} : wps rm K Q c_Frame_layWays_0 kc ks (l0 :: some (.ref x) :: l) (st) h = wps rm K Q c_Frame_layWays_1 kc ks (l0 :: some (.ref x) :: l) (.ref x :: st) h := rfl
theorem s_Frame_layWays_1  : wps rm K Q c_Frame_layWays_1 kc ks loc (st) h = wps rm K Q c_Frame_layWays_2 kc ks loc (.int (1) :: st) h := rfl
theorem s_Frame_layWays_2 {x : Nat} {i : Int32} : wps rm K Q c_Frame_layWays_2 kc ks loc (.int i :: .ref (x + 1) :: st) h = eg_la h x i (fun v => wps rm K Q c_Frame_layWays_3 kc ks loc (.long v :: st) h) := rfl
theorem s_Frame_layWays_3 {x : Int32} {l0 l1 l2 l3 : Option Value} {l : eg_Lo} : wps rm K Q c_Frame_layWays_3 kc ks (l0 :: l1 :: l2 :: l3 :: some (.int x) :: l) (st) h = wps rm K Q c_Frame_layWays_5 kc ks (l0 :: l1 :: l2 :: l3 :: some (.int x) :: l) (.int x :: st) h := rfl
theorem s_Frame_layWays_5 {x : Int32} : wps rm K Q c_Frame_layWays_5 kc ks loc (.int x :: st) h = wps rm K Q c_Frame_layWays_6 kc ks loc (.long (x.toInt64) :: st) h := rfl
theorem s_Frame_layWays_6 {x y : Int64} : wps rm K Q c_Frame_layWays_6 kc ks loc (.long y :: .long x :: st) h = wps rm K Q c_Frame_layWays_7 kc ks loc (.long (x * y) :: st) h := rfl
theorem s_Frame_layWays_7 {x : Nat} {l0 : Option Value} {l : eg_Lo} : wps rm K Q c_Frame_layWays_7 kc ks (l0 :: some (.ref x) :: l) (st) h = wps rm K Q c_Frame_layWays_8 kc ks (l0 :: some (.ref x) :: l) (.ref x :: st) h := rfl
theorem s_Frame_layWays_8  : wps rm K Q c_Frame_layWays_8 kc ks loc (st) h = wps rm K Q c_Frame_layWays_9 kc ks loc (.int (2) :: st) h := rfl
theorem s_Frame_layWays_9 {x : Nat} {i : Int32} : wps rm K Q c_Frame_layWays_9 kc ks loc (.int i :: .ref (x + 1) :: st) h = eg_la h x i (fun v => wps rm K Q c_Frame_layWays_10 kc ks loc (.long v :: st) h) := rfl
theorem s_Frame_layWays_10 {x : Int32} {l0 l1 l2 : Option Value} {l : eg_Lo} : wps rm K Q c_Frame_layWays_10 kc ks (l0 :: l1 :: l2 :: some (.int x) :: l) (st) h = wps rm K Q c_Frame_layWays_11 kc ks (l0 :: l1 :: l2 :: some (.int x) :: l) (.int x :: st) h := rfl
theorem s_Frame_layWays_11 {x : Int32} : wps rm K Q c_Frame_layWays_11 kc ks loc (.int x :: st) h = wps rm K Q c_Frame_layWays_12 kc ks loc (.long (x.toInt64) :: st) h := rfl
theorem s_Frame_layWays_12 {x y : Int64} : wps rm K Q c_Frame_layWays_12 kc ks loc (.long y :: .long x :: st) h = wps rm K Q c_Frame_layWays_13 kc ks loc (.long (x * y) :: st) h := rfl
theorem s_Frame_layWays_13 {x y : Int64} : wps rm K Q c_Frame_layWays_13 kc ks loc (.long y :: .long x :: st) h = wps rm K Q c_Frame_layWays_14 kc ks loc (.long (x - y) :: st) h := rfl
theorem s_Frame_layWays_14 {x : Int64} : wps rm K Q c_Frame_layWays_14 kc ks loc (.long x :: st) h = wps rm K Q c_Frame_layWays_16 kc ks (eg_set2 loc 5 (.long x)) (st) h := rfl
theorem s_Frame_layWays_16 {x : Nat} {l0 : Option Value} {l : eg_Lo} : wps rm K Q c_Frame_layWays_16 kc ks (l0 :: some (.ref x) :: l) (st) h = wps rm K Q c_Frame_layWays_17 kc ks (l0 :: some (.ref x) :: l) (.ref x :: st) h := rfl
theorem s_Frame_layWays_17  : wps rm K Q c_Frame_layWays_17 kc ks loc (st) h = wps rm K Q c_Frame_layWays_18 kc ks loc (.int (2) :: st) h := rfl
theorem s_Frame_layWays_18 {x : Nat} {i : Int32} : wps rm K Q c_Frame_layWays_18 kc ks loc (.int i :: .ref (x + 1) :: st) h = eg_la h x i (fun v => wps rm K Q c_Frame_layWays_19 kc ks loc (.long v :: st) h) := rfl
theorem s_Frame_layWays_19 {x : Int32} {l0 l1 : Option Value} {l : eg_Lo} : wps rm K Q c_Frame_layWays_19 kc ks (l0 :: l1 :: some (.int x) :: l) (st) h = wps rm K Q c_Frame_layWays_20 kc ks (l0 :: l1 :: some (.int x) :: l) (.int x :: st) h := rfl
theorem s_Frame_layWays_20 {x : Int32} : wps rm K Q c_Frame_layWays_20 kc ks loc (.int x :: st) h = wps rm K Q c_Frame_layWays_21 kc ks loc (.long (x.toInt64) :: st) h := rfl
theorem s_Frame_layWays_21 {x y : Int64} : wps rm K Q c_Frame_layWays_21 kc ks loc (.long y :: .long x :: st) h = wps rm K Q c_Frame_layWays_22 kc ks loc (.long (x * y) :: st) h := rfl
theorem s_Frame_layWays_22 {x : Nat} {l0 : Option Value} {l : eg_Lo} : wps rm K Q c_Frame_layWays_22 kc ks (l0 :: some (.ref x) :: l) (st) h = wps rm K Q c_Frame_layWays_23 kc ks (l0 :: some (.ref x) :: l) (.ref x :: st) h := rfl
theorem s_Frame_layWays_23  : wps rm K Q c_Frame_layWays_23 kc ks loc (st) h = wps rm K Q c_Frame_layWays_24 kc ks loc (.int (0) :: st) h := rfl
theorem s_Frame_layWays_24 {x : Nat} {i : Int32} : wps rm K Q c_Frame_layWays_24 kc ks loc (.int i :: .ref (x + 1) :: st) h = eg_la h x i (fun v => wps rm K Q c_Frame_layWays_25 kc ks loc (.long v :: st) h) := rfl
theorem s_Frame_layWays_25 {x : Int32} {l0 l1 l2 l3 : Option Value} {l : eg_Lo} : wps rm K Q c_Frame_layWays_25 kc ks (l0 :: l1 :: l2 :: l3 :: some (.int x) :: l) (st) h = wps rm K Q c_Frame_layWays_27 kc ks (l0 :: l1 :: l2 :: l3 :: some (.int x) :: l) (.int x :: st) h := rfl
theorem s_Frame_layWays_27 {x : Int32} : wps rm K Q c_Frame_layWays_27 kc ks loc (.int x :: st) h = wps rm K Q c_Frame_layWays_28 kc ks loc (.long (x.toInt64) :: st) h := rfl
theorem s_Frame_layWays_28 {x y : Int64} : wps rm K Q c_Frame_layWays_28 kc ks loc (.long y :: .long x :: st) h = wps rm K Q c_Frame_layWays_29 kc ks loc (.long (x * y) :: st) h := rfl
theorem s_Frame_layWays_29 {x y : Int64} : wps rm K Q c_Frame_layWays_29 kc ks loc (.long y :: .long x :: st) h = wps rm K Q c_Frame_layWays_30 kc ks loc (.long (x - y) :: st) h := rfl
theorem s_Frame_layWays_30 {x : Int64} : wps rm K Q c_Frame_layWays_30 kc ks loc (.long x :: st) h = wps rm K Q c_Frame_layWays_32 kc ks (eg_set2 loc 7 (.long x)) (st) h := rfl
theorem s_Frame_layWays_32 {x : Nat} {l0 : Option Value} {l : eg_Lo} : wps rm K Q c_Frame_layWays_32 kc ks (l0 :: some (.ref x) :: l) (st) h = wps rm K Q c_Frame_layWays_33 kc ks (l0 :: some (.ref x) :: l) (.ref x :: st) h := rfl
theorem s_Frame_layWays_33  : wps rm K Q c_Frame_layWays_33 kc ks loc (st) h = wps rm K Q c_Frame_layWays_34 kc ks loc (.int (0) :: st) h := rfl
theorem s_Frame_layWays_34 {x : Nat} {i : Int32} : wps rm K Q c_Frame_layWays_34 kc ks loc (.int i :: .ref (x + 1) :: st) h = eg_la h x i (fun v => wps rm K Q c_Frame_layWays_35 kc ks loc (.long v :: st) h) := rfl
theorem s_Frame_layWays_35 {x : Int32} {l0 l1 l2 : Option Value} {l : eg_Lo} : wps rm K Q c_Frame_layWays_35 kc ks (l0 :: l1 :: l2 :: some (.int x) :: l) (st) h = wps rm K Q c_Frame_layWays_36 kc ks (l0 :: l1 :: l2 :: some (.int x) :: l) (.int x :: st) h := rfl
theorem s_Frame_layWays_36 {x : Int32} : wps rm K Q c_Frame_layWays_36 kc ks loc (.int x :: st) h = wps rm K Q c_Frame_layWays_37 kc ks loc (.long (x.toInt64) :: st) h := rfl
theorem s_Frame_layWays_37 {x y : Int64} : wps rm K Q c_Frame_layWays_37 kc ks loc (.long y :: .long x :: st) h = wps rm K Q c_Frame_layWays_38 kc ks loc (.long (x * y) :: st) h := rfl
theorem s_Frame_layWays_38 {x : Nat} {l0 : Option Value} {l : eg_Lo} : wps rm K Q c_Frame_layWays_38 kc ks (l0 :: some (.ref x) :: l) (st) h = wps rm K Q c_Frame_layWays_39 kc ks (l0 :: some (.ref x) :: l) (.ref x :: st) h := rfl
theorem s_Frame_layWays_39  : wps rm K Q c_Frame_layWays_39 kc ks loc (st) h = wps rm K Q c_Frame_layWays_40 kc ks loc (.int (1) :: st) h := rfl
theorem s_Frame_layWays_40 {x : Nat} {i : Int32} : wps rm K Q c_Frame_layWays_40 kc ks loc (.int i :: .ref (x + 1) :: st) h = eg_la h x i (fun v => wps rm K Q c_Frame_layWays_41 kc ks loc (.long v :: st) h) := rfl
theorem s_Frame_layWays_41 {x : Int32} {l0 l1 : Option Value} {l : eg_Lo} : wps rm K Q c_Frame_layWays_41 kc ks (l0 :: l1 :: some (.int x) :: l) (st) h = wps rm K Q c_Frame_layWays_42 kc ks (l0 :: l1 :: some (.int x) :: l) (.int x :: st) h := rfl
theorem s_Frame_layWays_42 {x : Int32} : wps rm K Q c_Frame_layWays_42 kc ks loc (.int x :: st) h = wps rm K Q c_Frame_layWays_43 kc ks loc (.long (x.toInt64) :: st) h := rfl
theorem s_Frame_layWays_43 {x y : Int64} : wps rm K Q c_Frame_layWays_43 kc ks loc (.long y :: .long x :: st) h = wps rm K Q c_Frame_layWays_44 kc ks loc (.long (x * y) :: st) h := rfl
theorem s_Frame_layWays_44 {x y : Int64} : wps rm K Q c_Frame_layWays_44 kc ks loc (.long y :: .long x :: st) h = wps rm K Q c_Frame_layWays_45 kc ks loc (.long (x - y) :: st) h := rfl
theorem s_Frame_layWays_45 {x : Int64} : wps rm K Q c_Frame_layWays_45 kc ks loc (.long x :: st) h = wps rm K Q c_Frame_layWays_47 kc ks (eg_set2 loc 9 (.long x)) (st) h := rfl
theorem s_Frame_layWays_47 {x : Int64} {l0 l1 l2 l3 l4 : Option Value} {l : eg_Lo} : wps rm K Q c_Frame_layWays_47 kc ks (l0 :: l1 :: l2 :: l3 :: l4 :: some (.long x) :: l) (st) h = wps rm K Q c_Frame_layWays_49 kc ks (l0 :: l1 :: l2 :: l3 :: l4 :: some (.long x) :: l) (.long x :: st) h := rfl
theorem s_Frame_layWays_49  : wps rm K Q c_Frame_layWays_49 kc ks loc (st) h = wps rm K Q c_Frame_layWays_50 kc ks loc (.long (0) :: st) h := rfl
theorem s_Frame_layWays_50 {x y : Int64} : wps rm K Q c_Frame_layWays_50 kc ks loc (.long y :: .long x :: st) h = wps rm K Q c_Frame_layWays_51 kc ks loc (.int (lg_cmp x y) :: st) h := rfl
theorem s_Frame_layWays_51 {x : Int32} : wps rm K Q c_Frame_layWays_51 kc ks loc (.int x :: st) h = ((¬ x = 0 → K 70 kc ks loc st h) ∧ (x = 0 → wps rm K Q c_Frame_layWays_54 kc ks loc (st) h)) := rfl
theorem s_Frame_layWays_54 {x : Int64} {l0 l1 l2 l3 l4 l5 l6 : Option Value} {l : eg_Lo} : wps rm K Q c_Frame_layWays_54 kc ks (l0 :: l1 :: l2 :: l3 :: l4 :: l5 :: l6 :: some (.long x) :: l) (st) h = wps rm K Q c_Frame_layWays_56 kc ks (l0 :: l1 :: l2 :: l3 :: l4 :: l5 :: l6 :: some (.long x) :: l) (.long x :: st) h := rfl
theorem s_Frame_layWays_56  : wps rm K Q c_Frame_layWays_56 kc ks loc (st) h = wps rm K Q c_Frame_layWays_57 kc ks loc (.long (0) :: st) h := rfl
theorem s_Frame_layWays_57 {x y : Int64} : wps rm K Q c_Frame_layWays_57 kc ks loc (.long y :: .long x :: st) h = wps rm K Q c_Frame_layWays_58 kc ks loc (.int (lg_cmp x y) :: st) h := rfl
theorem s_Frame_layWays_58 {x : Int32} : wps rm K Q c_Frame_layWays_58 kc ks loc (.int x :: st) h = ((¬ x = 0 → K 70 kc ks loc st h) ∧ (x = 0 → wps rm K Q c_Frame_layWays_61 kc ks loc (st) h)) := rfl
theorem s_Frame_layWays_61 {x : Int64} {l0 l1 l2 l3 l4 l5 l6 l7 l8 : Option Value} {l : eg_Lo} : wps rm K Q c_Frame_layWays_61 kc ks (l0 :: l1 :: l2 :: l3 :: l4 :: l5 :: l6 :: l7 :: l8 :: some (.long x) :: l) (st) h = wps rm K Q c_Frame_layWays_63 kc ks (l0 :: l1 :: l2 :: l3 :: l4 :: l5 :: l6 :: l7 :: l8 :: some (.long x) :: l) (.long x :: st) h := rfl
theorem s_Frame_layWays_63  : wps rm K Q c_Frame_layWays_63 kc ks loc (st) h = wps rm K Q c_Frame_layWays_64 kc ks loc (.long (0) :: st) h := rfl
theorem s_Frame_layWays_64 {x y : Int64} : wps rm K Q c_Frame_layWays_64 kc ks loc (.long y :: .long x :: st) h = wps rm K Q c_Frame_layWays_65 kc ks loc (.int (lg_cmp x y) :: st) h := rfl
theorem s_Frame_layWays_65 {x : Int32} : wps rm K Q c_Frame_layWays_65 kc ks loc (.int x :: st) h = ((¬ x = 0 → K 70 kc ks loc st h) ∧ (x = 0 → wps rm K Q c_Frame_layWays_68 kc ks loc (st) h)) := rfl
theorem s_Frame_layWays_68  : wps rm K Q c_Frame_layWays_68 kc ks loc (st) h = wps rm K Q c_Frame_layWays_69 kc ks loc (.int (0) :: st) h := rfl
theorem s_Frame_layWays_69 {x : Int32} : wps rm K Q c_Frame_layWays_69 kc ks loc ([.int x]) h = (kc = rm.cells ∧ ((1 : Nat) = 1 → x = 0 ∨ x = 1) ∧ Q (some (.int x)) h) := rfl
theorem s_Frame_layWays_70 {x : Nat} {l0 : Option Value} {l : eg_Lo} : wps rm K Q c_Frame_layWays_70 kc ks (l0 :: some (.ref x) :: l) (st) h = wps rm K Q c_Frame_layWays_71 kc ks (l0 :: some (.ref x) :: l) (.ref x :: st) h := rfl
theorem s_Frame_layWays_71  : wps rm K Q c_Frame_layWays_71 kc ks loc (st) h = wps rm K Q c_Frame_layWays_72 kc ks loc (.int (0) :: st) h := rfl
theorem s_Frame_layWays_72 {x : Nat} {i : Int32} : wps rm K Q c_Frame_layWays_72 kc ks loc (.int i :: .ref (x + 1) :: st) h = eg_la h x i (fun v => wps rm K Q c_Frame_layWays_73 kc ks loc (.long v :: st) h) := rfl
theorem s_Frame_layWays_73 {x : Nat} {l0 : Option Value} {l : eg_Lo} : wps rm K Q c_Frame_layWays_73 kc ks (l0 :: some (.ref x) :: l) (st) h = wps rm K Q c_Frame_layWays_74 kc ks (l0 :: some (.ref x) :: l) (.ref x :: st) h := rfl
theorem s_Frame_layWays_74  : wps rm K Q c_Frame_layWays_74 kc ks loc (st) h = wps rm K Q c_Frame_layWays_75 kc ks loc (.int (0) :: st) h := rfl
theorem s_Frame_layWays_75 {x : Nat} {i : Int32} : wps rm K Q c_Frame_layWays_75 kc ks loc (.int i :: .ref (x + 1) :: st) h = eg_la h x i (fun v => wps rm K Q c_Frame_layWays_76 kc ks loc (.long v :: st) h) := rfl
theorem s_Frame_layWays_76 {x y : Int64} : wps rm K Q c_Frame_layWays_76 kc ks loc (.long y :: .long x :: st) h = wps rm K Q c_Frame_layWays_77 kc ks loc (.long (x * y) :: st) h := rfl
theorem s_Frame_layWays_77 {x : Nat} {l0 : Option Value} {l : eg_Lo} : wps rm K Q c_Frame_layWays_77 kc ks (l0 :: some (.ref x) :: l) (st) h = wps rm K Q c_Frame_layWays_78 kc ks (l0 :: some (.ref x) :: l) (.ref x :: st) h := rfl
theorem s_Frame_layWays_78  : wps rm K Q c_Frame_layWays_78 kc ks loc (st) h = wps rm K Q c_Frame_layWays_79 kc ks loc (.int (1) :: st) h := rfl
theorem s_Frame_layWays_79 {x : Nat} {i : Int32} : wps rm K Q c_Frame_layWays_79 kc ks loc (.int i :: .ref (x + 1) :: st) h = eg_la h x i (fun v => wps rm K Q c_Frame_layWays_80 kc ks loc (.long v :: st) h) := rfl
theorem s_Frame_layWays_80 {x : Nat} {l0 : Option Value} {l : eg_Lo} : wps rm K Q c_Frame_layWays_80 kc ks (l0 :: some (.ref x) :: l) (st) h = wps rm K Q c_Frame_layWays_81 kc ks (l0 :: some (.ref x) :: l) (.ref x :: st) h := rfl
theorem s_Frame_layWays_81  : wps rm K Q c_Frame_layWays_81 kc ks loc (st) h = wps rm K Q c_Frame_layWays_82 kc ks loc (.int (1) :: st) h := rfl
theorem s_Frame_layWays_82 {x : Nat} {i : Int32} : wps rm K Q c_Frame_layWays_82 kc ks loc (.int i :: .ref (x + 1) :: st) h = eg_la h x i (fun v => wps rm K Q c_Frame_layWays_83 kc ks loc (.long v :: st) h) := rfl
theorem s_Frame_layWays_83 {x y : Int64} : wps rm K Q c_Frame_layWays_83 kc ks loc (.long y :: .long x :: st) h = wps rm K Q c_Frame_layWays_84 kc ks loc (.long (x * y) :: st) h := rfl
theorem s_Frame_layWays_84 {x y : Int64} : wps rm K Q c_Frame_layWays_84 kc ks loc (.long y :: .long x :: st) h = wps rm K Q c_Frame_layWays_85 kc ks loc (.long (x + y) :: st) h := rfl
theorem s_Frame_layWays_85 {x : Nat} {l0 : Option Value} {l : eg_Lo} : wps rm K Q c_Frame_layWays_85 kc ks (l0 :: some (.ref x) :: l) (st) h = wps rm K Q c_Frame_layWays_86 kc ks (l0 :: some (.ref x) :: l) (.ref x :: st) h := rfl
theorem s_Frame_layWays_86  : wps rm K Q c_Frame_layWays_86 kc ks loc (st) h = wps rm K Q c_Frame_layWays_87 kc ks loc (.int (2) :: st) h := rfl
theorem s_Frame_layWays_87 {x : Nat} {i : Int32} : wps rm K Q c_Frame_layWays_87 kc ks loc (.int i :: .ref (x + 1) :: st) h = eg_la h x i (fun v => wps rm K Q c_Frame_layWays_88 kc ks loc (.long v :: st) h) := rfl
theorem s_Frame_layWays_88 {x : Nat} {l0 : Option Value} {l : eg_Lo} : wps rm K Q c_Frame_layWays_88 kc ks (l0 :: some (.ref x) :: l) (st) h = wps rm K Q c_Frame_layWays_89 kc ks (l0 :: some (.ref x) :: l) (.ref x :: st) h := rfl
theorem s_Frame_layWays_89  : wps rm K Q c_Frame_layWays_89 kc ks loc (st) h = wps rm K Q c_Frame_layWays_90 kc ks loc (.int (2) :: st) h := rfl
theorem s_Frame_layWays_90 {x : Nat} {i : Int32} : wps rm K Q c_Frame_layWays_90 kc ks loc (.int i :: .ref (x + 1) :: st) h = eg_la h x i (fun v => wps rm K Q c_Frame_layWays_91 kc ks loc (.long v :: st) h) := rfl
theorem s_Frame_layWays_91 {x y : Int64} : wps rm K Q c_Frame_layWays_91 kc ks loc (.long y :: .long x :: st) h = wps rm K Q c_Frame_layWays_92 kc ks loc (.long (x * y) :: st) h := rfl
theorem s_Frame_layWays_92 {x y : Int64} : wps rm K Q c_Frame_layWays_92 kc ks loc (.long y :: .long x :: st) h = wps rm K Q c_Frame_layWays_93 kc ks loc (.long (x + y) :: st) h := rfl
theorem s_Frame_layWays_93 {x : Int64} : wps rm K Q c_Frame_layWays_93 kc ks loc (.long x :: st) h = wps rm K Q c_Frame_layWays_95 kc ks (eg_set2 loc 11 (.long x)) (st) h := rfl
theorem s_Frame_layWays_95 {x : Nat} {l0 : Option Value} {l : eg_Lo} : wps rm K Q c_Frame_layWays_95 kc ks (l0 :: some (.ref x) :: l) (st) h = wps rm K Q c_Frame_layWays_96 kc ks (l0 :: some (.ref x) :: l) (.ref x :: st) h := rfl
theorem s_Frame_layWays_96  : wps rm K Q c_Frame_layWays_96 kc ks loc (st) h = wps rm K Q c_Frame_layWays_97 kc ks loc (.int (0) :: st) h := rfl
theorem s_Frame_layWays_97 {x : Nat} {i : Int32} : wps rm K Q c_Frame_layWays_97 kc ks loc (.int i :: .ref (x + 1) :: st) h = eg_la h x i (fun v => wps rm K Q c_Frame_layWays_98 kc ks loc (.long v :: st) h) := rfl
theorem s_Frame_layWays_98 {x : Int32} {l0 l1 : Option Value} {l : eg_Lo} : wps rm K Q c_Frame_layWays_98 kc ks (l0 :: l1 :: some (.int x) :: l) (st) h = wps rm K Q c_Frame_layWays_99 kc ks (l0 :: l1 :: some (.int x) :: l) (.int x :: st) h := rfl
theorem s_Frame_layWays_99 {x : Int32} : wps rm K Q c_Frame_layWays_99 kc ks loc (.int x :: st) h = wps rm K Q c_Frame_layWays_100 kc ks loc (.long (x.toInt64) :: st) h := rfl
theorem s_Frame_layWays_100 {x y : Int64} : wps rm K Q c_Frame_layWays_100 kc ks loc (.long y :: .long x :: st) h = wps rm K Q c_Frame_layWays_101 kc ks loc (.long (x * y) :: st) h := rfl
theorem s_Frame_layWays_101 {x : Nat} {l0 : Option Value} {l : eg_Lo} : wps rm K Q c_Frame_layWays_101 kc ks (l0 :: some (.ref x) :: l) (st) h = wps rm K Q c_Frame_layWays_102 kc ks (l0 :: some (.ref x) :: l) (.ref x :: st) h := rfl
theorem s_Frame_layWays_102  : wps rm K Q c_Frame_layWays_102 kc ks loc (st) h = wps rm K Q c_Frame_layWays_103 kc ks loc (.int (1) :: st) h := rfl
theorem s_Frame_layWays_103 {x : Nat} {i : Int32} : wps rm K Q c_Frame_layWays_103 kc ks loc (.int i :: .ref (x + 1) :: st) h = eg_la h x i (fun v => wps rm K Q c_Frame_layWays_104 kc ks loc (.long v :: st) h) := rfl
theorem s_Frame_layWays_104 {x : Int32} {l0 l1 l2 : Option Value} {l : eg_Lo} : wps rm K Q c_Frame_layWays_104 kc ks (l0 :: l1 :: l2 :: some (.int x) :: l) (st) h = wps rm K Q c_Frame_layWays_105 kc ks (l0 :: l1 :: l2 :: some (.int x) :: l) (.int x :: st) h := rfl
theorem s_Frame_layWays_105 {x : Int32} : wps rm K Q c_Frame_layWays_105 kc ks loc (.int x :: st) h = wps rm K Q c_Frame_layWays_106 kc ks loc (.long (x.toInt64) :: st) h := rfl
theorem s_Frame_layWays_106 {x y : Int64} : wps rm K Q c_Frame_layWays_106 kc ks loc (.long y :: .long x :: st) h = wps rm K Q c_Frame_layWays_107 kc ks loc (.long (x * y) :: st) h := rfl
theorem s_Frame_layWays_107 {x y : Int64} : wps rm K Q c_Frame_layWays_107 kc ks loc (.long y :: .long x :: st) h = wps rm K Q c_Frame_layWays_108 kc ks loc (.long (x + y) :: st) h := rfl
theorem s_Frame_layWays_108 {x : Nat} {l0 : Option Value} {l : eg_Lo} : wps rm K Q c_Frame_layWays_108 kc ks (l0 :: some (.ref x) :: l) (st) h = wps rm K Q c_Frame_layWays_109 kc ks (l0 :: some (.ref x) :: l) (.ref x :: st) h := rfl
theorem s_Frame_layWays_109  : wps rm K Q c_Frame_layWays_109 kc ks loc (st) h = wps rm K Q c_Frame_layWays_110 kc ks loc (.int (2) :: st) h := rfl
theorem s_Frame_layWays_110 {x : Nat} {i : Int32} : wps rm K Q c_Frame_layWays_110 kc ks loc (.int i :: .ref (x + 1) :: st) h = eg_la h x i (fun v => wps rm K Q c_Frame_layWays_111 kc ks loc (.long v :: st) h) := rfl
theorem s_Frame_layWays_111 {x : Int32} {l0 l1 l2 l3 : Option Value} {l : eg_Lo} : wps rm K Q c_Frame_layWays_111 kc ks (l0 :: l1 :: l2 :: l3 :: some (.int x) :: l) (st) h = wps rm K Q c_Frame_layWays_113 kc ks (l0 :: l1 :: l2 :: l3 :: some (.int x) :: l) (.int x :: st) h := rfl
theorem s_Frame_layWays_113 {x : Int32} : wps rm K Q c_Frame_layWays_113 kc ks loc (.int x :: st) h = wps rm K Q c_Frame_layWays_114 kc ks loc (.long (x.toInt64) :: st) h := rfl
theorem s_Frame_layWays_114 {x y : Int64} : wps rm K Q c_Frame_layWays_114 kc ks loc (.long y :: .long x :: st) h = wps rm K Q c_Frame_layWays_115 kc ks loc (.long (x * y) :: st) h := rfl
theorem s_Frame_layWays_115 {x y : Int64} : wps rm K Q c_Frame_layWays_115 kc ks loc (.long y :: .long x :: st) h = wps rm K Q c_Frame_layWays_116 kc ks loc (.long (x + y) :: st) h := rfl
theorem s_Frame_layWays_116 {x : Int64} : wps rm K Q c_Frame_layWays_116 kc ks loc (.long x :: st) h = wps rm K Q c_Frame_layWays_118 kc ks (eg_set2 loc 13 (.long x)) (st) h := rfl
theorem s_Frame_layWays_118 {x : Nat} {l : eg_Lo} : wps rm K Q c_Frame_layWays_118 kc ks (some (.ref x) :: l) (st) h = wps rm K Q c_Frame_layWays_119 kc ks (some (.ref x) :: l) (.ref x :: st) h := rfl
theorem s_Frame_layWays_119  : wps rm K Q c_Frame_layWays_119 kc ks loc (st) h = wps rm K Q c_Frame_layWays_120 kc ks loc (.int (0) :: st) h := rfl
theorem s_Frame_layWays_120 {x : Nat} {l0 : Option Value} {l : eg_Lo} : wps rm K Q c_Frame_layWays_120 kc ks (l0 :: some (.ref x) :: l) (st) h = wps rm K Q c_Frame_layWays_121 kc ks (l0 :: some (.ref x) :: l) (.ref x :: st) h := rfl
theorem s_Frame_layWays_121  : wps rm K Q c_Frame_layWays_121 kc ks loc (st) h = wps rm K Q c_Frame_layWays_122 kc ks loc (.int (0) :: st) h := rfl
theorem s_Frame_layWays_122 {x : Nat} {i : Int32} : wps rm K Q c_Frame_layWays_122 kc ks loc (.int i :: .ref (x + 1) :: st) h = eg_la h x i (fun v => wps rm K Q c_Frame_layWays_123 kc ks loc (.long v :: st) h) := rfl
theorem s_Frame_layWays_123 {x : Nat} {l0 : Option Value} {l : eg_Lo} : wps rm K Q c_Frame_layWays_123 kc ks (l0 :: some (.ref x) :: l) (st) h = wps rm K Q c_Frame_layWays_124 kc ks (l0 :: some (.ref x) :: l) (.ref x :: st) h := rfl
theorem s_Frame_layWays_124  : wps rm K Q c_Frame_layWays_124 kc ks loc (st) h = wps rm K Q c_Frame_layWays_125 kc ks loc (.int (1) :: st) h := rfl
theorem s_Frame_layWays_125 {x : Nat} {i : Int32} : wps rm K Q c_Frame_layWays_125 kc ks loc (.int i :: .ref (x + 1) :: st) h = eg_la h x i (fun v => wps rm K Q c_Frame_layWays_126 kc ks loc (.long v :: st) h) := rfl
theorem s_Frame_layWays_126 {x : Nat} {l0 : Option Value} {l : eg_Lo} : wps rm K Q c_Frame_layWays_126 kc ks (l0 :: some (.ref x) :: l) (st) h = wps rm K Q c_Frame_layWays_127 kc ks (l0 :: some (.ref x) :: l) (.ref x :: st) h := rfl
theorem s_Frame_layWays_127  : wps rm K Q c_Frame_layWays_127 kc ks loc (st) h = wps rm K Q c_Frame_layWays_128 kc ks loc (.int (2) :: st) h := rfl
theorem s_Frame_layWays_128 {x : Nat} {i : Int32} : wps rm K Q c_Frame_layWays_128 kc ks loc (.int i :: .ref (x + 1) :: st) h = eg_la h x i (fun v => wps rm K Q c_Frame_layWays_129 kc ks loc (.long v :: st) h) := rfl
theorem s_Frame_layWays_129  {a1 : Value} {a2 : Value} {a3 : Value} {a4 : Value} {x : Nat} : wps rm K Q c_Frame_layWays_129 kc ks loc (a4 :: a3 :: a2 :: a1 :: .ref (x + 1) :: st) h = (eg_cls h x 5 ∧ st.length ≤ 4 ∧ eg_Cs n_Frame_setWay (.ref (x + 1) :: [a1, a2, a3, a4]) h (fun v h9 => wps rm K Q c_Frame_layWays_132 kc ks loc (v.toList ++ st) h9)) := eg_c1_4
theorem s_Frame_layWays_132 {x : Nat} {l : eg_Lo} : wps rm K Q c_Frame_layWays_132 kc ks (some (.ref x) :: l) (st) h = wps rm K Q c_Frame_layWays_133 kc ks (some (.ref x) :: l) (.ref x :: st) h := rfl
theorem s_Frame_layWays_133  : wps rm K Q c_Frame_layWays_133 kc ks loc (st) h = wps rm K Q c_Frame_layWays_134 kc ks loc (.int (1) :: st) h := rfl
theorem s_Frame_layWays_134 {x : Int32} {l0 l1 : Option Value} {l : eg_Lo} : wps rm K Q c_Frame_layWays_134 kc ks (l0 :: l1 :: some (.int x) :: l) (st) h = wps rm K Q c_Frame_layWays_135 kc ks (l0 :: l1 :: some (.int x) :: l) (.int x :: st) h := rfl
theorem s_Frame_layWays_135 {x : Int32} : wps rm K Q c_Frame_layWays_135 kc ks loc (.int x :: st) h = wps rm K Q c_Frame_layWays_136 kc ks loc (.long (x.toInt64) :: st) h := rfl
theorem s_Frame_layWays_136 {x : Int64} {l0 l1 l2 l3 l4 l5 l6 l7 l8 l9 l10 : Option Value} {l : eg_Lo} : wps rm K Q c_Frame_layWays_136 kc ks (l0 :: l1 :: l2 :: l3 :: l4 :: l5 :: l6 :: l7 :: l8 :: l9 :: l10 :: some (.long x) :: l) (st) h = wps rm K Q c_Frame_layWays_138 kc ks (l0 :: l1 :: l2 :: l3 :: l4 :: l5 :: l6 :: l7 :: l8 :: l9 :: l10 :: some (.long x) :: l) (.long x :: st) h := rfl
theorem s_Frame_layWays_138 {x y : Int64} : wps rm K Q c_Frame_layWays_138 kc ks loc (.long y :: .long x :: st) h = wps rm K Q c_Frame_layWays_139 kc ks loc (.long (x * y) :: st) h := rfl
theorem s_Frame_layWays_139 {x : Nat} {l0 : Option Value} {l : eg_Lo} : wps rm K Q c_Frame_layWays_139 kc ks (l0 :: some (.ref x) :: l) (st) h = wps rm K Q c_Frame_layWays_140 kc ks (l0 :: some (.ref x) :: l) (.ref x :: st) h := rfl
theorem s_Frame_layWays_140  : wps rm K Q c_Frame_layWays_140 kc ks loc (st) h = wps rm K Q c_Frame_layWays_141 kc ks loc (.int (0) :: st) h := rfl
theorem s_Frame_layWays_141 {x : Nat} {i : Int32} : wps rm K Q c_Frame_layWays_141 kc ks loc (.int i :: .ref (x + 1) :: st) h = eg_la h x i (fun v => wps rm K Q c_Frame_layWays_142 kc ks loc (.long v :: st) h) := rfl
theorem s_Frame_layWays_142 {x : Int64} {l0 l1 l2 l3 l4 l5 l6 l7 l8 l9 l10 l11 l12 : Option Value} {l : eg_Lo} : wps rm K Q c_Frame_layWays_142 kc ks (l0 :: l1 :: l2 :: l3 :: l4 :: l5 :: l6 :: l7 :: l8 :: l9 :: l10 :: l11 :: l12 :: some (.long x) :: l) (st) h = wps rm K Q c_Frame_layWays_144 kc ks (l0 :: l1 :: l2 :: l3 :: l4 :: l5 :: l6 :: l7 :: l8 :: l9 :: l10 :: l11 :: l12 :: some (.long x) :: l) (.long x :: st) h := rfl
theorem s_Frame_layWays_144 {x y : Int64} : wps rm K Q c_Frame_layWays_144 kc ks loc (.long y :: .long x :: st) h = wps rm K Q c_Frame_layWays_145 kc ks loc (.long (x * y) :: st) h := rfl
theorem s_Frame_layWays_145 {x y : Int64} : wps rm K Q c_Frame_layWays_145 kc ks loc (.long y :: .long x :: st) h = wps rm K Q c_Frame_layWays_146 kc ks loc (.long (x - y) :: st) h := rfl
theorem s_Frame_layWays_146 {x : Int32} {l0 l1 l2 : Option Value} {l : eg_Lo} : wps rm K Q c_Frame_layWays_146 kc ks (l0 :: l1 :: l2 :: some (.int x) :: l) (st) h = wps rm K Q c_Frame_layWays_147 kc ks (l0 :: l1 :: l2 :: some (.int x) :: l) (.int x :: st) h := rfl
theorem s_Frame_layWays_147 {x : Int32} : wps rm K Q c_Frame_layWays_147 kc ks loc (.int x :: st) h = wps rm K Q c_Frame_layWays_148 kc ks loc (.long (x.toInt64) :: st) h := rfl
theorem s_Frame_layWays_148 {x : Int64} {l0 l1 l2 l3 l4 l5 l6 l7 l8 l9 l10 : Option Value} {l : eg_Lo} : wps rm K Q c_Frame_layWays_148 kc ks (l0 :: l1 :: l2 :: l3 :: l4 :: l5 :: l6 :: l7 :: l8 :: l9 :: l10 :: some (.long x) :: l) (st) h = wps rm K Q c_Frame_layWays_150 kc ks (l0 :: l1 :: l2 :: l3 :: l4 :: l5 :: l6 :: l7 :: l8 :: l9 :: l10 :: some (.long x) :: l) (.long x :: st) h := rfl
theorem s_Frame_layWays_150 {x y : Int64} : wps rm K Q c_Frame_layWays_150 kc ks loc (.long y :: .long x :: st) h = wps rm K Q c_Frame_layWays_151 kc ks loc (.long (x * y) :: st) h := rfl
theorem s_Frame_layWays_151 {x : Nat} {l0 : Option Value} {l : eg_Lo} : wps rm K Q c_Frame_layWays_151 kc ks (l0 :: some (.ref x) :: l) (st) h = wps rm K Q c_Frame_layWays_152 kc ks (l0 :: some (.ref x) :: l) (.ref x :: st) h := rfl
theorem s_Frame_layWays_152  : wps rm K Q c_Frame_layWays_152 kc ks loc (st) h = wps rm K Q c_Frame_layWays_153 kc ks loc (.int (1) :: st) h := rfl
theorem s_Frame_layWays_153 {x : Nat} {i : Int32} : wps rm K Q c_Frame_layWays_153 kc ks loc (.int i :: .ref (x + 1) :: st) h = eg_la h x i (fun v => wps rm K Q c_Frame_layWays_154 kc ks loc (.long v :: st) h) := rfl
theorem s_Frame_layWays_154 {x : Int64} {l0 l1 l2 l3 l4 l5 l6 l7 l8 l9 l10 l11 l12 : Option Value} {l : eg_Lo} : wps rm K Q c_Frame_layWays_154 kc ks (l0 :: l1 :: l2 :: l3 :: l4 :: l5 :: l6 :: l7 :: l8 :: l9 :: l10 :: l11 :: l12 :: some (.long x) :: l) (st) h = wps rm K Q c_Frame_layWays_156 kc ks (l0 :: l1 :: l2 :: l3 :: l4 :: l5 :: l6 :: l7 :: l8 :: l9 :: l10 :: l11 :: l12 :: some (.long x) :: l) (.long x :: st) h := rfl
theorem s_Frame_layWays_156 {x y : Int64} : wps rm K Q c_Frame_layWays_156 kc ks loc (.long y :: .long x :: st) h = wps rm K Q c_Frame_layWays_157 kc ks loc (.long (x * y) :: st) h := rfl
theorem s_Frame_layWays_157 {x y : Int64} : wps rm K Q c_Frame_layWays_157 kc ks loc (.long y :: .long x :: st) h = wps rm K Q c_Frame_layWays_158 kc ks loc (.long (x - y) :: st) h := rfl
theorem s_Frame_layWays_158 {x : Int32} {l0 l1 l2 l3 : Option Value} {l : eg_Lo} : wps rm K Q c_Frame_layWays_158 kc ks (l0 :: l1 :: l2 :: l3 :: some (.int x) :: l) (st) h = wps rm K Q c_Frame_layWays_160 kc ks (l0 :: l1 :: l2 :: l3 :: some (.int x) :: l) (.int x :: st) h := rfl
theorem s_Frame_layWays_160 {x : Int32} : wps rm K Q c_Frame_layWays_160 kc ks loc (.int x :: st) h = wps rm K Q c_Frame_layWays_161 kc ks loc (.long (x.toInt64) :: st) h := rfl
theorem s_Frame_layWays_161 {x : Int64} {l0 l1 l2 l3 l4 l5 l6 l7 l8 l9 l10 : Option Value} {l : eg_Lo} : wps rm K Q c_Frame_layWays_161 kc ks (l0 :: l1 :: l2 :: l3 :: l4 :: l5 :: l6 :: l7 :: l8 :: l9 :: l10 :: some (.long x) :: l) (st) h = wps rm K Q c_Frame_layWays_163 kc ks (l0 :: l1 :: l2 :: l3 :: l4 :: l5 :: l6 :: l7 :: l8 :: l9 :: l10 :: some (.long x) :: l) (.long x :: st) h := rfl
theorem s_Frame_layWays_163 {x y : Int64} : wps rm K Q c_Frame_layWays_163 kc ks loc (.long y :: .long x :: st) h = wps rm K Q c_Frame_layWays_164 kc ks loc (.long (x * y) :: st) h := rfl
theorem s_Frame_layWays_164 {x : Nat} {l0 : Option Value} {l : eg_Lo} : wps rm K Q c_Frame_layWays_164 kc ks (l0 :: some (.ref x) :: l) (st) h = wps rm K Q c_Frame_layWays_165 kc ks (l0 :: some (.ref x) :: l) (.ref x :: st) h := rfl
theorem s_Frame_layWays_165  : wps rm K Q c_Frame_layWays_165 kc ks loc (st) h = wps rm K Q c_Frame_layWays_166 kc ks loc (.int (2) :: st) h := rfl
theorem s_Frame_layWays_166 {x : Nat} {i : Int32} : wps rm K Q c_Frame_layWays_166 kc ks loc (.int i :: .ref (x + 1) :: st) h = eg_la h x i (fun v => wps rm K Q c_Frame_layWays_167 kc ks loc (.long v :: st) h) := rfl
theorem s_Frame_layWays_167 {x : Int64} {l0 l1 l2 l3 l4 l5 l6 l7 l8 l9 l10 l11 l12 : Option Value} {l : eg_Lo} : wps rm K Q c_Frame_layWays_167 kc ks (l0 :: l1 :: l2 :: l3 :: l4 :: l5 :: l6 :: l7 :: l8 :: l9 :: l10 :: l11 :: l12 :: some (.long x) :: l) (st) h = wps rm K Q c_Frame_layWays_169 kc ks (l0 :: l1 :: l2 :: l3 :: l4 :: l5 :: l6 :: l7 :: l8 :: l9 :: l10 :: l11 :: l12 :: some (.long x) :: l) (.long x :: st) h := rfl
theorem s_Frame_layWays_169 {x y : Int64} : wps rm K Q c_Frame_layWays_169 kc ks loc (.long y :: .long x :: st) h = wps rm K Q c_Frame_layWays_170 kc ks loc (.long (x * y) :: st) h := rfl
theorem s_Frame_layWays_170 {x y : Int64} : wps rm K Q c_Frame_layWays_170 kc ks loc (.long y :: .long x :: st) h = wps rm K Q c_Frame_layWays_171 kc ks loc (.long (x - y) :: st) h := rfl
theorem s_Frame_layWays_171  {a1 : Value} {a2 : Value} {a3 : Value} {a4 : Value} {x : Nat} : wps rm K Q c_Frame_layWays_171 kc ks loc (a4 :: a3 :: a2 :: a1 :: .ref (x + 1) :: st) h = (eg_cls h x 5 ∧ st.length ≤ 4 ∧ eg_Cs n_Frame_setWay (.ref (x + 1) :: [a1, a2, a3, a4]) h (fun v h9 => wps rm K Q c_Frame_layWays_174 kc ks loc (v.toList ++ st) h9)) := eg_c1_4
theorem s_Frame_layWays_174 {x : Nat} {l : eg_Lo} : wps rm K Q c_Frame_layWays_174 kc ks (some (.ref x) :: l) (st) h = wps rm K Q c_Frame_layWays_175 kc ks (some (.ref x) :: l) (.ref x :: st) h := rfl
theorem s_Frame_layWays_175  : wps rm K Q c_Frame_layWays_175 kc ks loc (st) h = wps rm K Q c_Frame_layWays_176 kc ks loc (.int (2) :: st) h := rfl
theorem s_Frame_layWays_176 {x : Int64} {l0 l1 l2 l3 l4 : Option Value} {l : eg_Lo} : wps rm K Q c_Frame_layWays_176 kc ks (l0 :: l1 :: l2 :: l3 :: l4 :: some (.long x) :: l) (st) h = wps rm K Q c_Frame_layWays_178 kc ks (l0 :: l1 :: l2 :: l3 :: l4 :: some (.long x) :: l) (.long x :: st) h := rfl
theorem s_Frame_layWays_178 {x : Int64} {l0 l1 l2 l3 l4 l5 l6 : Option Value} {l : eg_Lo} : wps rm K Q c_Frame_layWays_178 kc ks (l0 :: l1 :: l2 :: l3 :: l4 :: l5 :: l6 :: some (.long x) :: l) (st) h = wps rm K Q c_Frame_layWays_180 kc ks (l0 :: l1 :: l2 :: l3 :: l4 :: l5 :: l6 :: some (.long x) :: l) (.long x :: st) h := rfl
theorem s_Frame_layWays_180 {x : Int64} {l0 l1 l2 l3 l4 l5 l6 l7 l8 : Option Value} {l : eg_Lo} : wps rm K Q c_Frame_layWays_180 kc ks (l0 :: l1 :: l2 :: l3 :: l4 :: l5 :: l6 :: l7 :: l8 :: some (.long x) :: l) (st) h = wps rm K Q c_Frame_layWays_182 kc ks (l0 :: l1 :: l2 :: l3 :: l4 :: l5 :: l6 :: l7 :: l8 :: some (.long x) :: l) (.long x :: st) h := rfl
theorem s_Frame_layWays_182  {a1 : Value} {a2 : Value} {a3 : Value} {a4 : Value} {x : Nat} : wps rm K Q c_Frame_layWays_182 kc ks loc (a4 :: a3 :: a2 :: a1 :: .ref (x + 1) :: st) h = (eg_cls h x 5 ∧ st.length ≤ 4 ∧ eg_Cs n_Frame_setWay (.ref (x + 1) :: [a1, a2, a3, a4]) h (fun v h9 => wps rm K Q c_Frame_layWays_185 kc ks loc (v.toList ++ st) h9)) := eg_c1_4
theorem s_Frame_layWays_185  : wps rm K Q c_Frame_layWays_185 kc ks loc (st) h = wps rm K Q c_Frame_layWays_186 kc ks loc (.int (1) :: st) h := rfl
theorem s_Frame_layWays_186 {x : Int32} : wps rm K Q c_Frame_layWays_186 kc ks loc ([.int x]) h = (kc = rm.cells ∧ ((1 : Nat) = 1 → x = 0 ∨ x = 1) ∧ Q (some (.int x)) h) := rfl
def T_Frame_layWays : List (Nat × List eg_I) := [(70, c_Frame_layWays_70)]
theorem j_Frame_layWays_70 {R : Nat → Nat → Nat → eg_Lo → List Value → List eg_E → Prop} {f pc0 : Nat} : eg_run rm R Q T_Frame_layWays (f + 1) 70 kc ks loc st h = wps rm (eg_run rm R Q T_Frame_layWays f) Q c_Frame_layWays_70 kc ks loc st h := rfl
end
theorem q_Frame_layWays : (T_Frame_layWays.all fun q => eg_seq m_Frame_layWays q.1 q.2) = true := by decide +kernel
theorem b_Frame_layWays {as : List Value} {h : List eg_E} {Q : Option Value → List eg_E → Prop} (hf : (eg_fl as).length ≤ 15) (hw : wps (eg_rm m_Frame_layWays) (eg_run (eg_rm m_Frame_layWays) (eg_R m_Frame_layWays Q (h.length + 0)) Q T_Frame_layWays 3) Q c_Frame_layWays_0 0 0 (eg_entry 15 as) [] h) : eg_Runs n_Frame_layWays as h Q := eg_begin (d := m_Frame_layWays) rfl (by decide) (by decide +kernel) q_Frame_layWays hf hw
/-! ===== Frame_setWay ===== -/
def c_Frame_setWay_53 : List eg_I := .inl (53, 1, .return_, 0, 0) :: []
def c_Frame_setWay_50 : List eg_I := .inr (50, 0, 17, n_Frac_lower, 2, 4, 0, 0) :: c_Frame_setWay_53
def c_Frame_setWay_49 : List eg_I := .inl (49, 1, .imul, 0, 0) :: c_Frame_setWay_50
def c_Frame_setWay_48 : List eg_I := .inl (48, 1, .iload 1, 0, 0) :: c_Frame_setWay_49
def c_Frame_setWay_47 : List eg_I := .inl (47, 1, .iconst (3), 0, 0) :: c_Frame_setWay_48
def c_Frame_setWay_44 : List eg_I := .inl (44, 3, .getfield 7, 5, 0) :: c_Frame_setWay_47
def c_Frame_setWay_43 : List eg_I := .inl (43, 1, .aload 0, 0, 0) :: c_Frame_setWay_44
def c_Frame_setWay_42 : List eg_I := .inl (42, 1, .lastore, 0, 0) :: c_Frame_setWay_43
def c_Frame_setWay_40 : List eg_I := .inl (40, 2, .lload 6, 0, 0) :: c_Frame_setWay_42
def c_Frame_setWay_39 : List eg_I := .inl (39, 1, .iadd, 0, 0) :: c_Frame_setWay_40
def c_Frame_setWay_38 : List eg_I := .inl (38, 1, .iconst (2), 0, 0) :: c_Frame_setWay_39
def c_Frame_setWay_37 : List eg_I := .inl (37, 1, .imul, 0, 0) :: c_Frame_setWay_38
def c_Frame_setWay_36 : List eg_I := .inl (36, 1, .iload 1, 0, 0) :: c_Frame_setWay_37
def c_Frame_setWay_35 : List eg_I := .inl (35, 1, .iconst (3), 0, 0) :: c_Frame_setWay_36
def c_Frame_setWay_32 : List eg_I := .inl (32, 3, .getfield 7, 5, 0) :: c_Frame_setWay_35
def c_Frame_setWay_31 : List eg_I := .inl (31, 1, .aload 0, 0, 0) :: c_Frame_setWay_32
def c_Frame_setWay_30 : List eg_I := .inl (30, 1, .lastore, 0, 0) :: c_Frame_setWay_31
def c_Frame_setWay_28 : List eg_I := .inl (28, 2, .lload 4, 0, 0) :: c_Frame_setWay_30
def c_Frame_setWay_27 : List eg_I := .inl (27, 1, .iadd, 0, 0) :: c_Frame_setWay_28
def c_Frame_setWay_26 : List eg_I := .inl (26, 1, .iconst (1), 0, 0) :: c_Frame_setWay_27
def c_Frame_setWay_25 : List eg_I := .inl (25, 1, .imul, 0, 0) :: c_Frame_setWay_26
def c_Frame_setWay_24 : List eg_I := .inl (24, 1, .iload 1, 0, 0) :: c_Frame_setWay_25
def c_Frame_setWay_23 : List eg_I := .inl (23, 1, .iconst (3), 0, 0) :: c_Frame_setWay_24
def c_Frame_setWay_20 : List eg_I := .inl (20, 3, .getfield 7, 5, 0) :: c_Frame_setWay_23
def c_Frame_setWay_19 : List eg_I := .inl (19, 1, .aload 0, 0, 0) :: c_Frame_setWay_20
def c_Frame_setWay_18 : List eg_I := .inl (18, 1, .lastore, 0, 0) :: c_Frame_setWay_19
def c_Frame_setWay_17 : List eg_I := .inl (17, 1, .lload 2, 0, 0) :: c_Frame_setWay_18
def c_Frame_setWay_16 : List eg_I := .inl (16, 1, .imul, 0, 0) :: c_Frame_setWay_17
def c_Frame_setWay_15 : List eg_I := .inl (15, 1, .iload 1, 0, 0) :: c_Frame_setWay_16
def c_Frame_setWay_14 : List eg_I := .inl (14, 1, .iconst (3), 0, 0) :: c_Frame_setWay_15
def c_Frame_setWay_11 : List eg_I := .inl (11, 3, .getfield 7, 5, 0) :: c_Frame_setWay_14
def c_Frame_setWay_10 : List eg_I := .inl (10, 1, .aload 0, 0, 0) :: c_Frame_setWay_11
def c_Frame_setWay_9 : List eg_I := .inl (9, 1, .return_, 0, 0) :: []
def c_Frame_setWay_6 : List eg_I := .inl (6, 3, .if_icmp .le (4), 10, 0) :: c_Frame_setWay_9
def c_Frame_setWay_5 : List eg_I := .inl (5, 1, .iconst (2), 0, 0) :: c_Frame_setWay_6
def c_Frame_setWay_4 : List eg_I := .inl (4, 1, .iload 1, 0, 0) :: c_Frame_setWay_5
def c_Frame_setWay_1 : List eg_I := .inl (1, 3, .ifCond .lt (8), 9, 0) :: c_Frame_setWay_4
def c_Frame_setWay_0 : List eg_I := .inl (0, 1, .iload 1, 0, 0) :: c_Frame_setWay_1
section
variable {rm : Room} {K : Nat → Nat → Nat → eg_Lo → List Value → List eg_E → Prop} {Q : Option Value → List eg_E → Prop} {kc ks : Nat} {loc : eg_Lo} {st : List Value} {h : List eg_E}
theorem s_Frame_setWay_0 {x : Int32} {l0 : Option Value} {l : eg_Lo} : wps rm K Q c_Frame_setWay_0 kc ks (l0 :: some (.int x) :: l) (st) h = wps rm K Q c_Frame_setWay_1 kc ks (l0 :: some (.int x) :: l) (.int x :: st) h := rfl
theorem s_Frame_setWay_1 {x : Int32} : wps rm K Q c_Frame_setWay_1 kc ks loc (.int x :: st) h = ((x < 0 → K 9 kc ks loc st h) ∧ (¬ x < 0 → wps rm K Q c_Frame_setWay_4 kc ks loc (st) h)) := rfl
theorem s_Frame_setWay_4 {x : Int32} {l0 : Option Value} {l : eg_Lo} : wps rm K Q c_Frame_setWay_4 kc ks (l0 :: some (.int x) :: l) (st) h = wps rm K Q c_Frame_setWay_5 kc ks (l0 :: some (.int x) :: l) (.int x :: st) h := rfl
theorem s_Frame_setWay_5  : wps rm K Q c_Frame_setWay_5 kc ks loc (st) h = wps rm K Q c_Frame_setWay_6 kc ks loc (.int (2) :: st) h := rfl
theorem s_Frame_setWay_6 {x y : Int32} : wps rm K Q c_Frame_setWay_6 kc ks loc (.int y :: .int x :: st) h = ((x ≤ y → K 10 kc ks loc st h) ∧ (¬ x ≤ y → wps rm K Q c_Frame_setWay_9 kc ks loc (st) h)) := rfl
theorem s_Frame_setWay_9  : wps rm K Q c_Frame_setWay_9 kc ks loc ([]) h = (kc = rm.cells ∧ Q none h) := rfl
theorem s_Frame_setWay_10 {x : Nat} {l : eg_Lo} : wps rm K Q c_Frame_setWay_10 kc ks (some (.ref x) :: l) (st) h = wps rm K Q c_Frame_setWay_11 kc ks (some (.ref x) :: l) (.ref x :: st) h := rfl
theorem s_Frame_setWay_11 {x : Nat} : wps rm K Q c_Frame_setWay_11 kc ks loc (.ref (x + 1) :: st) h = eg_gf h x 5 0 (fun v => wps rm K Q c_Frame_setWay_14 kc ks loc (v :: st) h) := rfl
theorem s_Frame_setWay_14  : wps rm K Q c_Frame_setWay_14 kc ks loc (st) h = wps rm K Q c_Frame_setWay_15 kc ks loc (.int (3) :: st) h := rfl
theorem s_Frame_setWay_15 {x : Int32} {l0 : Option Value} {l : eg_Lo} : wps rm K Q c_Frame_setWay_15 kc ks (l0 :: some (.int x) :: l) (st) h = wps rm K Q c_Frame_setWay_16 kc ks (l0 :: some (.int x) :: l) (.int x :: st) h := rfl
theorem s_Frame_setWay_16 {x y : Int32} : wps rm K Q c_Frame_setWay_16 kc ks loc (.int y :: .int x :: st) h = wps rm K Q c_Frame_setWay_17 kc ks loc (.int (x * y) :: st) h := rfl
theorem s_Frame_setWay_17 {x : Int64} {l0 l1 : Option Value} {l : eg_Lo} : wps rm K Q c_Frame_setWay_17 kc ks (l0 :: l1 :: some (.long x) :: l) (st) h = wps rm K Q c_Frame_setWay_18 kc ks (l0 :: l1 :: some (.long x) :: l) (.long x :: st) h := rfl
theorem s_Frame_setWay_18 {x : Nat} {i : Int32} {v : Int64} : wps rm K Q c_Frame_setWay_18 kc ks loc (.long v :: .int i :: .ref (x + 1) :: st) h = eg_lst h x i v (fun h9 => wps rm K Q c_Frame_setWay_19 kc ks loc (st) h9) := rfl
theorem s_Frame_setWay_19 {x : Nat} {l : eg_Lo} : wps rm K Q c_Frame_setWay_19 kc ks (some (.ref x) :: l) (st) h = wps rm K Q c_Frame_setWay_20 kc ks (some (.ref x) :: l) (.ref x :: st) h := rfl
theorem s_Frame_setWay_20 {x : Nat} : wps rm K Q c_Frame_setWay_20 kc ks loc (.ref (x + 1) :: st) h = eg_gf h x 5 0 (fun v => wps rm K Q c_Frame_setWay_23 kc ks loc (v :: st) h) := rfl
theorem s_Frame_setWay_23  : wps rm K Q c_Frame_setWay_23 kc ks loc (st) h = wps rm K Q c_Frame_setWay_24 kc ks loc (.int (3) :: st) h := rfl
theorem s_Frame_setWay_24 {x : Int32} {l0 : Option Value} {l : eg_Lo} : wps rm K Q c_Frame_setWay_24 kc ks (l0 :: some (.int x) :: l) (st) h = wps rm K Q c_Frame_setWay_25 kc ks (l0 :: some (.int x) :: l) (.int x :: st) h := rfl
theorem s_Frame_setWay_25 {x y : Int32} : wps rm K Q c_Frame_setWay_25 kc ks loc (.int y :: .int x :: st) h = wps rm K Q c_Frame_setWay_26 kc ks loc (.int (x * y) :: st) h := rfl
theorem s_Frame_setWay_26  : wps rm K Q c_Frame_setWay_26 kc ks loc (st) h = wps rm K Q c_Frame_setWay_27 kc ks loc (.int (1) :: st) h := rfl
theorem s_Frame_setWay_27 {x y : Int32} : wps rm K Q c_Frame_setWay_27 kc ks loc (.int y :: .int x :: st) h = wps rm K Q c_Frame_setWay_28 kc ks loc (.int (x + y) :: st) h := rfl
theorem s_Frame_setWay_28 {x : Int64} {l0 l1 l2 l3 : Option Value} {l : eg_Lo} : wps rm K Q c_Frame_setWay_28 kc ks (l0 :: l1 :: l2 :: l3 :: some (.long x) :: l) (st) h = wps rm K Q c_Frame_setWay_30 kc ks (l0 :: l1 :: l2 :: l3 :: some (.long x) :: l) (.long x :: st) h := rfl
theorem s_Frame_setWay_30 {x : Nat} {i : Int32} {v : Int64} : wps rm K Q c_Frame_setWay_30 kc ks loc (.long v :: .int i :: .ref (x + 1) :: st) h = eg_lst h x i v (fun h9 => wps rm K Q c_Frame_setWay_31 kc ks loc (st) h9) := rfl
theorem s_Frame_setWay_31 {x : Nat} {l : eg_Lo} : wps rm K Q c_Frame_setWay_31 kc ks (some (.ref x) :: l) (st) h = wps rm K Q c_Frame_setWay_32 kc ks (some (.ref x) :: l) (.ref x :: st) h := rfl
theorem s_Frame_setWay_32 {x : Nat} : wps rm K Q c_Frame_setWay_32 kc ks loc (.ref (x + 1) :: st) h = eg_gf h x 5 0 (fun v => wps rm K Q c_Frame_setWay_35 kc ks loc (v :: st) h) := rfl
theorem s_Frame_setWay_35  : wps rm K Q c_Frame_setWay_35 kc ks loc (st) h = wps rm K Q c_Frame_setWay_36 kc ks loc (.int (3) :: st) h := rfl
theorem s_Frame_setWay_36 {x : Int32} {l0 : Option Value} {l : eg_Lo} : wps rm K Q c_Frame_setWay_36 kc ks (l0 :: some (.int x) :: l) (st) h = wps rm K Q c_Frame_setWay_37 kc ks (l0 :: some (.int x) :: l) (.int x :: st) h := rfl
theorem s_Frame_setWay_37 {x y : Int32} : wps rm K Q c_Frame_setWay_37 kc ks loc (.int y :: .int x :: st) h = wps rm K Q c_Frame_setWay_38 kc ks loc (.int (x * y) :: st) h := rfl
theorem s_Frame_setWay_38  : wps rm K Q c_Frame_setWay_38 kc ks loc (st) h = wps rm K Q c_Frame_setWay_39 kc ks loc (.int (2) :: st) h := rfl
theorem s_Frame_setWay_39 {x y : Int32} : wps rm K Q c_Frame_setWay_39 kc ks loc (.int y :: .int x :: st) h = wps rm K Q c_Frame_setWay_40 kc ks loc (.int (x + y) :: st) h := rfl
theorem s_Frame_setWay_40 {x : Int64} {l0 l1 l2 l3 l4 l5 : Option Value} {l : eg_Lo} : wps rm K Q c_Frame_setWay_40 kc ks (l0 :: l1 :: l2 :: l3 :: l4 :: l5 :: some (.long x) :: l) (st) h = wps rm K Q c_Frame_setWay_42 kc ks (l0 :: l1 :: l2 :: l3 :: l4 :: l5 :: some (.long x) :: l) (.long x :: st) h := rfl
theorem s_Frame_setWay_42 {x : Nat} {i : Int32} {v : Int64} : wps rm K Q c_Frame_setWay_42 kc ks loc (.long v :: .int i :: .ref (x + 1) :: st) h = eg_lst h x i v (fun h9 => wps rm K Q c_Frame_setWay_43 kc ks loc (st) h9) := rfl
theorem s_Frame_setWay_43 {x : Nat} {l : eg_Lo} : wps rm K Q c_Frame_setWay_43 kc ks (some (.ref x) :: l) (st) h = wps rm K Q c_Frame_setWay_44 kc ks (some (.ref x) :: l) (.ref x :: st) h := rfl
theorem s_Frame_setWay_44 {x : Nat} : wps rm K Q c_Frame_setWay_44 kc ks loc (.ref (x + 1) :: st) h = eg_gf h x 5 0 (fun v => wps rm K Q c_Frame_setWay_47 kc ks loc (v :: st) h) := rfl
theorem s_Frame_setWay_47  : wps rm K Q c_Frame_setWay_47 kc ks loc (st) h = wps rm K Q c_Frame_setWay_48 kc ks loc (.int (3) :: st) h := rfl
theorem s_Frame_setWay_48 {x : Int32} {l0 : Option Value} {l : eg_Lo} : wps rm K Q c_Frame_setWay_48 kc ks (l0 :: some (.int x) :: l) (st) h = wps rm K Q c_Frame_setWay_49 kc ks (l0 :: some (.int x) :: l) (.int x :: st) h := rfl
theorem s_Frame_setWay_49 {x y : Int32} : wps rm K Q c_Frame_setWay_49 kc ks loc (.int y :: .int x :: st) h = wps rm K Q c_Frame_setWay_50 kc ks loc (.int (x * y) :: st) h := rfl
theorem s_Frame_setWay_50  {a1 : Value} {a2 : Value} : wps rm K Q c_Frame_setWay_50 kc ks loc (a2 :: a1 :: st) h = (st.length ≤ 4 ∧ eg_Cs n_Frac_lower [a1, a2] h (fun v h9 => wps rm K Q c_Frame_setWay_53 kc ks loc (v.toList ++ st) h9)) := eg_c0_2
theorem s_Frame_setWay_53  : wps rm K Q c_Frame_setWay_53 kc ks loc ([]) h = (kc = rm.cells ∧ Q none h) := rfl
def T_Frame_setWay : List (Nat × List eg_I) := [(9, c_Frame_setWay_9), (10, c_Frame_setWay_10)]
theorem j_Frame_setWay_9 {R : Nat → Nat → Nat → eg_Lo → List Value → List eg_E → Prop} {f pc0 : Nat} : eg_run rm R Q T_Frame_setWay (f + 1) 9 kc ks loc st h = wps rm (eg_run rm R Q T_Frame_setWay f) Q c_Frame_setWay_9 kc ks loc st h := rfl
theorem j_Frame_setWay_10 {R : Nat → Nat → Nat → eg_Lo → List Value → List eg_E → Prop} {f pc0 : Nat} : eg_run rm R Q T_Frame_setWay (f + 1) 10 kc ks loc st h = wps rm (eg_run rm R Q T_Frame_setWay f) Q c_Frame_setWay_10 kc ks loc st h := rfl
end
theorem q_Frame_setWay : (T_Frame_setWay.all fun q => eg_seq m_Frame_setWay q.1 q.2) = true := by decide +kernel
theorem b_Frame_setWay {as : List Value} {h : List eg_E} {Q : Option Value → List eg_E → Prop} (hf : (eg_fl as).length ≤ 8) (hw : wps (eg_rm m_Frame_setWay) (eg_run (eg_rm m_Frame_setWay) (eg_R m_Frame_setWay Q (h.length + 0)) Q T_Frame_setWay 4) Q c_Frame_setWay_0 0 0 (eg_entry 8 as) [] h) : eg_Runs n_Frame_setWay as h Q := eg_begin (d := m_Frame_setWay) rfl (by decide) (by decide +kernel) q_Frame_setWay hf hw
/-! ===== Frame_begin ===== -/
def c_Frame_begin_35 : List eg_I := .inl (35, 1, .return_, 0, 0) :: []
def c_Frame_begin_32 : List eg_I := .inl (32, 3, .putstatic 45, 5, 1) :: c_Frame_begin_35
def c_Frame_begin_31 : List eg_I := .inl (31, 1, .iconst (1), 0, 0) :: c_Frame_begin_32
def c_Frame_begin_30 : List eg_I := .inl (30, 1, .aload 0, 0, 0) :: c_Frame_begin_31
def c_Frame_begin_27 : List eg_I := .inl (27, 3, .putfield 42, 5, 4) :: c_Frame_begin_30
def c_Frame_begin_26 : List eg_I := .inl (26, 1, .iaload, 0, 0) :: c_Frame_begin_27
def c_Frame_begin_25 : List eg_I := .inl (25, 1, .iload 2, 0, 0) :: c_Frame_begin_26
def c_Frame_begin_22 : List eg_I := .inl (22, 3, .getfield 39, 8, 2) :: c_Frame_begin_25
def c_Frame_begin_21 : List eg_I := .inl (21, 1, .aload 1, 0, 0) :: c_Frame_begin_22
def c_Frame_begin_20 : List eg_I := .inl (20, 1, .aload 0, 0, 0) :: c_Frame_begin_21
def c_Frame_begin_17 : List eg_I := .inl (17, 3, .putfield 36, 5, 3) :: c_Frame_begin_20
def c_Frame_begin_16 : List eg_I := .inl (16, 1, .iaload, 0, 0) :: c_Frame_begin_17
def c_Frame_begin_15 : List eg_I := .inl (15, 1, .iload 2, 0, 0) :: c_Frame_begin_16
def c_Frame_begin_12 : List eg_I := .inl (12, 3, .getfield 33, 8, 1) :: c_Frame_begin_15
def c_Frame_begin_11 : List eg_I := .inl (11, 1, .aload 1, 0, 0) :: c_Frame_begin_12
def c_Frame_begin_10 : List eg_I := .inl (10, 1, .aload 0, 0, 0) :: c_Frame_begin_11
def c_Frame_begin_7 : List eg_I := .inl (7, 3, .putfield 29, 5, 2) :: c_Frame_begin_10
def c_Frame_begin_6 : List eg_I := .inl (6, 1, .iaload, 0, 0) :: c_Frame_begin_7
def c_Frame_begin_5 : List eg_I := .inl (5, 1, .iload 2, 0, 0) :: c_Frame_begin_6
def c_Frame_begin_2 : List eg_I := .inl (2, 3, .getfield 23, 8, 0) :: c_Frame_begin_5
def c_Frame_begin_1 : List eg_I := .inl (1, 1, .aload 1, 0, 0) :: c_Frame_begin_2
def c_Frame_begin_0 : List eg_I := .inl (0, 1, .aload 0, 0, 0) :: c_Frame_begin_1
section
variable {rm : Room} {K : Nat → Nat → Nat → eg_Lo → List Value → List eg_E → Prop} {Q : Option Value → List eg_E → Prop} {kc ks : Nat} {loc : eg_Lo} {st : List Value} {h : List eg_E}
theorem s_Frame_begin_0 {x : Nat} {l : eg_Lo} : wps rm K Q c_Frame_begin_0 kc ks (some (.ref x) :: l) (st) h = wps rm K Q c_Frame_begin_1 kc ks (some (.ref x) :: l) (.ref x :: st) h := rfl
theorem s_Frame_begin_1 {x : Nat} {l0 : Option Value} {l : eg_Lo} : wps rm K Q c_Frame_begin_1 kc ks (l0 :: some (.ref x) :: l) (st) h = wps rm K Q c_Frame_begin_2 kc ks (l0 :: some (.ref x) :: l) (.ref x :: st) h := rfl
theorem s_Frame_begin_2 {x : Nat} : wps rm K Q c_Frame_begin_2 kc ks loc (.ref (x + 1) :: st) h = eg_gf h x 8 0 (fun v => wps rm K Q c_Frame_begin_5 kc ks loc (v :: st) h) := rfl
theorem s_Frame_begin_5 {x : Int32} {l0 l1 : Option Value} {l : eg_Lo} : wps rm K Q c_Frame_begin_5 kc ks (l0 :: l1 :: some (.int x) :: l) (st) h = wps rm K Q c_Frame_begin_6 kc ks (l0 :: l1 :: some (.int x) :: l) (.int x :: st) h := rfl
theorem s_Frame_begin_6 {x : Nat} {i : Int32} : wps rm K Q c_Frame_begin_6 kc ks loc (.int i :: .ref (x + 1) :: st) h = eg_ia h x i (fun v => wps rm K Q c_Frame_begin_7 kc ks loc (.int v :: st) h) := rfl
theorem s_Frame_begin_7 {x : Nat} {v : Value} : wps rm K Q c_Frame_begin_7 kc ks loc (v :: .ref (x + 1) :: st) h = eg_pf h x 5 2 v (fun h9 => wps rm K Q c_Frame_begin_10 kc ks loc (st) h9) := rfl
theorem s_Frame_begin_10 {x : Nat} {l : eg_Lo} : wps rm K Q c_Frame_begin_10 kc ks (some (.ref x) :: l) (st) h = wps rm K Q c_Frame_begin_11 kc ks (some (.ref x) :: l) (.ref x :: st) h := rfl
theorem s_Frame_begin_11 {x : Nat} {l0 : Option Value} {l : eg_Lo} : wps rm K Q c_Frame_begin_11 kc ks (l0 :: some (.ref x) :: l) (st) h = wps rm K Q c_Frame_begin_12 kc ks (l0 :: some (.ref x) :: l) (.ref x :: st) h := rfl
theorem s_Frame_begin_12 {x : Nat} : wps rm K Q c_Frame_begin_12 kc ks loc (.ref (x + 1) :: st) h = eg_gf h x 8 1 (fun v => wps rm K Q c_Frame_begin_15 kc ks loc (v :: st) h) := rfl
theorem s_Frame_begin_15 {x : Int32} {l0 l1 : Option Value} {l : eg_Lo} : wps rm K Q c_Frame_begin_15 kc ks (l0 :: l1 :: some (.int x) :: l) (st) h = wps rm K Q c_Frame_begin_16 kc ks (l0 :: l1 :: some (.int x) :: l) (.int x :: st) h := rfl
theorem s_Frame_begin_16 {x : Nat} {i : Int32} : wps rm K Q c_Frame_begin_16 kc ks loc (.int i :: .ref (x + 1) :: st) h = eg_ia h x i (fun v => wps rm K Q c_Frame_begin_17 kc ks loc (.int v :: st) h) := rfl
theorem s_Frame_begin_17 {x : Nat} {v : Value} : wps rm K Q c_Frame_begin_17 kc ks loc (v :: .ref (x + 1) :: st) h = eg_pf h x 5 3 v (fun h9 => wps rm K Q c_Frame_begin_20 kc ks loc (st) h9) := rfl
theorem s_Frame_begin_20 {x : Nat} {l : eg_Lo} : wps rm K Q c_Frame_begin_20 kc ks (some (.ref x) :: l) (st) h = wps rm K Q c_Frame_begin_21 kc ks (some (.ref x) :: l) (.ref x :: st) h := rfl
theorem s_Frame_begin_21 {x : Nat} {l0 : Option Value} {l : eg_Lo} : wps rm K Q c_Frame_begin_21 kc ks (l0 :: some (.ref x) :: l) (st) h = wps rm K Q c_Frame_begin_22 kc ks (l0 :: some (.ref x) :: l) (.ref x :: st) h := rfl
theorem s_Frame_begin_22 {x : Nat} : wps rm K Q c_Frame_begin_22 kc ks loc (.ref (x + 1) :: st) h = eg_gf h x 8 2 (fun v => wps rm K Q c_Frame_begin_25 kc ks loc (v :: st) h) := rfl
theorem s_Frame_begin_25 {x : Int32} {l0 l1 : Option Value} {l : eg_Lo} : wps rm K Q c_Frame_begin_25 kc ks (l0 :: l1 :: some (.int x) :: l) (st) h = wps rm K Q c_Frame_begin_26 kc ks (l0 :: l1 :: some (.int x) :: l) (.int x :: st) h := rfl
theorem s_Frame_begin_26 {x : Nat} {i : Int32} : wps rm K Q c_Frame_begin_26 kc ks loc (.int i :: .ref (x + 1) :: st) h = eg_ia h x i (fun v => wps rm K Q c_Frame_begin_27 kc ks loc (.int v :: st) h) := rfl
theorem s_Frame_begin_27 {x : Nat} {v : Value} : wps rm K Q c_Frame_begin_27 kc ks loc (v :: .ref (x + 1) :: st) h = eg_pf h x 5 4 v (fun h9 => wps rm K Q c_Frame_begin_30 kc ks loc (st) h9) := rfl
theorem s_Frame_begin_30 {x : Nat} {l : eg_Lo} : wps rm K Q c_Frame_begin_30 kc ks (some (.ref x) :: l) (st) h = wps rm K Q c_Frame_begin_31 kc ks (some (.ref x) :: l) (.ref x :: st) h := rfl
theorem s_Frame_begin_31  : wps rm K Q c_Frame_begin_31 kc ks loc (st) h = wps rm K Q c_Frame_begin_32 kc ks loc (.int (1) :: st) h := rfl
theorem s_Frame_begin_32 {x : Nat} {v : Int32} : wps rm K Q c_Frame_begin_32 kc ks loc (.int v :: .ref (x + 1) :: st) h = eg_pb h x 5 1 v (fun h9 => wps rm K Q c_Frame_begin_35 kc ks loc (st) h9) := rfl
theorem s_Frame_begin_35  : wps rm K Q c_Frame_begin_35 kc ks loc ([]) h = (kc = rm.cells ∧ Q none h) := rfl
def T_Frame_begin : List (Nat × List eg_I) := []
end
theorem q_Frame_begin : (T_Frame_begin.all fun q => eg_seq m_Frame_begin q.1 q.2) = true := by decide +kernel
theorem b_Frame_begin {as : List Value} {h : List eg_E} {Q : Option Value → List eg_E → Prop} (hf : (eg_fl as).length ≤ 3) (hw : wps (eg_rm m_Frame_begin) (eg_run (eg_rm m_Frame_begin) (eg_R m_Frame_begin Q (h.length + 0)) Q T_Frame_begin 2) Q c_Frame_begin_0 0 0 (eg_entry 3 as) [] h) : eg_Runs n_Frame_begin as h Q := eg_begin (d := m_Frame_begin) rfl (by decide) (by decide +kernel) q_Frame_begin hf hw
/-! ===== Frame_along ===== -/
def c_Frame_along_69 : List eg_I := .inl (69, 1, .lreturn, 0, 0) :: []
def c_Frame_along_68 : List eg_I := .inl (68, 1, .ladd, 0, 0) :: c_Frame_along_69
def c_Frame_along_67 : List eg_I := .inl (67, 1, .lmul, 0, 0) :: c_Frame_along_68
def c_Frame_along_66 : List eg_I := .inl (66, 1, .i2l, 0, 0) :: c_Frame_along_67
def c_Frame_along_65 : List eg_I := .inl (65, 1, .isub, 0, 0) :: c_Frame_along_66
def c_Frame_along_62 : List eg_I := .inl (62, 3, .getfield 42, 5, 4) :: c_Frame_along_65
def c_Frame_along_61 : List eg_I := .inl (61, 1, .aload 0, 0, 0) :: c_Frame_along_62
def c_Frame_along_60 : List eg_I := .inl (60, 1, .iaload, 0, 0) :: c_Frame_along_61
def c_Frame_along_59 : List eg_I := .inl (59, 1, .iload 3, 0, 0) :: c_Frame_along_60
def c_Frame_along_56 : List eg_I := .inl (56, 3, .getfield 39, 8, 2) :: c_Frame_along_59
def c_Frame_along_55 : List eg_I := .inl (55, 1, .aload 2, 0, 0) :: c_Frame_along_56
def c_Frame_along_54 : List eg_I := .inl (54, 1, .laload, 0, 0) :: c_Frame_along_55
def c_Frame_along_53 : List eg_I := .inl (53, 1, .iadd, 0, 0) :: c_Frame_along_54
def c_Frame_along_52 : List eg_I := .inl (52, 1, .iconst (2), 0, 0) :: c_Frame_along_53
def c_Frame_along_51 : List eg_I := .inl (51, 1, .imul, 0, 0) :: c_Frame_along_52
def c_Frame_along_50 : List eg_I := .inl (50, 1, .iload 1, 0, 0) :: c_Frame_along_51
def c_Frame_along_49 : List eg_I := .inl (49, 1, .iconst (3), 0, 0) :: c_Frame_along_50
def c_Frame_along_46 : List eg_I := .inl (46, 3, .getfield 7, 5, 0) :: c_Frame_along_49
def c_Frame_along_45 : List eg_I := .inl (45, 1, .aload 0, 0, 0) :: c_Frame_along_46
def c_Frame_along_44 : List eg_I := .inl (44, 1, .ladd, 0, 0) :: c_Frame_along_45
def c_Frame_along_43 : List eg_I := .inl (43, 1, .lmul, 0, 0) :: c_Frame_along_44
def c_Frame_along_42 : List eg_I := .inl (42, 1, .i2l, 0, 0) :: c_Frame_along_43
def c_Frame_along_41 : List eg_I := .inl (41, 1, .isub, 0, 0) :: c_Frame_along_42
def c_Frame_along_38 : List eg_I := .inl (38, 3, .getfield 36, 5, 3) :: c_Frame_along_41
def c_Frame_along_37 : List eg_I := .inl (37, 1, .aload 0, 0, 0) :: c_Frame_along_38
def c_Frame_along_36 : List eg_I := .inl (36, 1, .iaload, 0, 0) :: c_Frame_along_37
def c_Frame_along_35 : List eg_I := .inl (35, 1, .iload 3, 0, 0) :: c_Frame_along_36
def c_Frame_along_32 : List eg_I := .inl (32, 3, .getfield 33, 8, 1) :: c_Frame_along_35
def c_Frame_along_31 : List eg_I := .inl (31, 1, .aload 2, 0, 0) :: c_Frame_along_32
def c_Frame_along_30 : List eg_I := .inl (30, 1, .laload, 0, 0) :: c_Frame_along_31
def c_Frame_along_29 : List eg_I := .inl (29, 1, .iadd, 0, 0) :: c_Frame_along_30
def c_Frame_along_28 : List eg_I := .inl (28, 1, .iconst (1), 0, 0) :: c_Frame_along_29
def c_Frame_along_27 : List eg_I := .inl (27, 1, .imul, 0, 0) :: c_Frame_along_28
def c_Frame_along_26 : List eg_I := .inl (26, 1, .iload 1, 0, 0) :: c_Frame_along_27
def c_Frame_along_25 : List eg_I := .inl (25, 1, .iconst (3), 0, 0) :: c_Frame_along_26
def c_Frame_along_22 : List eg_I := .inl (22, 3, .getfield 7, 5, 0) :: c_Frame_along_25
def c_Frame_along_21 : List eg_I := .inl (21, 1, .aload 0, 0, 0) :: c_Frame_along_22
def c_Frame_along_20 : List eg_I := .inl (20, 1, .lmul, 0, 0) :: c_Frame_along_21
def c_Frame_along_19 : List eg_I := .inl (19, 1, .i2l, 0, 0) :: c_Frame_along_20
def c_Frame_along_18 : List eg_I := .inl (18, 1, .isub, 0, 0) :: c_Frame_along_19
def c_Frame_along_15 : List eg_I := .inl (15, 3, .getfield 29, 5, 2) :: c_Frame_along_18
def c_Frame_along_14 : List eg_I := .inl (14, 1, .aload 0, 0, 0) :: c_Frame_along_15
def c_Frame_along_13 : List eg_I := .inl (13, 1, .iaload, 0, 0) :: c_Frame_along_14
def c_Frame_along_12 : List eg_I := .inl (12, 1, .iload 3, 0, 0) :: c_Frame_along_13
def c_Frame_along_9 : List eg_I := .inl (9, 3, .getfield 23, 8, 0) :: c_Frame_along_12
def c_Frame_along_8 : List eg_I := .inl (8, 1, .aload 2, 0, 0) :: c_Frame_along_9
def c_Frame_along_7 : List eg_I := .inl (7, 1, .laload, 0, 0) :: c_Frame_along_8
def c_Frame_along_6 : List eg_I := .inl (6, 1, .imul, 0, 0) :: c_Frame_along_7
def c_Frame_along_5 : List eg_I := .inl (5, 1, .iload 1, 0, 0) :: c_Frame_along_6
def c_Frame_along_4 : List eg_I := .inl (4, 1, .iconst (3), 0, 0) :: c_Frame_along_5
def c_Frame_along_1 : List eg_I := .inl (1, 3, .getfield 7, 5, 0) :: c_Frame_along_4
def c_Frame_along_0 : List eg_I := .inl (0, 1, .aload 0, 0, 0) :: c_Frame_along_1
section
variable {rm : Room} {K : Nat → Nat → Nat → eg_Lo → List Value → List eg_E → Prop} {Q : Option Value → List eg_E → Prop} {kc ks : Nat} {loc : eg_Lo} {st : List Value} {h : List eg_E}
theorem s_Frame_along_0 {x : Nat} {l : eg_Lo} : wps rm K Q c_Frame_along_0 kc ks (some (.ref x) :: l) (st) h = wps rm K Q c_Frame_along_1 kc ks (some (.ref x) :: l) (.ref x :: st) h := rfl
theorem s_Frame_along_1 {x : Nat} : wps rm K Q c_Frame_along_1 kc ks loc (.ref (x + 1) :: st) h = eg_gf h x 5 0 (fun v => wps rm K Q c_Frame_along_4 kc ks loc (v :: st) h) := rfl
theorem s_Frame_along_4  : wps rm K Q c_Frame_along_4 kc ks loc (st) h = wps rm K Q c_Frame_along_5 kc ks loc (.int (3) :: st) h := rfl
theorem s_Frame_along_5 {x : Int32} {l0 : Option Value} {l : eg_Lo} : wps rm K Q c_Frame_along_5 kc ks (l0 :: some (.int x) :: l) (st) h = wps rm K Q c_Frame_along_6 kc ks (l0 :: some (.int x) :: l) (.int x :: st) h := rfl
theorem s_Frame_along_6 {x y : Int32} : wps rm K Q c_Frame_along_6 kc ks loc (.int y :: .int x :: st) h = wps rm K Q c_Frame_along_7 kc ks loc (.int (x * y) :: st) h := rfl
theorem s_Frame_along_7 {x : Nat} {i : Int32} : wps rm K Q c_Frame_along_7 kc ks loc (.int i :: .ref (x + 1) :: st) h = eg_la h x i (fun v => wps rm K Q c_Frame_along_8 kc ks loc (.long v :: st) h) := rfl
theorem s_Frame_along_8 {x : Nat} {l0 l1 : Option Value} {l : eg_Lo} : wps rm K Q c_Frame_along_8 kc ks (l0 :: l1 :: some (.ref x) :: l) (st) h = wps rm K Q c_Frame_along_9 kc ks (l0 :: l1 :: some (.ref x) :: l) (.ref x :: st) h := rfl
theorem s_Frame_along_9 {x : Nat} : wps rm K Q c_Frame_along_9 kc ks loc (.ref (x + 1) :: st) h = eg_gf h x 8 0 (fun v => wps rm K Q c_Frame_along_12 kc ks loc (v :: st) h) := rfl
theorem s_Frame_along_12 {x : Int32} {l0 l1 l2 : Option Value} {l : eg_Lo} : wps rm K Q c_Frame_along_12 kc ks (l0 :: l1 :: l2 :: some (.int x) :: l) (st) h = wps rm K Q c_Frame_along_13 kc ks (l0 :: l1 :: l2 :: some (.int x) :: l) (.int x :: st) h := rfl
theorem s_Frame_along_13 {x : Nat} {i : Int32} : wps rm K Q c_Frame_along_13 kc ks loc (.int i :: .ref (x + 1) :: st) h = eg_ia h x i (fun v => wps rm K Q c_Frame_along_14 kc ks loc (.int v :: st) h) := rfl
theorem s_Frame_along_14 {x : Nat} {l : eg_Lo} : wps rm K Q c_Frame_along_14 kc ks (some (.ref x) :: l) (st) h = wps rm K Q c_Frame_along_15 kc ks (some (.ref x) :: l) (.ref x :: st) h := rfl
theorem s_Frame_along_15 {x : Nat} : wps rm K Q c_Frame_along_15 kc ks loc (.ref (x + 1) :: st) h = eg_gf h x 5 2 (fun v => wps rm K Q c_Frame_along_18 kc ks loc (v :: st) h) := rfl
theorem s_Frame_along_18 {x y : Int32} : wps rm K Q c_Frame_along_18 kc ks loc (.int y :: .int x :: st) h = wps rm K Q c_Frame_along_19 kc ks loc (.int (x - y) :: st) h := rfl
theorem s_Frame_along_19 {x : Int32} : wps rm K Q c_Frame_along_19 kc ks loc (.int x :: st) h = wps rm K Q c_Frame_along_20 kc ks loc (.long (x.toInt64) :: st) h := rfl
theorem s_Frame_along_20 {x y : Int64} : wps rm K Q c_Frame_along_20 kc ks loc (.long y :: .long x :: st) h = wps rm K Q c_Frame_along_21 kc ks loc (.long (x * y) :: st) h := rfl
theorem s_Frame_along_21 {x : Nat} {l : eg_Lo} : wps rm K Q c_Frame_along_21 kc ks (some (.ref x) :: l) (st) h = wps rm K Q c_Frame_along_22 kc ks (some (.ref x) :: l) (.ref x :: st) h := rfl
theorem s_Frame_along_22 {x : Nat} : wps rm K Q c_Frame_along_22 kc ks loc (.ref (x + 1) :: st) h = eg_gf h x 5 0 (fun v => wps rm K Q c_Frame_along_25 kc ks loc (v :: st) h) := rfl
theorem s_Frame_along_25  : wps rm K Q c_Frame_along_25 kc ks loc (st) h = wps rm K Q c_Frame_along_26 kc ks loc (.int (3) :: st) h := rfl
theorem s_Frame_along_26 {x : Int32} {l0 : Option Value} {l : eg_Lo} : wps rm K Q c_Frame_along_26 kc ks (l0 :: some (.int x) :: l) (st) h = wps rm K Q c_Frame_along_27 kc ks (l0 :: some (.int x) :: l) (.int x :: st) h := rfl
theorem s_Frame_along_27 {x y : Int32} : wps rm K Q c_Frame_along_27 kc ks loc (.int y :: .int x :: st) h = wps rm K Q c_Frame_along_28 kc ks loc (.int (x * y) :: st) h := rfl
theorem s_Frame_along_28  : wps rm K Q c_Frame_along_28 kc ks loc (st) h = wps rm K Q c_Frame_along_29 kc ks loc (.int (1) :: st) h := rfl
theorem s_Frame_along_29 {x y : Int32} : wps rm K Q c_Frame_along_29 kc ks loc (.int y :: .int x :: st) h = wps rm K Q c_Frame_along_30 kc ks loc (.int (x + y) :: st) h := rfl
theorem s_Frame_along_30 {x : Nat} {i : Int32} : wps rm K Q c_Frame_along_30 kc ks loc (.int i :: .ref (x + 1) :: st) h = eg_la h x i (fun v => wps rm K Q c_Frame_along_31 kc ks loc (.long v :: st) h) := rfl
theorem s_Frame_along_31 {x : Nat} {l0 l1 : Option Value} {l : eg_Lo} : wps rm K Q c_Frame_along_31 kc ks (l0 :: l1 :: some (.ref x) :: l) (st) h = wps rm K Q c_Frame_along_32 kc ks (l0 :: l1 :: some (.ref x) :: l) (.ref x :: st) h := rfl
theorem s_Frame_along_32 {x : Nat} : wps rm K Q c_Frame_along_32 kc ks loc (.ref (x + 1) :: st) h = eg_gf h x 8 1 (fun v => wps rm K Q c_Frame_along_35 kc ks loc (v :: st) h) := rfl
theorem s_Frame_along_35 {x : Int32} {l0 l1 l2 : Option Value} {l : eg_Lo} : wps rm K Q c_Frame_along_35 kc ks (l0 :: l1 :: l2 :: some (.int x) :: l) (st) h = wps rm K Q c_Frame_along_36 kc ks (l0 :: l1 :: l2 :: some (.int x) :: l) (.int x :: st) h := rfl
theorem s_Frame_along_36 {x : Nat} {i : Int32} : wps rm K Q c_Frame_along_36 kc ks loc (.int i :: .ref (x + 1) :: st) h = eg_ia h x i (fun v => wps rm K Q c_Frame_along_37 kc ks loc (.int v :: st) h) := rfl
theorem s_Frame_along_37 {x : Nat} {l : eg_Lo} : wps rm K Q c_Frame_along_37 kc ks (some (.ref x) :: l) (st) h = wps rm K Q c_Frame_along_38 kc ks (some (.ref x) :: l) (.ref x :: st) h := rfl
theorem s_Frame_along_38 {x : Nat} : wps rm K Q c_Frame_along_38 kc ks loc (.ref (x + 1) :: st) h = eg_gf h x 5 3 (fun v => wps rm K Q c_Frame_along_41 kc ks loc (v :: st) h) := rfl
theorem s_Frame_along_41 {x y : Int32} : wps rm K Q c_Frame_along_41 kc ks loc (.int y :: .int x :: st) h = wps rm K Q c_Frame_along_42 kc ks loc (.int (x - y) :: st) h := rfl
theorem s_Frame_along_42 {x : Int32} : wps rm K Q c_Frame_along_42 kc ks loc (.int x :: st) h = wps rm K Q c_Frame_along_43 kc ks loc (.long (x.toInt64) :: st) h := rfl
theorem s_Frame_along_43 {x y : Int64} : wps rm K Q c_Frame_along_43 kc ks loc (.long y :: .long x :: st) h = wps rm K Q c_Frame_along_44 kc ks loc (.long (x * y) :: st) h := rfl
theorem s_Frame_along_44 {x y : Int64} : wps rm K Q c_Frame_along_44 kc ks loc (.long y :: .long x :: st) h = wps rm K Q c_Frame_along_45 kc ks loc (.long (x + y) :: st) h := rfl
theorem s_Frame_along_45 {x : Nat} {l : eg_Lo} : wps rm K Q c_Frame_along_45 kc ks (some (.ref x) :: l) (st) h = wps rm K Q c_Frame_along_46 kc ks (some (.ref x) :: l) (.ref x :: st) h := rfl
theorem s_Frame_along_46 {x : Nat} : wps rm K Q c_Frame_along_46 kc ks loc (.ref (x + 1) :: st) h = eg_gf h x 5 0 (fun v => wps rm K Q c_Frame_along_49 kc ks loc (v :: st) h) := rfl
theorem s_Frame_along_49  : wps rm K Q c_Frame_along_49 kc ks loc (st) h = wps rm K Q c_Frame_along_50 kc ks loc (.int (3) :: st) h := rfl
theorem s_Frame_along_50 {x : Int32} {l0 : Option Value} {l : eg_Lo} : wps rm K Q c_Frame_along_50 kc ks (l0 :: some (.int x) :: l) (st) h = wps rm K Q c_Frame_along_51 kc ks (l0 :: some (.int x) :: l) (.int x :: st) h := rfl
theorem s_Frame_along_51 {x y : Int32} : wps rm K Q c_Frame_along_51 kc ks loc (.int y :: .int x :: st) h = wps rm K Q c_Frame_along_52 kc ks loc (.int (x * y) :: st) h := rfl
theorem s_Frame_along_52  : wps rm K Q c_Frame_along_52 kc ks loc (st) h = wps rm K Q c_Frame_along_53 kc ks loc (.int (2) :: st) h := rfl
theorem s_Frame_along_53 {x y : Int32} : wps rm K Q c_Frame_along_53 kc ks loc (.int y :: .int x :: st) h = wps rm K Q c_Frame_along_54 kc ks loc (.int (x + y) :: st) h := rfl
theorem s_Frame_along_54 {x : Nat} {i : Int32} : wps rm K Q c_Frame_along_54 kc ks loc (.int i :: .ref (x + 1) :: st) h = eg_la h x i (fun v => wps rm K Q c_Frame_along_55 kc ks loc (.long v :: st) h) := rfl
theorem s_Frame_along_55 {x : Nat} {l0 l1 : Option Value} {l : eg_Lo} : wps rm K Q c_Frame_along_55 kc ks (l0 :: l1 :: some (.ref x) :: l) (st) h = wps rm K Q c_Frame_along_56 kc ks (l0 :: l1 :: some (.ref x) :: l) (.ref x :: st) h := rfl
theorem s_Frame_along_56 {x : Nat} : wps rm K Q c_Frame_along_56 kc ks loc (.ref (x + 1) :: st) h = eg_gf h x 8 2 (fun v => wps rm K Q c_Frame_along_59 kc ks loc (v :: st) h) := rfl
theorem s_Frame_along_59 {x : Int32} {l0 l1 l2 : Option Value} {l : eg_Lo} : wps rm K Q c_Frame_along_59 kc ks (l0 :: l1 :: l2 :: some (.int x) :: l) (st) h = wps rm K Q c_Frame_along_60 kc ks (l0 :: l1 :: l2 :: some (.int x) :: l) (.int x :: st) h := rfl
theorem s_Frame_along_60 {x : Nat} {i : Int32} : wps rm K Q c_Frame_along_60 kc ks loc (.int i :: .ref (x + 1) :: st) h = eg_ia h x i (fun v => wps rm K Q c_Frame_along_61 kc ks loc (.int v :: st) h) := rfl
theorem s_Frame_along_61 {x : Nat} {l : eg_Lo} : wps rm K Q c_Frame_along_61 kc ks (some (.ref x) :: l) (st) h = wps rm K Q c_Frame_along_62 kc ks (some (.ref x) :: l) (.ref x :: st) h := rfl
theorem s_Frame_along_62 {x : Nat} : wps rm K Q c_Frame_along_62 kc ks loc (.ref (x + 1) :: st) h = eg_gf h x 5 4 (fun v => wps rm K Q c_Frame_along_65 kc ks loc (v :: st) h) := rfl
theorem s_Frame_along_65 {x y : Int32} : wps rm K Q c_Frame_along_65 kc ks loc (.int y :: .int x :: st) h = wps rm K Q c_Frame_along_66 kc ks loc (.int (x - y) :: st) h := rfl
theorem s_Frame_along_66 {x : Int32} : wps rm K Q c_Frame_along_66 kc ks loc (.int x :: st) h = wps rm K Q c_Frame_along_67 kc ks loc (.long (x.toInt64) :: st) h := rfl
theorem s_Frame_along_67 {x y : Int64} : wps rm K Q c_Frame_along_67 kc ks loc (.long y :: .long x :: st) h = wps rm K Q c_Frame_along_68 kc ks loc (.long (x * y) :: st) h := rfl
theorem s_Frame_along_68 {x y : Int64} : wps rm K Q c_Frame_along_68 kc ks loc (.long y :: .long x :: st) h = wps rm K Q c_Frame_along_69 kc ks loc (.long (x + y) :: st) h := rfl
theorem s_Frame_along_69 {x : Int64} : wps rm K Q c_Frame_along_69 kc ks loc ([.long x]) h = (kc = rm.cells ∧ Q (some (.long x)) h) := rfl
def T_Frame_along : List (Nat × List eg_I) := []
end
theorem q_Frame_along : (T_Frame_along.all fun q => eg_seq m_Frame_along q.1 q.2) = true := by decide +kernel
theorem b_Frame_along {as : List Value} {h : List eg_E} {Q : Option Value → List eg_E → Prop} (hf : (eg_fl as).length ≤ 4) (hw : wps (eg_rm m_Frame_along) (eg_run (eg_rm m_Frame_along) (eg_R m_Frame_along Q (h.length + 0)) Q T_Frame_along 2) Q c_Frame_along_0 0 0 (eg_entry 4 as) [] h) : eg_Runs n_Frame_along as h Q := eg_begin (d := m_Frame_along) rfl (by decide) (by decide +kernel) q_Frame_along hf hw
