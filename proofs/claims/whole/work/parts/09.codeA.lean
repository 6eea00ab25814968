def eg_pcat (pc : Nat) (code : List eg_I) (n : Nat) : Nat := match n, code with
  | 0, _ => pc
  | _ + 1, [] => pc
  | n + 1, .inl (_, len, _, _, _) :: r => eg_pcat (pc + len) r n
  | n + 1, .inr _ :: r => eg_pcat (pc + 3) r n
theorem eg_seq_drop {d : eg_M} {pc : Nat} {code : List eg_I} (h : eg_seq d pc code = true) (n : Nat) : eg_seq d (eg_pcat pc code n) (code.drop n) = true := by
  induction n generalizing pc code with
  | zero => simpa [eg_pcat] using h
  | succ n ih =>
    match code, h with
    | [], _ => rfl
    | .inl (q, len, ins, a, b) :: r, h =>
      simp only [eg_seq, Bool.and_eq_true] at h
      exact ih h.2
    | .inr (q, kind, idx, m, np, c, mc, ms) :: r, h =>
      simp only [eg_seq, Bool.and_eq_true] at h
      exact ih h.2
theorem eg_go2 {d : eg_M} {Q : Option Value → List eg_E → Prop} {n0 pc kc ks f : Nat} {loc : eg_Lo} {st : List Value} {h : List eg_E} {code : List eg_I} {T : List (Nat × List eg_I)} (hs : eg_seq d pc code = true) (hT : ∀ q ∈ T, eg_seq d q.1 q.2 = true) (hw : wps (eg_rm d) (eg_run (eg_rm d) (eg_R d Q n0) Q T f) Q code kc ks loc st h) : eg_R d Q n0 pc kc ks loc st h :=
  eg_go hs (List.all_eq_true.mpr (fun q hq => hT q hq)) hw
theorem eg_begin2 {n : Nat} {d : eg_M} {as : List Value} {h : List eg_E} {Q : Option Value → List eg_E → Prop} {code : List eg_I} {T : List (Nat × List eg_I)} {f : Nat} (hd : eg_md n = d) (hn : n < 202) (hs : eg_seq d 0 code = true) (hT : ∀ q ∈ T, eg_seq d q.1 q.2 = true) (hf : (eg_fl as).length ≤ eg_ml d) (hw : wps (eg_rm d) (eg_run (eg_rm d) (eg_R d Q (h.length + (eg_rm d).cells)) Q T f) Q code 0 0 (eg_entry (eg_ml d) as) [] h) : eg_Runs n as h Q :=
  eg_begin hd hn hs (List.all_eq_true.mpr (fun q hq => hT q hq)) hf hw
theorem eg_cp_i {rm : Room} {K : Nat → Nat → Nat → eg_Lo → List Value → List eg_E → Prop} {Q : Option Value → List eg_E → Prop} {r : List eg_I} {kc ks pc len a b : Nat} {loc : eg_Lo} {h : List eg_E} {x y : Nat} {sp dp z : Int32} : wps rm K Q (.inl (pc, len, .monitorenter, a, b) :: r) kc ks loc (.int z :: .int dp :: .ref (y + 1) :: .int sp :: .ref (x + 1) :: []) h = eg_cpi h x y sp dp z (fun h9 => wps rm K Q r kc ks loc [] h9) := by
  refine propext ⟨fun q => ?_, fun q => ?_⟩
  · simp only [wps, eg_stepI] at q
    unfold eg_cpi
    split at q
    · rename_i h1 h2
      rw [h1, h2]
      exact ⟨q.1, q.2.1, q.2.2.1, q.2.2.2.1, q.2.2.2.2.1, q.2.2.2.2.2.2⟩
    · exact q.elim
  · simp only [wps, eg_stepI]
    unfold eg_cpi at q
    split at q
    · rename_i h1 h2
      rw [h1, h2]
      exact ⟨q.1, q.2.1, q.2.2.1, q.2.2.2.1, q.2.2.2.2.1, Nat.zero_le _, q.2.2.2.2.2⟩
    · exact q.elim
theorem eg_cp_l {rm : Room} {K : Nat → Nat → Nat → eg_Lo → List Value → List eg_E → Prop} {Q : Option Value → List eg_E → Prop} {r : List eg_I} {kc ks pc len a b : Nat} {loc : eg_Lo} {h : List eg_E} {x y : Nat} {sp dp z : Int32} : wps rm K Q (.inl (pc, len, .monitorexit, a, b) :: r) kc ks loc (.int z :: .int dp :: .ref (y + 1) :: .int sp :: .ref (x + 1) :: []) h = eg_cpl h x y sp dp z (fun h9 => wps rm K Q r kc ks loc [] h9) := by
  refine propext ⟨fun q => ?_, fun q => ?_⟩
  · simp only [wps, eg_stepI] at q
    unfold eg_cpl
    split at q
    · rename_i h1 h2
      rw [h1, h2]
      exact ⟨q.1, q.2.1, q.2.2.1, q.2.2.2.1, q.2.2.2.2.1, q.2.2.2.2.2.2⟩
    · exact q.elim
  · simp only [wps, eg_stepI]
    unfold eg_cpl at q
    split at q
    · rename_i h1 h2
      rw [h1, h2]
      exact ⟨q.1, q.2.1, q.2.2.1, q.2.2.2.1, q.2.2.2.2.1, Nat.zero_le _, q.2.2.2.2.2⟩
    · exact q.elim
/-! ===== Boxes_init ===== -/
def c_Boxes_init_20 : List eg_I := .inl (20, 1, .return_, 0, 0) :: []
def c_Boxes_init_17 : List eg_I := .inl (17, 3, .putfield 15, 0, 2) :: c_Boxes_init_20
def c_Boxes_init_15 : List eg_I := .inl (15, 2, .newarray .int, 0, 0) :: c_Boxes_init_17
def c_Boxes_init_13 : List eg_I := .inl (13, 2, .iconst (18), 0, 0) :: c_Boxes_init_15
def c_Boxes_init_12 : List eg_I := .inl (12, 1, .aload 0, 0, 0) :: c_Boxes_init_13
def c_Boxes_init_9 : List eg_I := .inl (9, 3, .putfield 9, 0, 1) :: c_Boxes_init_12
def c_Boxes_init_7 : List eg_I := .inl (7, 2, .newarray .int, 0, 0) :: c_Boxes_init_9
def c_Boxes_init_5 : List eg_I := .inl (5, 2, .iconst (18), 0, 0) :: c_Boxes_init_7
def c_Boxes_init_4 : List eg_I := .inl (4, 1, .aload 0, 0, 0) :: c_Boxes_init_5
def c_Boxes_init_1 : List eg_I := .inl (1, 3, .athrow, 3, 0) :: c_Boxes_init_4
def c_Boxes_init_0 : List eg_I := .inl (0, 1, .aload 0, 0, 0) :: c_Boxes_init_1
section
variable {rm : Room} {K : Nat → Nat → Nat → eg_Lo → List Value → List eg_E → Prop} {Q : Option Value → List eg_E → Prop} {kc ks : Nat} {loc : eg_Lo} {st : List Value} {h : List eg_E}
theorem s_Boxes_init_0 {x : Nat} {l : eg_Lo} : wps rm K Q c_Boxes_init_0 kc ks (some (.ref x) :: l) (st) h = wps rm K Q c_Boxes_init_1 kc ks (some (.ref x) :: l) (.ref x :: st) h := gk_aload rfl
theorem s_Boxes_init_1 {x : Nat} : wps rm K Q c_Boxes_init_1 kc ks loc (.ref (x + 1) :: st) h = (st.length ≤ 4 ∧ wps rm K Q c_Boxes_init_4 kc ks loc (st) h) := gk_oi
theorem s_Boxes_init_4 {x : Nat} {l : eg_Lo} : wps rm K Q c_Boxes_init_4 kc ks (some (.ref x) :: l) (st) h = wps rm K Q c_Boxes_init_5 kc ks (some (.ref x) :: l) (.ref x :: st) h := gk_aload rfl
theorem s_Boxes_init_5  : wps rm K Q c_Boxes_init_5 kc ks loc (st) h = wps rm K Q c_Boxes_init_7 kc ks loc (.int (18) :: st) h := gk_ic (by decide)
theorem s_Boxes_init_7 {x : Int32} : wps rm K Q c_Boxes_init_7 kc ks loc (.int x :: st) h = (¬ x < 0 ∧ x.toNatClampNeg ≤ 1000 ∧ kc + 1 ≤ rm.cells ∧ ks + x.toNatClampNeg ≤ rm.slots ∧ wps rm K Q c_Boxes_init_9 (kc + 1) (ks + x.toNatClampNeg) loc (.ref (h.length + 1) :: st) (h ++ [.inl (0, eg_zero 0 x.toNatClampNeg)])) := gk_na
theorem s_Boxes_init_9 {x : Nat} {v : Value} : wps rm K Q c_Boxes_init_9 kc ks loc (v :: .ref (x + 1) :: st) h = eg_pf h x 0 1 v (fun h9 => wps rm K Q c_Boxes_init_12 kc ks loc (st) h9) := gk_pf
theorem s_Boxes_init_12 {x : Nat} {l : eg_Lo} : wps rm K Q c_Boxes_init_12 kc ks (some (.ref x) :: l) (st) h = wps rm K Q c_Boxes_init_13 kc ks (some (.ref x) :: l) (.ref x :: st) h := gk_aload rfl
theorem s_Boxes_init_13  : wps rm K Q c_Boxes_init_13 kc ks loc (st) h = wps rm K Q c_Boxes_init_15 kc ks loc (.int (18) :: st) h := gk_ic (by decide)
theorem s_Boxes_init_15 {x : Int32} : wps rm K Q c_Boxes_init_15 kc ks loc (.int x :: st) h = (¬ x < 0 ∧ x.toNatClampNeg ≤ 1000 ∧ kc + 1 ≤ rm.cells ∧ ks + x.toNatClampNeg ≤ rm.slots ∧ wps rm K Q c_Boxes_init_17 (kc + 1) (ks + x.toNatClampNeg) loc (.ref (h.length + 1) :: st) (h ++ [.inl (0, eg_zero 0 x.toNatClampNeg)])) := gk_na
theorem s_Boxes_init_17 {x : Nat} {v : Value} : wps rm K Q c_Boxes_init_17 kc ks loc (v :: .ref (x + 1) :: st) h = eg_pf h x 0 2 v (fun h9 => wps rm K Q c_Boxes_init_20 kc ks loc (st) h9) := gk_pf
theorem s_Boxes_init_20  : wps rm K Q c_Boxes_init_20 kc ks loc ([]) h = (kc = rm.cells ∧ Q none h) := gk_vret
def T_Boxes_init : List (Nat × List eg_I) := []
end
theorem y_Boxes_init_0 : eg_seq m_Boxes_init 0 c_Boxes_init_0 = true := by decide +kernel
theorem q_Boxes_init : ∀ q ∈ T_Boxes_init, eg_seq m_Boxes_init q.1 q.2 = true := by
  intro q hq
  cases hq
theorem b_Boxes_init {as : List Value} {h : List eg_E} {Q : Option Value → List eg_E → Prop} (hf : (eg_fl as).length ≤ 1) (hw : wps (eg_rm m_Boxes_init) (eg_run (eg_rm m_Boxes_init) (eg_R m_Boxes_init Q (h.length + 2)) Q T_Boxes_init 2) Q c_Boxes_init_0 0 0 (eg_entry 1 as) [] h) : eg_Runs n_Boxes_init as h Q := eg_begin2 (d := m_Boxes_init) rfl (by decide) y_Boxes_init_0 q_Boxes_init hf hw
/-! ===== Boxes_setSide ===== -/
def c_Boxes_setSide_43 : List eg_I := .inl (43, 1, .return_, 0, 0) :: []
def c_Boxes_setSide_42 : List eg_I := .inl (42, 1, .iastore, 0, 0) :: c_Boxes_setSide_43
def c_Boxes_setSide_41 : List eg_I := .inl (41, 1, .iadd, 0, 0) :: c_Boxes_setSide_42
def c_Boxes_setSide_40 : List eg_I := .inl (40, 1, .iload 3, 0, 0) :: c_Boxes_setSide_41
def c_Boxes_setSide_39 : List eg_I := .inl (39, 1, .iload 2, 0, 0) :: c_Boxes_setSide_40
def c_Boxes_setSide_37 : List eg_I := .inl (37, 2, .iload 4, 0, 0) :: c_Boxes_setSide_39
def c_Boxes_setSide_34 : List eg_I := .inl (34, 3, .getfield 15, 0, 2) :: c_Boxes_setSide_37
def c_Boxes_setSide_33 : List eg_I := .inl (33, 1, .aload 0, 0, 0) :: c_Boxes_setSide_34
def c_Boxes_setSide_32 : List eg_I := .inl (32, 1, .iastore, 0, 0) :: c_Boxes_setSide_33
def c_Boxes_setSide_31 : List eg_I := .inl (31, 1, .iload 2, 0, 0) :: c_Boxes_setSide_32
def c_Boxes_setSide_29 : List eg_I := .inl (29, 2, .iload 4, 0, 0) :: c_Boxes_setSide_31
def c_Boxes_setSide_26 : List eg_I := .inl (26, 3, .getfield 9, 0, 1) :: c_Boxes_setSide_29
def c_Boxes_setSide_25 : List eg_I := .inl (25, 1, .aload 0, 0, 0) :: c_Boxes_setSide_26
def c_Boxes_setSide_22 : List eg_I := .inl (22, 3, .if_icmp .ge (21), 43, 0) :: c_Boxes_setSide_25
def c_Boxes_setSide_21 : List eg_I := .inl (21, 1, .arraylength, 0, 0) :: c_Boxes_setSide_22
def c_Boxes_setSide_18 : List eg_I := .inl (18, 3, .getfield 9, 0, 1) :: c_Boxes_setSide_21
def c_Boxes_setSide_17 : List eg_I := .inl (17, 1, .aload 0, 0, 0) :: c_Boxes_setSide_18
def c_Boxes_setSide_15 : List eg_I := .inl (15, 2, .iload 4, 0, 0) :: c_Boxes_setSide_17
def c_Boxes_setSide_12 : List eg_I := .inl (12, 3, .ifCond .lt (31), 43, 0) :: c_Boxes_setSide_15
def c_Boxes_setSide_10 : List eg_I := .inl (10, 2, .iload 4, 0, 0) :: c_Boxes_setSide_12
def c_Boxes_setSide_8 : List eg_I := .inl (8, 2, .istore 4, 0, 0) :: c_Boxes_setSide_10
def c_Boxes_setSide_7 : List eg_I := .inl (7, 1, .iadd, 0, 0) :: c_Boxes_setSide_8
def c_Boxes_setSide_6 : List eg_I := .inl (6, 1, .iload 1, 0, 0) :: c_Boxes_setSide_7
def c_Boxes_setSide_5 : List eg_I := .inl (5, 1, .imul, 0, 0) :: c_Boxes_setSide_6
def c_Boxes_setSide_2 : List eg_I := .inl (2, 3, .getfield 18, 0, 0) :: c_Boxes_setSide_5
def c_Boxes_setSide_1 : List eg_I := .inl (1, 1, .aload 0, 0, 0) :: c_Boxes_setSide_2
def c_Boxes_setSide_0 : List eg_I := .inl (0, 1, .iconst (3), 0, 0) :: c_Boxes_setSide_1
section
variable {rm : Room} {K : Nat → Nat → Nat → eg_Lo → List Value → List eg_E → Prop} {Q : Option Value → List eg_E → Prop} {kc ks : Nat} {loc : eg_Lo} {st : List Value} {h : List eg_E}
theorem s_Boxes_setSide_0  : wps rm K Q c_Boxes_setSide_0 kc ks loc (st) h = wps rm K Q c_Boxes_setSide_1 kc ks loc (.int (3) :: st) h := gk_ic (by decide)
theorem s_Boxes_setSide_1 {x : Nat} {l : eg_Lo} : wps rm K Q c_Boxes_setSide_1 kc ks (some (.ref x) :: l) (st) h = wps rm K Q c_Boxes_setSide_2 kc ks (some (.ref x) :: l) (.ref x :: st) h := gk_aload rfl
theorem s_Boxes_setSide_2 {x : Nat} : wps rm K Q c_Boxes_setSide_2 kc ks loc (.ref (x + 1) :: st) h = eg_gf h x 0 0 (fun v => wps rm K Q c_Boxes_setSide_5 kc ks loc (v :: st) h) := gk_gf
theorem s_Boxes_setSide_5 {x y : Int32} : wps rm K Q c_Boxes_setSide_5 kc ks loc (.int y :: .int x :: st) h = wps rm K Q c_Boxes_setSide_6 kc ks loc (.int (x * y) :: st) h := gk_imul
theorem s_Boxes_setSide_6 {x : Int32} {l0 : Option Value} {l : eg_Lo} : wps rm K Q c_Boxes_setSide_6 kc ks (l0 :: some (.int x) :: l) (st) h = wps rm K Q c_Boxes_setSide_7 kc ks (l0 :: some (.int x) :: l) (.int x :: st) h := gk_iload rfl
theorem s_Boxes_setSide_7 {x y : Int32} : wps rm K Q c_Boxes_setSide_7 kc ks loc (.int y :: .int x :: st) h = wps rm K Q c_Boxes_setSide_8 kc ks loc (.int (x + y) :: st) h := gk_iadd
theorem s_Boxes_setSide_8 {x : Int32} : wps rm K Q c_Boxes_setSide_8 kc ks loc (.int x :: st) h = wps rm K Q c_Boxes_setSide_10 kc ks (eg_set1 loc 4 (.int x)) (st) h := gk_istore
theorem s_Boxes_setSide_10 {x : Int32} {l0 l1 l2 l3 : Option Value} {l : eg_Lo} : wps rm K Q c_Boxes_setSide_10 kc ks (l0 :: l1 :: l2 :: l3 :: some (.int x) :: l) (st) h = wps rm K Q c_Boxes_setSide_12 kc ks (l0 :: l1 :: l2 :: l3 :: some (.int x) :: l) (.int x :: st) h := gk_iload rfl
theorem s_Boxes_setSide_12 {x : Int32} : wps rm K Q c_Boxes_setSide_12 kc ks loc (.int x :: st) h = ((x < 0 → K 43 kc ks loc st h) ∧ (¬ x < 0 → wps rm K Q c_Boxes_setSide_15 kc ks loc (st) h)) := gk_if1_lt
theorem s_Boxes_setSide_15 {x : Int32} {l0 l1 l2 l3 : Option Value} {l : eg_Lo} : wps rm K Q c_Boxes_setSide_15 kc ks (l0 :: l1 :: l2 :: l3 :: some (.int x) :: l) (st) h = wps rm K Q c_Boxes_setSide_17 kc ks (l0 :: l1 :: l2 :: l3 :: some (.int x) :: l) (.int x :: st) h := gk_iload rfl
theorem s_Boxes_setSide_17 {x : Nat} {l : eg_Lo} : wps rm K Q c_Boxes_setSide_17 kc ks (some (.ref x) :: l) (st) h = wps rm K Q c_Boxes_setSide_18 kc ks (some (.ref x) :: l) (.ref x :: st) h := gk_aload rfl
theorem s_Boxes_setSide_18 {x : Nat} : wps rm K Q c_Boxes_setSide_18 kc ks loc (.ref (x + 1) :: st) h = eg_gf h x 0 1 (fun v => wps rm K Q c_Boxes_setSide_21 kc ks loc (v :: st) h) := gk_gf
theorem s_Boxes_setSide_21 {x : Nat} : wps rm K Q c_Boxes_setSide_21 kc ks loc (.ref (x + 1) :: st) h = eg_al h x (fun v => wps rm K Q c_Boxes_setSide_22 kc ks loc (.int v :: st) h) := gk_al
theorem s_Boxes_setSide_22 {x y : Int32} : wps rm K Q c_Boxes_setSide_22 kc ks loc (.int y :: .int x :: st) h = ((y ≤ x → K 43 kc ks loc st h) ∧ (¬ y ≤ x → wps rm K Q c_Boxes_setSide_25 kc ks loc (st) h)) := gk_if2_ge
theorem s_Boxes_setSide_25 {x : Nat} {l : eg_Lo} : wps rm K Q c_Boxes_setSide_25 kc ks (some (.ref x) :: l) (st) h = wps rm K Q c_Boxes_setSide_26 kc ks (some (.ref x) :: l) (.ref x :: st) h := gk_aload rfl
theorem s_Boxes_setSide_26 {x : Nat} : wps rm K Q c_Boxes_setSide_26 kc ks loc (.ref (x + 1) :: st) h = eg_gf h x 0 1 (fun v => wps rm K Q c_Boxes_setSide_29 kc ks loc (v :: st) h) := gk_gf
theorem s_Boxes_setSide_29 {x : Int32} {l0 l1 l2 l3 : Option Value} {l : eg_Lo} : wps rm K Q c_Boxes_setSide_29 kc ks (l0 :: l1 :: l2 :: l3 :: some (.int x) :: l) (st) h = wps rm K Q c_Boxes_setSide_31 kc ks (l0 :: l1 :: l2 :: l3 :: some (.int x) :: l) (.int x :: st) h := gk_iload rfl
theorem s_Boxes_setSide_31 {x : Int32} {l0 l1 : Option Value} {l : eg_Lo} : wps rm K Q c_Boxes_setSide_31 kc ks (l0 :: l1 :: some (.int x) :: l) (st) h = wps rm K Q c_Boxes_setSide_32 kc ks (l0 :: l1 :: some (.int x) :: l) (.int x :: st) h := gk_iload rfl
theorem s_Boxes_setSide_32 {x : Nat} {i : Int32} {v : Int32} : wps rm K Q c_Boxes_setSide_32 kc ks loc (.int v :: .int i :: .ref (x + 1) :: st) h = eg_is h x i v (fun h9 => wps rm K Q c_Boxes_setSide_33 kc ks loc (st) h9) := gk_iastore
theorem s_Boxes_setSide_33 {x : Nat} {l : eg_Lo} : wps rm K Q c_Boxes_setSide_33 kc ks (some (.ref x) :: l) (st) h = wps rm K Q c_Boxes_setSide_34 kc ks (some (.ref x) :: l) (.ref x :: st) h := gk_aload rfl
theorem s_Boxes_setSide_34 {x : Nat} : wps rm K Q c_Boxes_setSide_34 kc ks loc (.ref (x + 1) :: st) h = eg_gf h x 0 2 (fun v => wps rm K Q c_Boxes_setSide_37 kc ks loc (v :: st) h) := gk_gf
theorem s_Boxes_setSide_37 {x : Int32} {l0 l1 l2 l3 : Option Value} {l : eg_Lo} : wps rm K Q c_Boxes_setSide_37 kc ks (l0 :: l1 :: l2 :: l3 :: some (.int x) :: l) (st) h = wps rm K Q c_Boxes_setSide_39 kc ks (l0 :: l1 :: l2 :: l3 :: some (.int x) :: l) (.int x :: st) h := gk_iload rfl
theorem s_Boxes_setSide_39 {x : Int32} {l0 l1 : Option Value} {l : eg_Lo} : wps rm K Q c_Boxes_setSide_39 kc ks (l0 :: l1 :: some (.int x) :: l) (st) h = wps rm K Q c_Boxes_setSide_40 kc ks (l0 :: l1 :: some (.int x) :: l) (.int x :: st) h := gk_iload rfl
theorem s_Boxes_setSide_40 {x : Int32} {l0 l1 l2 : Option Value} {l : eg_Lo} : wps rm K Q c_Boxes_setSide_40 kc ks (l0 :: l1 :: l2 :: some (.int x) :: l) (st) h = wps rm K Q c_Boxes_setSide_41 kc ks (l0 :: l1 :: l2 :: some (.int x) :: l) (.int x :: st) h := gk_iload rfl
theorem s_Boxes_setSide_41 {x y : Int32} : wps rm K Q c_Boxes_setSide_41 kc ks loc (.int y :: .int x :: st) h = wps rm K Q c_Boxes_setSide_42 kc ks loc (.int (x + y) :: st) h := gk_iadd
theorem s_Boxes_setSide_42 {x : Nat} {i : Int32} {v : Int32} : wps rm K Q c_Boxes_setSide_42 kc ks loc (.int v :: .int i :: .ref (x + 1) :: st) h = eg_is h x i v (fun h9 => wps rm K Q c_Boxes_setSide_43 kc ks loc (st) h9) := gk_iastore
theorem s_Boxes_setSide_43  : wps rm K Q c_Boxes_setSide_43 kc ks loc ([]) h = (kc = rm.cells ∧ Q none h) := gk_vret
def T_Boxes_setSide : List (Nat × List eg_I) := [(43, c_Boxes_setSide_43)]
theorem j_Boxes_setSide_43 {R : Nat → Nat → Nat → eg_Lo → List Value → List eg_E → Prop} {f pc0 : Nat} : eg_run rm R Q T_Boxes_setSide (f + 1) 43 kc ks loc st h = wps rm (eg_run rm R Q T_Boxes_setSide f) Q c_Boxes_setSide_43 kc ks loc st h := rfl
end
theorem y_Boxes_setSide_0 : eg_seq m_Boxes_setSide 0 c_Boxes_setSide_0 = true := by decide +kernel
theorem q_Boxes_setSide : ∀ q ∈ T_Boxes_setSide, eg_seq m_Boxes_setSide q.1 q.2 = true := by
  intro q hq
  simp only [T_Boxes_setSide, List.mem_cons, List.not_mem_nil, or_false] at hq
  rcases hq with rfl
  · exact (eg_seq_drop y_Boxes_setSide_0 26 : eg_seq m_Boxes_setSide 43 c_Boxes_setSide_43 = true)
theorem b_Boxes_setSide {as : List Value} {h : List eg_E} {Q : Option Value → List eg_E → Prop} (hf : (eg_fl as).length ≤ 5) (hw : wps (eg_rm m_Boxes_setSide) (eg_run (eg_rm m_Boxes_setSide) (eg_R m_Boxes_setSide Q (h.length + 0)) Q T_Boxes_setSide 3) Q c_Boxes_setSide_0 0 0 (eg_entry 5 as) [] h) : eg_Runs n_Boxes_setSide as h Q := eg_begin2 (d := m_Boxes_setSide) rfl (by decide) y_Boxes_setSide_0 q_Boxes_setSide hf hw
/-! ===== Boxes_firstEntered ===== -/
def z_Boxes_firstEntered_3 : List eg_I := [.inl (3, 0, .nop, 0, 0)]
def c_Boxes_firstEntered_34 : List eg_I := .inl (34, 1, .ireturn, 0, 0) :: []
def c_Boxes_firstEntered_33 : List eg_I := .inl (33, 1, .iconst (-1), 0, 0) :: c_Boxes_firstEntered_34
def c_Boxes_firstEntered_30 : List eg_I := .inl (30, 3, .goto (-27), 3, 0) :: []
def c_Boxes_firstEntered_27 : List eg_I := .inl (27, 3, .iinc 4 (1), 0, 0) :: c_Boxes_firstEntered_30
def c_Boxes_firstEntered_26 : List eg_I := .inl (26, 1, .ireturn, 0, 0) :: []
def c_Boxes_firstEntered_24 : List eg_I := .inl (24, 2, .iload 4, 0, 0) :: c_Boxes_firstEntered_26
def c_Boxes_firstEntered_21 : List eg_I := .inl (21, 3, .ifCond .eq (6), 27, 0) :: c_Boxes_firstEntered_24
def c_Boxes_firstEntered_18 : List eg_I := .inr (18, 1, 22, n_Boxes_isEntered, 4, 0, 0, 0) :: c_Boxes_firstEntered_21
def c_Boxes_firstEntered_17 : List eg_I := .inl (17, 1, .iload 3, 0, 0) :: c_Boxes_firstEntered_18
def c_Boxes_firstEntered_16 : List eg_I := .inl (16, 1, .iload 2, 0, 0) :: c_Boxes_firstEntered_17
def c_Boxes_firstEntered_15 : List eg_I := .inl (15, 1, .aload 1, 0, 0) :: c_Boxes_firstEntered_16
def c_Boxes_firstEntered_13 : List eg_I := .inl (13, 2, .iload 4, 0, 0) :: c_Boxes_firstEntered_15
def c_Boxes_firstEntered_12 : List eg_I := .inl (12, 1, .aload 0, 0, 0) :: c_Boxes_firstEntered_13
def c_Boxes_firstEntered_9 : List eg_I := .inl (9, 3, .if_icmp .ge (24), 33, 0) :: c_Boxes_firstEntered_12
def c_Boxes_firstEntered_6 : List eg_I := .inl (6, 3, .getfield 18, 0, 0) :: c_Boxes_firstEntered_9
def c_Boxes_firstEntered_5 : List eg_I := .inl (5, 1, .aload 0, 0, 0) :: c_Boxes_firstEntered_6
def c_Boxes_firstEntered_3 : List eg_I := .inl (3, 2, .iload 4, 0, 0) :: c_Boxes_firstEntered_5
def c_Boxes_firstEntered_1 : List eg_I := .inl (1, 2, .istore 4, 0, 0) :: z_Boxes_firstEntered_3
def c_Boxes_firstEntered_0 : List eg_I := .inl (0, 1, .iconst (0), 0, 0) :: c_Boxes_firstEntered_1
section
variable {rm : Room} {K : Nat → Nat → Nat → eg_Lo → List Value → List eg_E → Prop} {Q : Option Value → List eg_E → Prop} {kc ks : Nat} {loc : eg_Lo} {st : List Value} {h : List eg_E}
theorem s_Boxes_firstEntered_0  : wps rm K Q c_Boxes_firstEntered_0 kc ks loc (st) h = wps rm K Q c_Boxes_firstEntered_1 kc ks loc (.int (0) :: st) h := gk_ic (by decide)
theorem s_Boxes_firstEntered_1 {x : Int32} : wps rm K Q c_Boxes_firstEntered_1 kc ks loc (.int x :: st) h = wps rm K Q z_Boxes_firstEntered_3 kc ks (eg_set1 loc 4 (.int x)) (st) h := gk_istore
theorem s_Boxes_firstEntered_3 {x : Int32} {l0 l1 l2 l3 : Option Value} {l : eg_Lo} : wps rm K Q c_Boxes_firstEntered_3 kc ks (l0 :: l1 :: l2 :: l3 :: some (.int x) :: l) (st) h = wps rm K Q c_Boxes_firstEntered_5 kc ks (l0 :: l1 :: l2 :: l3 :: some (.int x) :: l) (.int x :: st) h := gk_iload rfl
theorem s_Boxes_firstEntered_5 {x : Nat} {l : eg_Lo} : wps rm K Q c_Boxes_firstEntered_5 kc ks (some (.ref x) :: l) (st) h = wps rm K Q c_Boxes_firstEntered_6 kc ks (some (.ref x) :: l) (.ref x :: st) h := gk_aload rfl
theorem s_Boxes_firstEntered_6 {x : Nat} : wps rm K Q c_Boxes_firstEntered_6 kc ks loc (.ref (x + 1) :: st) h = eg_gf h x 0 0 (fun v => wps rm K Q c_Boxes_firstEntered_9 kc ks loc (v :: st) h) := gk_gf
theorem s_Boxes_firstEntered_9 {x y : Int32} : wps rm K Q c_Boxes_firstEntered_9 kc ks loc (.int y :: .int x :: st) h = ((y ≤ x → K 33 kc ks loc st h) ∧ (¬ y ≤ x → wps rm K Q c_Boxes_firstEntered_12 kc ks loc (st) h)) := gk_if2_ge
theorem s_Boxes_firstEntered_12 {x : Nat} {l : eg_Lo} : wps rm K Q c_Boxes_firstEntered_12 kc ks (some (.ref x) :: l) (st) h = wps rm K Q c_Boxes_firstEntered_13 kc ks (some (.ref x) :: l) (.ref x :: st) h := gk_aload rfl
theorem s_Boxes_firstEntered_13 {x : Int32} {l0 l1 l2 l3 : Option Value} {l : eg_Lo} : wps rm K Q c_Boxes_firstEntered_13 kc ks (l0 :: l1 :: l2 :: l3 :: some (.int x) :: l) (st) h = wps rm K Q c_Boxes_firstEntered_15 kc ks (l0 :: l1 :: l2 :: l3 :: some (.int x) :: l) (.int x :: st) h := gk_iload rfl
theorem s_Boxes_firstEntered_15 {x : Nat} {l0 : Option Value} {l : eg_Lo} : wps rm K Q c_Boxes_firstEntered_15 kc ks (l0 :: some (.ref x) :: l) (st) h = wps rm K Q c_Boxes_firstEntered_16 kc ks (l0 :: some (.ref x) :: l) (.ref x :: st) h := gk_aload rfl
theorem s_Boxes_firstEntered_16 {x : Int32} {l0 l1 : Option Value} {l : eg_Lo} : wps rm K Q c_Boxes_firstEntered_16 kc ks (l0 :: l1 :: some (.int x) :: l) (st) h = wps rm K Q c_Boxes_firstEntered_17 kc ks (l0 :: l1 :: some (.int x) :: l) (.int x :: st) h := gk_iload rfl
theorem s_Boxes_firstEntered_17 {x : Int32} {l0 l1 l2 : Option Value} {l : eg_Lo} : wps rm K Q c_Boxes_firstEntered_17 kc ks (l0 :: l1 :: l2 :: some (.int x) :: l) (st) h = wps rm K Q c_Boxes_firstEntered_18 kc ks (l0 :: l1 :: l2 :: some (.int x) :: l) (.int x :: st) h := gk_iload rfl
theorem s_Boxes_firstEntered_18  {a1 : Value} {a2 : Value} {a3 : Value} {a4 : Value} {x : Nat} : wps rm K Q c_Boxes_firstEntered_18 kc ks loc (a4 :: a3 :: a2 :: a1 :: .ref (x + 1) :: st) h = (eg_cls h x 0 ∧ st.length ≤ 4 ∧ eg_Cs n_Boxes_isEntered (.ref (x + 1) :: [a1, a2, a3, a4]) h (fun v h9 => wps rm K Q c_Boxes_firstEntered_21 kc ks loc (v.toList ++ st) h9)) := eg_c1_4
theorem s_Boxes_firstEntered_21 {x : Int32} : wps rm K Q c_Boxes_firstEntered_21 kc ks loc (.int x :: st) h = ((x = 0 → K 27 kc ks loc st h) ∧ (¬ x = 0 → wps rm K Q c_Boxes_firstEntered_24 kc ks loc (st) h)) := gk_if1_eq
theorem s_Boxes_firstEntered_24 {x : Int32} {l0 l1 l2 l3 : Option Value} {l : eg_Lo} : wps rm K Q c_Boxes_firstEntered_24 kc ks (l0 :: l1 :: l2 :: l3 :: some (.int x) :: l) (st) h = wps rm K Q c_Boxes_firstEntered_26 kc ks (l0 :: l1 :: l2 :: l3 :: some (.int x) :: l) (.int x :: st) h := gk_iload rfl
theorem s_Boxes_firstEntered_26 {x : Int32} : wps rm K Q c_Boxes_firstEntered_26 kc ks loc ([.int x]) h = (kc = rm.cells ∧ (0 = 1 → x = 0 ∨ x = 1) ∧ Q (some (.int x)) h) := gk_iret
theorem s_Boxes_firstEntered_27 {x : Int32} {l0 l1 l2 l3 : Option Value} {lz : eg_Lo} : wps rm K Q c_Boxes_firstEntered_27 kc ks (l0 :: l1 :: l2 :: l3 :: some (.int x) :: lz) (st) h = wps rm K Q c_Boxes_firstEntered_30 kc ks (eg_set1 (l0 :: l1 :: l2 :: l3 :: some (.int x) :: lz) 4 (.int (x + (1)))) (st) h := gk_iinc rfl (by decide)
theorem s_Boxes_firstEntered_30  : wps rm K Q c_Boxes_firstEntered_30 kc ks loc (st) h = K 3 kc ks loc st h := gk_goto
theorem s_Boxes_firstEntered_33  : wps rm K Q c_Boxes_firstEntered_33 kc ks loc (st) h = wps rm K Q c_Boxes_firstEntered_34 kc ks loc (.int (-1) :: st) h := gk_ic (by decide)
theorem s_Boxes_firstEntered_34 {x : Int32} : wps rm K Q c_Boxes_firstEntered_34 kc ks loc ([.int x]) h = (kc = rm.cells ∧ (0 = 1 → x = 0 ∨ x = 1) ∧ Q (some (.int x)) h) := gk_iret
theorem sz_Boxes_firstEntered_3 : wps rm K Q z_Boxes_firstEntered_3 kc ks loc st h = K 3 kc ks loc st h := gk_nop
def T_Boxes_firstEntered : List (Nat × List eg_I) := [(27, c_Boxes_firstEntered_27), (33, c_Boxes_firstEntered_33)]
theorem j_Boxes_firstEntered_27 {R : Nat → Nat → Nat → eg_Lo → List Value → List eg_E → Prop} {f pc0 : Nat} : eg_run rm R Q T_Boxes_firstEntered (f + 1) 27 kc ks loc st h = wps rm (eg_run rm R Q T_Boxes_firstEntered f) Q c_Boxes_firstEntered_27 kc ks loc st h := rfl
theorem j_Boxes_firstEntered_33 {R : Nat → Nat → Nat → eg_Lo → List Value → List eg_E → Prop} {f pc0 : Nat} : eg_run rm R Q T_Boxes_firstEntered (f + 1) 33 kc ks loc st h = wps rm (eg_run rm R Q T_Boxes_firstEntered f) Q c_Boxes_firstEntered_33 kc ks loc st h := rfl
theorem j_Boxes_firstEntered_3 {R : Nat → Nat → Nat → eg_Lo → List Value → List eg_E → Prop} {f pc0 : Nat} : eg_run rm R Q T_Boxes_firstEntered (f + 1) 3 kc ks loc st h = R 3 kc ks loc st h := rfl
end
theorem y_Boxes_firstEntered_0 : eg_seq m_Boxes_firstEntered 0 c_Boxes_firstEntered_0 = true := by decide +kernel
theorem y_Boxes_firstEntered_3 : eg_seq m_Boxes_firstEntered 3 c_Boxes_firstEntered_3 = true := by decide +kernel
theorem y_Boxes_firstEntered_27 : eg_seq m_Boxes_firstEntered 27 c_Boxes_firstEntered_27 = true := by decide +kernel
theorem y_Boxes_firstEntered_33 : eg_seq m_Boxes_firstEntered 33 c_Boxes_firstEntered_33 = true := by decide +kernel
theorem q_Boxes_firstEntered : ∀ q ∈ T_Boxes_firstEntered, eg_seq m_Boxes_firstEntered q.1 q.2 = true := by
  intro q hq
  simp only [T_Boxes_firstEntered, List.mem_cons, List.not_mem_nil, or_false] at hq
  rcases hq with rfl | rfl
  · exact y_Boxes_firstEntered_27
  · exact y_Boxes_firstEntered_33
theorem b_Boxes_firstEntered {as : List Value} {h : List eg_E} {Q : Option Value → List eg_E → Prop} (hf : (eg_fl as).length ≤ 5) (hw : wps (eg_rm m_Boxes_firstEntered) (eg_run (eg_rm m_Boxes_firstEntered) (eg_R m_Boxes_firstEntered Q (h.length + 0)) Q T_Boxes_firstEntered 4) Q c_Boxes_firstEntered_0 0 0 (eg_entry 5 as) [] h) : eg_Runs n_Boxes_firstEntered as h Q := eg_begin2 (d := m_Boxes_firstEntered) rfl (by decide) y_Boxes_firstEntered_0 q_Boxes_firstEntered hf hw
theorem p_Boxes_firstEntered_3 {Q : Option Value → List eg_E → Prop} {n0 kc ks : Nat} {loc : eg_Lo} {st : List Value} {h : List eg_E} (hw : wps (eg_rm m_Boxes_firstEntered) (eg_run (eg_rm m_Boxes_firstEntered) (eg_R m_Boxes_firstEntered Q n0) Q T_Boxes_firstEntered 4) Q c_Boxes_firstEntered_3 kc ks loc st h) : eg_R m_Boxes_firstEntered Q n0 3 kc ks loc st h := eg_go2 y_Boxes_firstEntered_3 q_Boxes_firstEntered hw
/-! ===== Boxes_isEntered ===== -/
def c_Boxes_isEntered_145 : List eg_I := .inl (145, 1, .ireturn, 0, 1) :: []
def c_Boxes_isEntered_144 : List eg_I := .inl (144, 1, .iconst (0), 0, 0) :: c_Boxes_isEntered_145
def c_Boxes_isEntered_141 : List eg_I := .inl (141, 3, .goto (4), 145, 0) :: []
def c_Boxes_isEntered_140 : List eg_I := .inl (140, 1, .iconst (1), 0, 0) :: c_Boxes_isEntered_141
def c_Boxes_isEntered_137 : List eg_I := .inl (137, 3, .ifCond .ge (7), 144, 0) :: c_Boxes_isEntered_140
def c_Boxes_isEntered_136 : List eg_I := .inl (136, 1, .lcmp, 0, 0) :: c_Boxes_isEntered_137
def c_Boxes_isEntered_133 : List eg_I := .inl (133, 3, .getfield 32, 0, 4) :: c_Boxes_isEntered_136
def c_Boxes_isEntered_132 : List eg_I := .inl (132, 1, .aload 0, 0, 0) :: c_Boxes_isEntered_133
def c_Boxes_isEntered_129 : List eg_I := .inl (129, 3, .getfield 28, 0, 3) :: c_Boxes_isEntered_132
def c_Boxes_isEntered_128 : List eg_I := .inl (128, 1, .aload 0, 0, 0) :: c_Boxes_isEntered_129
def c_Boxes_isEntered_125 : List eg_I := .inl (125, 3, .ifCond .le (19), 144, 0) :: c_Boxes_isEntered_128
def c_Boxes_isEntered_124 : List eg_I := .inl (124, 1, .lcmp, 0, 0) :: c_Boxes_isEntered_125
def c_Boxes_isEntered_123 : List eg_I := .inl (123, 1, .sipush (0), 0, 0) :: c_Boxes_isEntered_124
def c_Boxes_isEntered_120 : List eg_I := .inl (120, 3, .getfield 37, 0, 5) :: c_Boxes_isEntered_123
def c_Boxes_isEntered_119 : List eg_I := .inl (119, 1, .aload 0, 0, 0) :: c_Boxes_isEntered_120
def c_Boxes_isEntered_116 : List eg_I := .inl (116, 3, .ifCond .ge (28), 144, 0) :: c_Boxes_isEntered_119
def c_Boxes_isEntered_115 : List eg_I := .inl (115, 1, .lcmp, 0, 0) :: c_Boxes_isEntered_116
def c_Boxes_isEntered_114 : List eg_I := .inl (114, 1, .lmul, 0, 0) :: c_Boxes_isEntered_115
def c_Boxes_isEntered_111 : List eg_I := .inl (111, 3, .getfield 32, 0, 4) :: c_Boxes_isEntered_114
def c_Boxes_isEntered_110 : List eg_I := .inl (110, 1, .aload 0, 0, 0) :: c_Boxes_isEntered_111
def c_Boxes_isEntered_107 : List eg_I := .inl (107, 3, .getfield 37, 0, 5) :: c_Boxes_isEntered_110
def c_Boxes_isEntered_106 : List eg_I := .inl (106, 1, .aload 0, 0, 0) :: c_Boxes_isEntered_107
def c_Boxes_isEntered_105 : List eg_I := .inl (105, 1, .lmul, 0, 0) :: c_Boxes_isEntered_106
def c_Boxes_isEntered_102 : List eg_I := .inl (102, 3, .getfield 40, 0, 6) :: c_Boxes_isEntered_105
def c_Boxes_isEntered_101 : List eg_I := .inl (101, 1, .aload 0, 0, 0) :: c_Boxes_isEntered_102
def c_Boxes_isEntered_98 : List eg_I := .inl (98, 3, .getfield 28, 0, 3) :: c_Boxes_isEntered_101
def c_Boxes_isEntered_97 : List eg_I := .inl (97, 1, .aload 0, 0, 0) :: c_Boxes_isEntered_98
def c_Boxes_isEntered_94 : List eg_I := .inl (94, 3, .ifCond .eq (50), 144, 0) :: c_Boxes_isEntered_97
def c_Boxes_isEntered_91 : List eg_I := .inr (91, 1, 48, n_Boxes_narrow, 3, 0, 0, 0) :: c_Boxes_isEntered_94
def c_Boxes_isEntered_90 : List eg_I := .inl (90, 1, .iaload, 0, 0) :: c_Boxes_isEntered_91
def c_Boxes_isEntered_88 : List eg_I := .inl (88, 2, .iload 4, 0, 0) :: c_Boxes_isEntered_90
def c_Boxes_isEntered_85 : List eg_I := .inl (85, 3, .getfield 55, 8, 2) :: c_Boxes_isEntered_88
def c_Boxes_isEntered_84 : List eg_I := .inl (84, 1, .aload 2, 0, 0) :: c_Boxes_isEntered_85
def c_Boxes_isEntered_83 : List eg_I := .inl (83, 1, .iaload, 0, 0) :: c_Boxes_isEntered_84
def c_Boxes_isEntered_82 : List eg_I := .inl (82, 1, .iload 3, 0, 0) :: c_Boxes_isEntered_83
def c_Boxes_isEntered_79 : List eg_I := .inl (79, 3, .getfield 55, 8, 2) :: c_Boxes_isEntered_82
def c_Boxes_isEntered_78 : List eg_I := .inl (78, 1, .aload 2, 0, 0) :: c_Boxes_isEntered_79
def c_Boxes_isEntered_77 : List eg_I := .inl (77, 1, .iadd, 0, 0) :: c_Boxes_isEntered_78
def c_Boxes_isEntered_76 : List eg_I := .inl (76, 1, .iconst (2), 0, 0) :: c_Boxes_isEntered_77
def c_Boxes_isEntered_75 : List eg_I := .inl (75, 1, .imul, 0, 0) :: c_Boxes_isEntered_76
def c_Boxes_isEntered_74 : List eg_I := .inl (74, 1, .iload 1, 0, 0) :: c_Boxes_isEntered_75
def c_Boxes_isEntered_73 : List eg_I := .inl (73, 1, .iconst (3), 0, 0) :: c_Boxes_isEntered_74
def c_Boxes_isEntered_72 : List eg_I := .inl (72, 1, .aload 0, 0, 0) :: c_Boxes_isEntered_73
def c_Boxes_isEntered_69 : List eg_I := .inl (69, 3, .ifCond .eq (75), 144, 0) :: c_Boxes_isEntered_72
def c_Boxes_isEntered_66 : List eg_I := .inr (66, 1, 48, n_Boxes_narrow, 3, 0, 0, 0) :: c_Boxes_isEntered_69
def c_Boxes_isEntered_65 : List eg_I := .inl (65, 1, .iaload, 0, 0) :: c_Boxes_isEntered_66
def c_Boxes_isEntered_63 : List eg_I := .inl (63, 2, .iload 4, 0, 0) :: c_Boxes_isEntered_65
def c_Boxes_isEntered_60 : List eg_I := .inl (60, 3, .getfield 52, 8, 1) :: c_Boxes_isEntered_63
def c_Boxes_isEntered_59 : List eg_I := .inl (59, 1, .aload 2, 0, 0) :: c_Boxes_isEntered_60
def c_Boxes_isEntered_58 : List eg_I := .inl (58, 1, .iaload, 0, 0) :: c_Boxes_isEntered_59
def c_Boxes_isEntered_57 : List eg_I := .inl (57, 1, .iload 3, 0, 0) :: c_Boxes_isEntered_58
def c_Boxes_isEntered_54 : List eg_I := .inl (54, 3, .getfield 52, 8, 1) :: c_Boxes_isEntered_57
def c_Boxes_isEntered_53 : List eg_I := .inl (53, 1, .aload 2, 0, 0) :: c_Boxes_isEntered_54
def c_Boxes_isEntered_52 : List eg_I := .inl (52, 1, .iadd, 0, 0) :: c_Boxes_isEntered_53
def c_Boxes_isEntered_51 : List eg_I := .inl (51, 1, .iconst (1), 0, 0) :: c_Boxes_isEntered_52
def c_Boxes_isEntered_50 : List eg_I := .inl (50, 1, .imul, 0, 0) :: c_Boxes_isEntered_51
def c_Boxes_isEntered_49 : List eg_I := .inl (49, 1, .iload 1, 0, 0) :: c_Boxes_isEntered_50
def c_Boxes_isEntered_48 : List eg_I := .inl (48, 1, .iconst (3), 0, 0) :: c_Boxes_isEntered_49
def c_Boxes_isEntered_47 : List eg_I := .inl (47, 1, .aload 0, 0, 0) :: c_Boxes_isEntered_48
def c_Boxes_isEntered_44 : List eg_I := .inl (44, 3, .ifCond .eq (100), 144, 0) :: c_Boxes_isEntered_47
def c_Boxes_isEntered_41 : List eg_I := .inr (41, 1, 48, n_Boxes_narrow, 3, 0, 0, 0) :: c_Boxes_isEntered_44
def c_Boxes_isEntered_40 : List eg_I := .inl (40, 1, .iaload, 0, 0) :: c_Boxes_isEntered_41
def c_Boxes_isEntered_38 : List eg_I := .inl (38, 2, .iload 4, 0, 0) :: c_Boxes_isEntered_40
def c_Boxes_isEntered_35 : List eg_I := .inl (35, 3, .getfield 43, 8, 0) :: c_Boxes_isEntered_38
def c_Boxes_isEntered_34 : List eg_I := .inl (34, 1, .aload 2, 0, 0) :: c_Boxes_isEntered_35
def c_Boxes_isEntered_33 : List eg_I := .inl (33, 1, .iaload, 0, 0) :: c_Boxes_isEntered_34
def c_Boxes_isEntered_32 : List eg_I := .inl (32, 1, .iload 3, 0, 0) :: c_Boxes_isEntered_33
def c_Boxes_isEntered_29 : List eg_I := .inl (29, 3, .getfield 43, 8, 0) :: c_Boxes_isEntered_32
def c_Boxes_isEntered_28 : List eg_I := .inl (28, 1, .aload 2, 0, 0) :: c_Boxes_isEntered_29
def c_Boxes_isEntered_27 : List eg_I := .inl (27, 1, .imul, 0, 0) :: c_Boxes_isEntered_28
def c_Boxes_isEntered_26 : List eg_I := .inl (26, 1, .iload 1, 0, 0) :: c_Boxes_isEntered_27
def c_Boxes_isEntered_25 : List eg_I := .inl (25, 1, .iconst (3), 0, 0) :: c_Boxes_isEntered_26
def c_Boxes_isEntered_24 : List eg_I := .inl (24, 1, .aload 0, 0, 0) :: c_Boxes_isEntered_25
def c_Boxes_isEntered_21 : List eg_I := .inl (21, 3, .putfield 40, 0, 6) :: c_Boxes_isEntered_24
def c_Boxes_isEntered_20 : List eg_I := .inl (20, 1, .sipush (1), 0, 0) :: c_Boxes_isEntered_21
def c_Boxes_isEntered_19 : List eg_I := .inl (19, 1, .aload 0, 0, 0) :: c_Boxes_isEntered_20
def c_Boxes_isEntered_16 : List eg_I := .inl (16, 3, .putfield 37, 0, 5) :: c_Boxes_isEntered_19
def c_Boxes_isEntered_13 : List eg_I := .inl (13, 3, .sipush (2), 35, 0) :: c_Boxes_isEntered_16
def c_Boxes_isEntered_12 : List eg_I := .inl (12, 1, .aload 0, 0, 0) :: c_Boxes_isEntered_13
def c_Boxes_isEntered_9 : List eg_I := .inl (9, 3, .putfield 32, 0, 4) :: c_Boxes_isEntered_12
def c_Boxes_isEntered_8 : List eg_I := .inl (8, 1, .sipush (1), 0, 0) :: c_Boxes_isEntered_9
def c_Boxes_isEntered_7 : List eg_I := .inl (7, 1, .aload 0, 0, 0) :: c_Boxes_isEntered_8
def c_Boxes_isEntered_4 : List eg_I := .inl (4, 3, .putfield 28, 0, 3) :: c_Boxes_isEntered_7
def c_Boxes_isEntered_1 : List eg_I := .inl (1, 3, .sipush (-1), 26, 0) :: c_Boxes_isEntered_4
def c_Boxes_isEntered_0 : List eg_I := .inl (0, 1, .aload 0, 0, 0) :: c_Boxes_isEntered_1
section
variable {rm : Room} {K : Nat → Nat → Nat → eg_Lo → List Value → List eg_E → Prop} {Q : Option Value → List eg_E → Prop} {kc ks : Nat} {loc : eg_Lo} {st : List Value} {h : List eg_E}
theorem s_Boxes_isEntered_0 {x : Nat} {l : eg_Lo} : wps rm K Q c_Boxes_isEntered_0 kc ks (some (.ref x) :: l) (st) h = wps rm K Q c_Boxes_isEntered_1 kc ks (some (.ref x) :: l) (.ref x :: st) h := gk_aload rfl
theorem s_Boxes_isEntered_1  : wps rm K Q c_Boxes_isEntered_1 kc ks loc (st) h = wps rm K Q c_Boxes_isEntered_4 kc ks loc (.long (-1) :: st) h := gk_lc (by decide)
theorem s_Boxes_isEntered_4 {x : Nat} {v : Value} : wps rm K Q c_Boxes_isEntered_4 kc ks loc (v :: .ref (x + 1) :: st) h = eg_pf h x 0 3 v (fun h9 => wps rm K Q c_Boxes_isEntered_7 kc ks loc (st) h9) := gk_pf
theorem s_Boxes_isEntered_7 {x : Nat} {l : eg_Lo} : wps rm K Q c_Boxes_isEntered_7 kc ks (some (.ref x) :: l) (st) h = wps rm K Q c_Boxes_isEntered_8 kc ks (some (.ref x) :: l) (.ref x :: st) h := gk_aload rfl
theorem s_Boxes_isEntered_8  : wps rm K Q c_Boxes_isEntered_8 kc ks loc (st) h = wps rm K Q c_Boxes_isEntered_9 kc ks loc (.long (1) :: st) h := gk_lc (by decide)
theorem s_Boxes_isEntered_9 {x : Nat} {v : Value} : wps rm K Q c_Boxes_isEntered_9 kc ks loc (v :: .ref (x + 1) :: st) h = eg_pf h x 0 4 v (fun h9 => wps rm K Q c_Boxes_isEntered_12 kc ks loc (st) h9) := gk_pf
theorem s_Boxes_isEntered_12 {x : Nat} {l : eg_Lo} : wps rm K Q c_Boxes_isEntered_12 kc ks (some (.ref x) :: l) (st) h = wps rm K Q c_Boxes_isEntered_13 kc ks (some (.ref x) :: l) (.ref x :: st) h := gk_aload rfl
theorem s_Boxes_isEntered_13  : wps rm K Q c_Boxes_isEntered_13 kc ks loc (st) h = wps rm K Q c_Boxes_isEntered_16 kc ks loc (.long (2) :: st) h := gk_lc (by decide)
theorem s_Boxes_isEntered_16 {x : Nat} {v : Value} : wps rm K Q c_Boxes_isEntered_16 kc ks loc (v :: .ref (x + 1) :: st) h = eg_pf h x 0 5 v (fun h9 => wps rm K Q c_Boxes_isEntered_19 kc ks loc (st) h9) := gk_pf
theorem s_Boxes_isEntered_19 {x : Nat} {l : eg_Lo} : wps rm K Q c_Boxes_isEntered_19 kc ks (some (.ref x) :: l) (st) h = wps rm K Q c_Boxes_isEntered_20 kc ks (some (.ref x) :: l) (.ref x :: st) h := gk_aload rfl
theorem s_Boxes_isEntered_20  : wps rm K Q c_Boxes_isEntered_20 kc ks loc (st) h = wps rm K Q c_Boxes_isEntered_21 kc ks loc (.long (1) :: st) h := gk_lc (by decide)
theorem s_Boxes_isEntered_21 {x : Nat} {v : Value} : wps rm K Q c_Boxes_isEntered_21 kc ks loc (v :: .ref (x + 1) :: st) h = eg_pf h x 0 6 v (fun h9 => wps rm K Q c_Boxes_isEntered_24 kc ks loc (st) h9) := gk_pf
theorem s_Boxes_isEntered_24 {x : Nat} {l : eg_Lo} : wps rm K Q c_Boxes_isEntered_24 kc ks (some (.ref x) :: l) (st) h = wps rm K Q c_Boxes_isEntered_25 kc ks (some (.ref x) :: l) (.ref x :: st) h := gk_aload rfl
theorem s_Boxes_isEntered_25  : wps rm K Q c_Boxes_isEntered_25 kc ks loc (st) h = wps rm K Q c_Boxes_isEntered_26 kc ks loc (.int (3) :: st) h := gk_ic (by decide)
theorem s_Boxes_isEntered_26 {x : Int32} {l0 : Option Value} {l : eg_Lo} : wps rm K Q c_Boxes_isEntered_26 kc ks (l0 :: some (.int x) :: l) (st) h = wps rm K Q c_Boxes_isEntered_27 kc ks (l0 :: some (.int x) :: l) (.int x :: st) h := gk_iload rfl
theorem s_Boxes_isEntered_27 {x y : Int32} : wps rm K Q c_Boxes_isEntered_27 kc ks loc (.int y :: .int x :: st) h = wps rm K Q c_Boxes_isEntered_28 kc ks loc (.int (x * y) :: st) h := gk_imul
theorem s_Boxes_isEntered_28 {x : Nat} {l0 l1 : Option Value} {l : eg_Lo} : wps rm K Q c_Boxes_isEntered_28 kc ks (l0 :: l1 :: some (.ref x) :: l) (st) h = wps rm K Q c_Boxes_isEntered_29 kc ks (l0 :: l1 :: some (.ref x) :: l) (.ref x :: st) h := gk_aload rfl
theorem s_Boxes_isEntered_29 {x : Nat} : wps rm K Q c_Boxes_isEntered_29 kc ks loc (.ref (x + 1) :: st) h = eg_gf h x 8 0 (fun v => wps rm K Q c_Boxes_isEntered_32 kc ks loc (v :: st) h) := gk_gf
theorem s_Boxes_isEntered_32 {x : Int32} {l0 l1 l2 : Option Value} {l : eg_Lo} : wps rm K Q c_Boxes_isEntered_32 kc ks (l0 :: l1 :: l2 :: some (.int x) :: l) (st) h = wps rm K Q c_Boxes_isEntered_33 kc ks (l0 :: l1 :: l2 :: some (.int x) :: l) (.int x :: st) h := gk_iload rfl
theorem s_Boxes_isEntered_33 {x : Nat} {i : Int32} : wps rm K Q c_Boxes_isEntered_33 kc ks loc (.int i :: .ref (x + 1) :: st) h = eg_ia h x i (fun v => wps rm K Q c_Boxes_isEntered_34 kc ks loc (.int v :: st) h) := gk_iaload
theorem s_Boxes_isEntered_34 {x : Nat} {l0 l1 : Option Value} {l : eg_Lo} : wps rm K Q c_Boxes_isEntered_34 kc ks (l0 :: l1 :: some (.ref x) :: l) (st) h = wps rm K Q c_Boxes_isEntered_35 kc ks (l0 :: l1 :: some (.ref x) :: l) (.ref x :: st) h := gk_aload rfl
theorem s_Boxes_isEntered_35 {x : Nat} : wps rm K Q c_Boxes_isEntered_35 kc ks loc (.ref (x + 1) :: st) h = eg_gf h x 8 0 (fun v => wps rm K Q c_Boxes_isEntered_38 kc ks loc (v :: st) h) := gk_gf
theorem s_Boxes_isEntered_38 {x : Int32} {l0 l1 l2 l3 : Option Value} {l : eg_Lo} : wps rm K Q c_Boxes_isEntered_38 kc ks (l0 :: l1 :: l2 :: l3 :: some (.int x) :: l) (st) h = wps rm K Q c_Boxes_isEntered_40 kc ks (l0 :: l1 :: l2 :: l3 :: some (.int x) :: l) (.int x :: st) h := gk_iload rfl
theorem s_Boxes_isEntered_40 {x : Nat} {i : Int32} : wps rm K Q c_Boxes_isEntered_40 kc ks loc (.int i :: .ref (x + 1) :: st) h = eg_ia h x i (fun v => wps rm K Q c_Boxes_isEntered_41 kc ks loc (.int v :: st) h) := gk_iaload
theorem s_Boxes_isEntered_41  {a1 : Value} {a2 : Value} {a3 : Value} {x : Nat} : wps rm K Q c_Boxes_isEntered_41 kc ks loc (a3 :: a2 :: a1 :: .ref (x + 1) :: st) h = (eg_cls h x 0 ∧ st.length ≤ 4 ∧ eg_Cs n_Boxes_narrow (.ref (x + 1) :: [a1, a2, a3]) h (fun v h9 => wps rm K Q c_Boxes_isEntered_44 kc ks loc (v.toList ++ st) h9)) := eg_c1_3
theorem s_Boxes_isEntered_44 {x : Int32} : wps rm K Q c_Boxes_isEntered_44 kc ks loc (.int x :: st) h = ((x = 0 → K 144 kc ks loc st h) ∧ (¬ x = 0 → wps rm K Q c_Boxes_isEntered_47 kc ks loc (st) h)) := gk_if1_eq
theorem s_Boxes_isEntered_47 {x : Nat} {l : eg_Lo} : wps rm K Q c_Boxes_isEntered_47 kc ks (some (.ref x) :: l) (st) h = wps rm K Q c_Boxes_isEntered_48 kc ks (some (.ref x) :: l) (.ref x :: st) h := gk_aload rfl
theorem s_Boxes_isEntered_48  : wps rm K Q c_Boxes_isEntered_48 kc ks loc (st) h = wps rm K Q c_Boxes_isEntered_49 kc ks loc (.int (3) :: st) h := gk_ic (by decide)
theorem s_Boxes_isEntered_49 {x : Int32} {l0 : Option Value} {l : eg_Lo} : wps rm K Q c_Boxes_isEntered_49 kc ks (l0 :: some (.int x) :: l) (st) h = wps rm K Q c_Boxes_isEntered_50 kc ks (l0 :: some (.int x) :: l) (.int x :: st) h := gk_iload rfl
theorem s_Boxes_isEntered_50 {x y : Int32} : wps rm K Q c_Boxes_isEntered_50 kc ks loc (.int y :: .int x :: st) h = wps rm K Q c_Boxes_isEntered_51 kc ks loc (.int (x * y) :: st) h := gk_imul
theorem s_Boxes_isEntered_51  : wps rm K Q c_Boxes_isEntered_51 kc ks loc (st) h = wps rm K Q c_Boxes_isEntered_52 kc ks loc (.int (1) :: st) h := gk_ic (by decide)
theorem s_Boxes_isEntered_52 {x y : Int32} : wps rm K Q c_Boxes_isEntered_52 kc ks loc (.int y :: .int x :: st) h = wps rm K Q c_Boxes_isEntered_53 kc ks loc (.int (x + y) :: st) h := gk_iadd
theorem s_Boxes_isEntered_53 {x : Nat} {l0 l1 : Option Value} {l : eg_Lo} : wps rm K Q c_Boxes_isEntered_53 kc ks (l0 :: l1 :: some (.ref x) :: l) (st) h = wps rm K Q c_Boxes_isEntered_54 kc ks (l0 :: l1 :: some (.ref x) :: l) (.ref x :: st) h := gk_aload rfl
theorem s_Boxes_isEntered_54 {x : Nat} : wps rm K Q c_Boxes_isEntered_54 kc ks loc (.ref (x + 1) :: st) h = eg_gf h x 8 1 (fun v => wps rm K Q c_Boxes_isEntered_57 kc ks loc (v :: st) h) := gk_gf
theorem s_Boxes_isEntered_57 {x : Int32} {l0 l1 l2 : Option Value} {l : eg_Lo} : wps rm K Q c_Boxes_isEntered_57 kc ks (l0 :: l1 :: l2 :: some (.int x) :: l) (st) h = wps rm K Q c_Boxes_isEntered_58 kc ks (l0 :: l1 :: l2 :: some (.int x) :: l) (.int x :: st) h := gk_iload rfl
theorem s_Boxes_isEntered_58 {x : Nat} {i : Int32} : wps rm K Q c_Boxes_isEntered_58 kc ks loc (.int i :: .ref (x + 1) :: st) h = eg_ia h x i (fun v => wps rm K Q c_Boxes_isEntered_59 kc ks loc (.int v :: st) h) := gk_iaload
theorem s_Boxes_isEntered_59 {x : Nat} {l0 l1 : Option Value} {l : eg_Lo} : wps rm K Q c_Boxes_isEntered_59 kc ks (l0 :: l1 :: some (.ref x) :: l) (st) h = wps rm K Q c_Boxes_isEntered_60 kc ks (l0 :: l1 :: some (.ref x) :: l) (.ref x :: st) h := gk_aload rfl
theorem s_Boxes_isEntered_60 {x : Nat} : wps rm K Q c_Boxes_isEntered_60 kc ks loc (.ref (x + 1) :: st) h = eg_gf h x 8 1 (fun v => wps rm K Q c_Boxes_isEntered_63 kc ks loc (v :: st) h) := gk_gf
theorem s_Boxes_isEntered_63 {x : Int32} {l0 l1 l2 l3 : Option Value} {l : eg_Lo} : wps rm K Q c_Boxes_isEntered_63 kc ks (l0 :: l1 :: l2 :: l3 :: some (.int x) :: l) (st) h = wps rm K Q c_Boxes_isEntered_65 kc ks (l0 :: l1 :: l2 :: l3 :: some (.int x) :: l) (.int x :: st) h := gk_iload rfl
theorem s_Boxes_isEntered_65 {x : Nat} {i : Int32} : wps rm K Q c_Boxes_isEntered_65 kc ks loc (.int i :: .ref (x + 1) :: st) h = eg_ia h x i (fun v => wps rm K Q c_Boxes_isEntered_66 kc ks loc (.int v :: st) h) := gk_iaload
theorem s_Boxes_isEntered_66  {a1 : Value} {a2 : Value} {a3 : Value} {x : Nat} : wps rm K Q c_Boxes_isEntered_66 kc ks loc (a3 :: a2 :: a1 :: .ref (x + 1) :: st) h = (eg_cls h x 0 ∧ st.length ≤ 4 ∧ eg_Cs n_Boxes_narrow (.ref (x + 1) :: [a1, a2, a3]) h (fun v h9 => wps rm K Q c_Boxes_isEntered_69 kc ks loc (v.toList ++ st) h9)) := eg_c1_3
theorem s_Boxes_isEntered_69 {x : Int32} : wps rm K Q c_Boxes_isEntered_69 kc ks loc (.int x :: st) h = ((x = 0 → K 144 kc ks loc st h) ∧ (¬ x = 0 → wps rm K Q c_Boxes_isEntered_72 kc ks loc (st) h)) := gk_if1_eq
theorem s_Boxes_isEntered_72 {x : Nat} {l : eg_Lo} : wps rm K Q c_Boxes_isEntered_72 kc ks (some (.ref x) :: l) (st) h = wps rm K Q c_Boxes_isEntered_73 kc ks (some (.ref x) :: l) (.ref x :: st) h := gk_aload rfl
theorem s_Boxes_isEntered_73  : wps rm K Q c_Boxes_isEntered_73 kc ks loc (st) h = wps rm K Q c_Boxes_isEntered_74 kc ks loc (.int (3) :: st) h := gk_ic (by decide)
theorem s_Boxes_isEntered_74 {x : Int32} {l0 : Option Value} {l : eg_Lo} : wps rm K Q c_Boxes_isEntered_74 kc ks (l0 :: some (.int x) :: l) (st) h = wps rm K Q c_Boxes_isEntered_75 kc ks (l0 :: some (.int x) :: l) (.int x :: st) h := gk_iload rfl
theorem s_Boxes_isEntered_75 {x y : Int32} : wps rm K Q c_Boxes_isEntered_75 kc ks loc (.int y :: .int x :: st) h = wps rm K Q c_Boxes_isEntered_76 kc ks loc (.int (x * y) :: st) h := gk_imul
theorem s_Boxes_isEntered_76  : wps rm K Q c_Boxes_isEntered_76 kc ks loc (st) h = wps rm K Q c_Boxes_isEntered_77 kc ks loc (.int (2) :: st) h := gk_ic (by decide)
theorem s_Boxes_isEntered_77 {x y : Int32} : wps rm K Q c_Boxes_isEntered_77 kc ks loc (.int y :: .int x :: st) h = wps rm K Q c_Boxes_isEntered_78 kc ks loc (.int (x + y) :: st) h := gk_iadd
theorem s_Boxes_isEntered_78 {x : Nat} {l0 l1 : Option Value} {l : eg_Lo} : wps rm K Q c_Boxes_isEntered_78 kc ks (l0 :: l1 :: some (.ref x) :: l) (st) h = wps rm K Q c_Boxes_isEntered_79 kc ks (l0 :: l1 :: some (.ref x) :: l) (.ref x :: st) h := gk_aload rfl
theorem s_Boxes_isEntered_79 {x : Nat} : wps rm K Q c_Boxes_isEntered_79 kc ks loc (.ref (x + 1) :: st) h = eg_gf h x 8 2 (fun v => wps rm K Q c_Boxes_isEntered_82 kc ks loc (v :: st) h) := gk_gf
theorem s_Boxes_isEntered_82 {x : Int32} {l0 l1 l2 : Option Value} {l : eg_Lo} : wps rm K Q c_Boxes_isEntered_82 kc ks (l0 :: l1 :: l2 :: some (.int x) :: l) (st) h = wps rm K Q c_Boxes_isEntered_83 kc ks (l0 :: l1 :: l2 :: some (.int x) :: l) (.int x :: st) h := gk_iload rfl
theorem s_Boxes_isEntered_83 {x : Nat} {i : Int32} : wps rm K Q c_Boxes_isEntered_83 kc ks loc (.int i :: .ref (x + 1) :: st) h = eg_ia h x i (fun v => wps rm K Q c_Boxes_isEntered_84 kc ks loc (.int v :: st) h) := gk_iaload
theorem s_Boxes_isEntered_84 {x : Nat} {l0 l1 : Option Value} {l : eg_Lo} : wps rm K Q c_Boxes_isEntered_84 kc ks (l0 :: l1 :: some (.ref x) :: l) (st) h = wps rm K Q c_Boxes_isEntered_85 kc ks (l0 :: l1 :: some (.ref x) :: l) (.ref x :: st) h := gk_aload rfl
theorem s_Boxes_isEntered_85 {x : Nat} : wps rm K Q c_Boxes_isEntered_85 kc ks loc (.ref (x + 1) :: st) h = eg_gf h x 8 2 (fun v => wps rm K Q c_Boxes_isEntered_88 kc ks loc (v :: st) h) := gk_gf
theorem s_Boxes_isEntered_88 {x : Int32} {l0 l1 l2 l3 : Option Value} {l : eg_Lo} : wps rm K Q c_Boxes_isEntered_88 kc ks (l0 :: l1 :: l2 :: l3 :: some (.int x) :: l) (st) h = wps rm K Q c_Boxes_isEntered_90 kc ks (l0 :: l1 :: l2 :: l3 :: some (.int x) :: l) (.int x :: st) h := gk_iload rfl
theorem s_Boxes_isEntered_90 {x : Nat} {i : Int32} : wps rm K Q c_Boxes_isEntered_90 kc ks loc (.int i :: .ref (x + 1) :: st) h = eg_ia h x i (fun v => wps rm K Q c_Boxes_isEntered_91 kc ks loc (.int v :: st) h) := gk_iaload
theorem s_Boxes_isEntered_91  {a1 : Value} {a2 : Value} {a3 : Value} {x : Nat} : wps rm K Q c_Boxes_isEntered_91 kc ks loc (a3 :: a2 :: a1 :: .ref (x + 1) :: st) h = (eg_cls h x 0 ∧ st.length ≤ 4 ∧ eg_Cs n_Boxes_narrow (.ref (x + 1) :: [a1, a2, a3]) h (fun v h9 => wps rm K Q c_Boxes_isEntered_94 kc ks loc (v.toList ++ st) h9)) := eg_c1_3
theorem s_Boxes_isEntered_94 {x : Int32} : wps rm K Q c_Boxes_isEntered_94 kc ks loc (.int x :: st) h = ((x = 0 → K 144 kc ks loc st h) ∧ (¬ x = 0 → wps rm K Q c_Boxes_isEntered_97 kc ks loc (st) h)) := gk_if1_eq
theorem s_Boxes_isEntered_97 {x : Nat} {l : eg_Lo} : wps rm K Q c_Boxes_isEntered_97 kc ks (some (.ref x) :: l) (st) h = wps rm K Q c_Boxes_isEntered_98 kc ks (some (.ref x) :: l) (.ref x :: st) h := gk_aload rfl
theorem s_Boxes_isEntered_98 {x : Nat} : wps rm K Q c_Boxes_isEntered_98 kc ks loc (.ref (x + 1) :: st) h = eg_gf h x 0 3 (fun v => wps rm K Q c_Boxes_isEntered_101 kc ks loc (v :: st) h) := gk_gf
theorem s_Boxes_isEntered_101 {x : Nat} {l : eg_Lo} : wps rm K Q c_Boxes_isEntered_101 kc ks (some (.ref x) :: l) (st) h = wps rm K Q c_Boxes_isEntered_102 kc ks (some (.ref x) :: l) (.ref x :: st) h := gk_aload rfl
theorem s_Boxes_isEntered_102 {x : Nat} : wps rm K Q c_Boxes_isEntered_102 kc ks loc (.ref (x + 1) :: st) h = eg_gf h x 0 6 (fun v => wps rm K Q c_Boxes_isEntered_105 kc ks loc (v :: st) h) := gk_gf
theorem s_Boxes_isEntered_105 {x y : Int64} : wps rm K Q c_Boxes_isEntered_105 kc ks loc (.long y :: .long x :: st) h = wps rm K Q c_Boxes_isEntered_106 kc ks loc (.long (x * y) :: st) h := gk_lmul
theorem s_Boxes_isEntered_106 {x : Nat} {l : eg_Lo} : wps rm K Q c_Boxes_isEntered_106 kc ks (some (.ref x) :: l) (st) h = wps rm K Q c_Boxes_isEntered_107 kc ks (some (.ref x) :: l) (.ref x :: st) h := gk_aload rfl
theorem s_Boxes_isEntered_107 {x : Nat} : wps rm K Q c_Boxes_isEntered_107 kc ks loc (.ref (x + 1) :: st) h = eg_gf h x 0 5 (fun v => wps rm K Q c_Boxes_isEntered_110 kc ks loc (v :: st) h) := gk_gf
theorem s_Boxes_isEntered_110 {x : Nat} {l : eg_Lo} : wps rm K Q c_Boxes_isEntered_110 kc ks (some (.ref x) :: l) (st) h = wps rm K Q c_Boxes_isEntered_111 kc ks (some (.ref x) :: l) (.ref x :: st) h := gk_aload rfl
theorem s_Boxes_isEntered_111 {x : Nat} : wps rm K Q c_Boxes_isEntered_111 kc ks loc (.ref (x + 1) :: st) h = eg_gf h x 0 4 (fun v => wps rm K Q c_Boxes_isEntered_114 kc ks loc (v :: st) h) := gk_gf
theorem s_Boxes_isEntered_114 {x y : Int64} : wps rm K Q c_Boxes_isEntered_114 kc ks loc (.long y :: .long x :: st) h = wps rm K Q c_Boxes_isEntered_115 kc ks loc (.long (x * y) :: st) h := gk_lmul
theorem s_Boxes_isEntered_115 {x y : Int64} : wps rm K Q c_Boxes_isEntered_115 kc ks loc (.long y :: .long x :: st) h = wps rm K Q c_Boxes_isEntered_116 kc ks loc (.int (lg_cmp x y) :: st) h := gk_lcmp
theorem s_Boxes_isEntered_116 {x : Int32} : wps rm K Q c_Boxes_isEntered_116 kc ks loc (.int x :: st) h = ((0 ≤ x → K 144 kc ks loc st h) ∧ (¬ 0 ≤ x → wps rm K Q c_Boxes_isEntered_119 kc ks loc (st) h)) := gk_if1_ge
theorem s_Boxes_isEntered_119 {x : Nat} {l : eg_Lo} : wps rm K Q c_Boxes_isEntered_119 kc ks (some (.ref x) :: l) (st) h = wps rm K Q c_Boxes_isEntered_120 kc ks (some (.ref x) :: l) (.ref x :: st) h := gk_aload rfl
theorem s_Boxes_isEntered_120 {x : Nat} : wps rm K Q c_Boxes_isEntered_120 kc ks loc (.ref (x + 1) :: st) h = eg_gf h x 0 5 (fun v => wps rm K Q c_Boxes_isEntered_123 kc ks loc (v :: st) h) := gk_gf
theorem s_Boxes_isEntered_123  : wps rm K Q c_Boxes_isEntered_123 kc ks loc (st) h = wps rm K Q c_Boxes_isEntered_124 kc ks loc (.long (0) :: st) h := gk_lc (by decide)
theorem s_Boxes_isEntered_124 {x y : Int64} : wps rm K Q c_Boxes_isEntered_124 kc ks loc (.long y :: .long x :: st) h = wps rm K Q c_Boxes_isEntered_125 kc ks loc (.int (lg_cmp x y) :: st) h := gk_lcmp
theorem s_Boxes_isEntered_125 {x : Int32} : wps rm K Q c_Boxes_isEntered_125 kc ks loc (.int x :: st) h = ((x ≤ 0 → K 144 kc ks loc st h) ∧ (¬ x ≤ 0 → wps rm K Q c_Boxes_isEntered_128 kc ks loc (st) h)) := gk_if1_le
theorem s_Boxes_isEntered_128 {x : Nat} {l : eg_Lo} : wps rm K Q c_Boxes_isEntered_128 kc ks (some (.ref x) :: l) (st) h = wps rm K Q c_Boxes_isEntered_129 kc ks (some (.ref x) :: l) (.ref x :: st) h := gk_aload rfl
theorem s_Boxes_isEntered_129 {x : Nat} : wps rm K Q c_Boxes_isEntered_129 kc ks loc (.ref (x + 1) :: st) h = eg_gf h x 0 3 (fun v => wps rm K Q c_Boxes_isEntered_132 kc ks loc (v :: st) h) := gk_gf
theorem s_Boxes_isEntered_132 {x : Nat} {l : eg_Lo} : wps rm K Q c_Boxes_isEntered_132 kc ks (some (.ref x) :: l) (st) h = wps rm K Q c_Boxes_isEntered_133 kc ks (some (.ref x) :: l) (.ref x :: st) h := gk_aload rfl
theorem s_Boxes_isEntered_133 {x : Nat} : wps rm K Q c_Boxes_isEntered_133 kc ks loc (.ref (x + 1) :: st) h = eg_gf h x 0 4 (fun v => wps rm K Q c_Boxes_isEntered_136 kc ks loc (v :: st) h) := gk_gf
theorem s_Boxes_isEntered_136 {x y : Int64} : wps rm K Q c_Boxes_isEntered_136 kc ks loc (.long y :: .long x :: st) h = wps rm K Q c_Boxes_isEntered_137 kc ks loc (.int (lg_cmp x y) :: st) h := gk_lcmp
theorem s_Boxes_isEntered_137 {x : Int32} : wps rm K Q c_Boxes_isEntered_137 kc ks loc (.int x :: st) h = ((0 ≤ x → K 144 kc ks loc st h) ∧ (¬ 0 ≤ x → wps rm K Q c_Boxes_isEntered_140 kc ks loc (st) h)) := gk_if1_ge
theorem s_Boxes_isEntered_140  : wps rm K Q c_Boxes_isEntered_140 kc ks loc (st) h = wps rm K Q c_Boxes_isEntered_141 kc ks loc (.int (1) :: st) h := gk_ic (by decide)
theorem s_Boxes_isEntered_141  : wps rm K Q c_Boxes_isEntered_141 kc ks loc (st) h = K 145 kc ks loc st h := gk_goto
theorem s_Boxes_isEntered_144  : wps rm K Q c_Boxes_isEntered_144 kc ks loc (st) h = wps rm K Q c_Boxes_isEntered_145 kc ks loc (.int (0) :: st) h := gk_ic (by decide)
theorem s_Boxes_isEntered_145 {x : Int32} : wps rm K Q c_Boxes_isEntered_145 kc ks loc ([.int x]) h = (kc = rm.cells ∧ ((1 : Nat) = 1 → x = 0 ∨ x = 1) ∧ Q (some (.int x)) h) := gk_iret
def T_Boxes_isEntered : List (Nat × List eg_I) := [(144, c_Boxes_isEntered_144), (145, c_Boxes_isEntered_145)]
theorem j_Boxes_isEntered_144 {R : Nat → Nat → Nat → eg_Lo → List Value → List eg_E → Prop} {f pc0 : Nat} : eg_run rm R Q T_Boxes_isEntered (f + 1) 144 kc ks loc st h = wps rm (eg_run rm R Q T_Boxes_isEntered f) Q c_Boxes_isEntered_144 kc ks loc st h := rfl
theorem j_Boxes_isEntered_145 {R : Nat → Nat → Nat → eg_Lo → List Value → List eg_E → Prop} {f pc0 : Nat} : eg_run rm R Q T_Boxes_isEntered (f + 1) 145 kc ks loc st h = wps rm (eg_run rm R Q T_Boxes_isEntered f) Q c_Boxes_isEntered_145 kc ks loc st h := rfl
end
theorem y_Boxes_isEntered_0 : eg_seq m_Boxes_isEntered 0 c_Boxes_isEntered_0 = true := by decide +kernel
theorem y_Boxes_isEntered_144 : eg_seq m_Boxes_isEntered 144 c_Boxes_isEntered_144 = true := by decide +kernel
theorem q_Boxes_isEntered : ∀ q ∈ T_Boxes_isEntered, eg_seq m_Boxes_isEntered q.1 q.2 = true := by
  intro q hq
  simp only [T_Boxes_isEntered, List.mem_cons, List.not_mem_nil, or_false] at hq
  rcases hq with rfl | rfl
  · exact y_Boxes_isEntered_144
  · exact (eg_seq_drop y_Boxes_isEntered_144 1 : eg_seq m_Boxes_isEntered 145 c_Boxes_isEntered_145 = true)
theorem b_Boxes_isEntered {as : List Value} {h : List eg_E} {Q : Option Value → List eg_E → Prop} (hf : (eg_fl as).length ≤ 5) (hw : wps (eg_rm m_Boxes_isEntered) (eg_run (eg_rm m_Boxes_isEntered) (eg_R m_Boxes_isEntered Q (h.length + 0)) Q T_Boxes_isEntered 4) Q c_Boxes_isEntered_0 0 0 (eg_entry 5 as) [] h) : eg_Runs n_Boxes_isEntered as h Q := eg_begin2 (d := m_Boxes_isEntered) rfl (by decide) y_Boxes_isEntered_0 q_Boxes_isEntered hf hw
/-! ===== Boxes_narrow ===== -/
def c_Boxes_narrow_157 : List eg_I := .inl (157, 1, .ireturn, 0, 1) :: []
def c_Boxes_narrow_156 : List eg_I := .inl (156, 1, .iconst (1), 0, 0) :: c_Boxes_narrow_157
def c_Boxes_narrow_153 : List eg_I := .inl (153, 3, .putfield 40, 0, 6) :: c_Boxes_narrow_156
def c_Boxes_narrow_151 : List eg_I := .inl (151, 2, .lload 4, 0, 0) :: c_Boxes_narrow_153
def c_Boxes_narrow_150 : List eg_I := .inl (150, 1, .aload 0, 0, 0) :: c_Boxes_narrow_151
def c_Boxes_narrow_147 : List eg_I := .inl (147, 3, .putfield 37, 0, 5) :: c_Boxes_narrow_150
def c_Boxes_narrow_145 : List eg_I := .inl (145, 2, .lload 8, 0, 0) :: c_Boxes_narrow_147
def c_Boxes_narrow_144 : List eg_I := .inl (144, 1, .aload 0, 0, 0) :: c_Boxes_narrow_145
def c_Boxes_narrow_141 : List eg_I := .inl (141, 3, .ifCond .ge (15), 156, 0) :: c_Boxes_narrow_144
def c_Boxes_narrow_140 : List eg_I := .inl (140, 1, .lcmp, 0, 0) :: c_Boxes_narrow_141
def c_Boxes_narrow_139 : List eg_I := .inl (139, 1, .lmul, 0, 0) :: c_Boxes_narrow_140
def c_Boxes_narrow_137 : List eg_I := .inl (137, 2, .lload 4, 0, 0) :: c_Boxes_narrow_139
def c_Boxes_narrow_134 : List eg_I := .inl (134, 3, .getfield 37, 0, 5) :: c_Boxes_narrow_137
def c_Boxes_narrow_133 : List eg_I := .inl (133, 1, .aload 0, 0, 0) :: c_Boxes_narrow_134
def c_Boxes_narrow_132 : List eg_I := .inl (132, 1, .lmul, 0, 0) :: c_Boxes_narrow_133
def c_Boxes_narrow_129 : List eg_I := .inl (129, 3, .getfield 40, 0, 6) :: c_Boxes_narrow_132
def c_Boxes_narrow_128 : List eg_I := .inl (128, 1, .aload 0, 0, 0) :: c_Boxes_narrow_129
def c_Boxes_narrow_126 : List eg_I := .inl (126, 2, .lload 8, 0, 0) :: c_Boxes_narrow_128
def c_Boxes_narrow_123 : List eg_I := .inl (123, 3, .putfield 32, 0, 4) :: c_Boxes_narrow_126
def c_Boxes_narrow_121 : List eg_I := .inl (121, 2, .lload 4, 0, 0) :: c_Boxes_narrow_123
def c_Boxes_narrow_120 : List eg_I := .inl (120, 1, .aload 0, 0, 0) :: c_Boxes_narrow_121
def c_Boxes_narrow_117 : List eg_I := .inl (117, 3, .putfield 28, 0, 3) :: c_Boxes_narrow_120
def c_Boxes_narrow_115 : List eg_I := .inl (115, 2, .lload 6, 0, 0) :: c_Boxes_narrow_117
def c_Boxes_narrow_114 : List eg_I := .inl (114, 1, .aload 0, 0, 0) :: c_Boxes_narrow_115
def c_Boxes_narrow_111 : List eg_I := .inl (111, 3, .ifCond .le (15), 126, 0) :: c_Boxes_narrow_114
def c_Boxes_narrow_110 : List eg_I := .inl (110, 1, .lcmp, 0, 0) :: c_Boxes_narrow_111
def c_Boxes_narrow_109 : List eg_I := .inl (109, 1, .lmul, 0, 0) :: c_Boxes_narrow_110
def c_Boxes_narrow_107 : List eg_I := .inl (107, 2, .lload 4, 0, 0) :: c_Boxes_narrow_109
def c_Boxes_narrow_104 : List eg_I := .inl (104, 3, .getfield 28, 0, 3) :: c_Boxes_narrow_107
def c_Boxes_narrow_103 : List eg_I := .inl (103, 1, .aload 0, 0, 0) :: c_Boxes_narrow_104
def c_Boxes_narrow_102 : List eg_I := .inl (102, 1, .lmul, 0, 0) :: c_Boxes_narrow_103
def c_Boxes_narrow_99 : List eg_I := .inl (99, 3, .getfield 32, 0, 4) :: c_Boxes_narrow_102
def c_Boxes_narrow_98 : List eg_I := .inl (98, 1, .aload 0, 0, 0) :: c_Boxes_narrow_99
def c_Boxes_narrow_96 : List eg_I := .inl (96, 2, .lload 6, 0, 0) :: c_Boxes_narrow_98
def c_Boxes_narrow_94 : List eg_I := .inl (94, 2, .lstore 8, 0, 0) :: c_Boxes_narrow_96
def c_Boxes_narrow_93 : List eg_I := .inl (93, 1, .i2l, 0, 0) :: c_Boxes_narrow_94
def c_Boxes_narrow_92 : List eg_I := .inl (92, 1, .isub, 0, 0) :: c_Boxes_narrow_93
def c_Boxes_narrow_91 : List eg_I := .inl (91, 1, .iaload, 0, 0) :: c_Boxes_narrow_92
def c_Boxes_narrow_90 : List eg_I := .inl (90, 1, .iload 1, 0, 0) :: c_Boxes_narrow_91
def c_Boxes_narrow_87 : List eg_I := .inl (87, 3, .getfield 9, 0, 1) :: c_Boxes_narrow_90
def c_Boxes_narrow_86 : List eg_I := .inl (86, 1, .aload 0, 0, 0) :: c_Boxes_narrow_87
def c_Boxes_narrow_85 : List eg_I := .inl (85, 1, .iload 2, 0, 0) :: c_Boxes_narrow_86
def c_Boxes_narrow_82 : List eg_I := .inl (82, 3, .goto (12), 94, 0) :: []
def c_Boxes_narrow_81 : List eg_I := .inl (81, 1, .i2l, 0, 0) :: c_Boxes_narrow_82
def c_Boxes_narrow_80 : List eg_I := .inl (80, 1, .isub, 0, 0) :: c_Boxes_narrow_81
def c_Boxes_narrow_79 : List eg_I := .inl (79, 1, .iload 2, 0, 0) :: c_Boxes_narrow_80
def c_Boxes_narrow_78 : List eg_I := .inl (78, 1, .iaload, 0, 0) :: c_Boxes_narrow_79
def c_Boxes_narrow_77 : List eg_I := .inl (77, 1, .iload 1, 0, 0) :: c_Boxes_narrow_78
def c_Boxes_narrow_74 : List eg_I := .inl (74, 3, .getfield 15, 0, 2) :: c_Boxes_narrow_77
def c_Boxes_narrow_73 : List eg_I := .inl (73, 1, .aload 0, 0, 0) :: c_Boxes_narrow_74
def c_Boxes_narrow_70 : List eg_I := .inl (70, 3, .if_icmp .le (15), 85, 0) :: c_Boxes_narrow_73
def c_Boxes_narrow_69 : List eg_I := .inl (69, 1, .iload 2, 0, 0) :: c_Boxes_narrow_70
def c_Boxes_narrow_68 : List eg_I := .inl (68, 1, .iload 3, 0, 0) :: c_Boxes_narrow_69
def c_Boxes_narrow_66 : List eg_I := .inl (66, 2, .lstore 6, 0, 0) :: c_Boxes_narrow_68
def c_Boxes_narrow_65 : List eg_I := .inl (65, 1, .i2l, 0, 0) :: c_Boxes_narrow_66
def c_Boxes_narrow_64 : List eg_I := .inl (64, 1, .isub, 0, 0) :: c_Boxes_narrow_65
def c_Boxes_narrow_63 : List eg_I := .inl (63, 1, .iaload, 0, 0) :: c_Boxes_narrow_64
def c_Boxes_narrow_62 : List eg_I := .inl (62, 1, .iload 1, 0, 0) :: c_Boxes_narrow_63
def c_Boxes_narrow_59 : List eg_I := .inl (59, 3, .getfield 15, 0, 2) :: c_Boxes_narrow_62
def c_Boxes_narrow_58 : List eg_I := .inl (58, 1, .aload 0, 0, 0) :: c_Boxes_narrow_59
def c_Boxes_narrow_57 : List eg_I := .inl (57, 1, .iload 2, 0, 0) :: c_Boxes_narrow_58
def c_Boxes_narrow_54 : List eg_I := .inl (54, 3, .goto (12), 66, 0) :: []
def c_Boxes_narrow_53 : List eg_I := .inl (53, 1, .i2l, 0, 0) :: c_Boxes_narrow_54
def c_Boxes_narrow_52 : List eg_I := .inl (52, 1, .isub, 0, 0) :: c_Boxes_narrow_53
def c_Boxes_narrow_51 : List eg_I := .inl (51, 1, .iload 2, 0, 0) :: c_Boxes_narrow_52
def c_Boxes_narrow_50 : List eg_I := .inl (50, 1, .iaload, 0, 0) :: c_Boxes_narrow_51
def c_Boxes_narrow_49 : List eg_I := .inl (49, 1, .iload 1, 0, 0) :: c_Boxes_narrow_50
def c_Boxes_narrow_46 : List eg_I := .inl (46, 3, .getfield 9, 0, 1) :: c_Boxes_narrow_49
def c_Boxes_narrow_45 : List eg_I := .inl (45, 1, .aload 0, 0, 0) :: c_Boxes_narrow_46
def c_Boxes_narrow_42 : List eg_I := .inl (42, 3, .if_icmp .le (15), 57, 0) :: c_Boxes_narrow_45
def c_Boxes_narrow_41 : List eg_I := .inl (41, 1, .iload 2, 0, 0) :: c_Boxes_narrow_42
def c_Boxes_narrow_40 : List eg_I := .inl (40, 1, .iload 3, 0, 0) :: c_Boxes_narrow_41
def c_Boxes_narrow_38 : List eg_I := .inl (38, 2, .lstore 4, 0, 0) :: c_Boxes_narrow_40
def c_Boxes_narrow_37 : List eg_I := .inl (37, 1, .i2l, 0, 0) :: c_Boxes_narrow_38
def c_Boxes_narrow_34 : List eg_I := .inr (34, 0, 58, n_Math_abs_I, 1, 13, 0, 0) :: c_Boxes_narrow_37
def c_Boxes_narrow_33 : List eg_I := .inl (33, 1, .isub, 0, 0) :: c_Boxes_narrow_34
def c_Boxes_narrow_32 : List eg_I := .inl (32, 1, .iload 2, 0, 0) :: c_Boxes_narrow_33
def c_Boxes_narrow_31 : List eg_I := .inl (31, 1, .iload 3, 0, 0) :: c_Boxes_narrow_32
def c_Boxes_narrow_30 : List eg_I := .inl (30, 1, .ireturn, 0, 1) :: []
def c_Boxes_narrow_29 : List eg_I := .inl (29, 1, .iconst (0), 0, 0) :: c_Boxes_narrow_30
def c_Boxes_narrow_26 : List eg_I := .inl (26, 3, .goto (4), 30, 0) :: []
def c_Boxes_narrow_25 : List eg_I := .inl (25, 1, .iconst (1), 0, 0) :: c_Boxes_narrow_26
def c_Boxes_narrow_22 : List eg_I := .inl (22, 3, .if_icmp .ge (7), 29, 0) :: c_Boxes_narrow_25
def c_Boxes_narrow_21 : List eg_I := .inl (21, 1, .iaload, 0, 0) :: c_Boxes_narrow_22
def c_Boxes_narrow_20 : List eg_I := .inl (20, 1, .iload 1, 0, 0) :: c_Boxes_narrow_21
def c_Boxes_narrow_17 : List eg_I := .inl (17, 3, .getfield 15, 0, 2) :: c_Boxes_narrow_20
def c_Boxes_narrow_16 : List eg_I := .inl (16, 1, .aload 0, 0, 0) :: c_Boxes_narrow_17
def c_Boxes_narrow_15 : List eg_I := .inl (15, 1, .iload 2, 0, 0) :: c_Boxes_narrow_16
def c_Boxes_narrow_12 : List eg_I := .inl (12, 3, .if_icmp .ge (17), 29, 0) :: c_Boxes_narrow_15
def c_Boxes_narrow_11 : List eg_I := .inl (11, 1, .iload 2, 0, 0) :: c_Boxes_narrow_12
def c_Boxes_narrow_10 : List eg_I := .inl (10, 1, .iaload, 0, 0) :: c_Boxes_narrow_11
def c_Boxes_narrow_9 : List eg_I := .inl (9, 1, .iload 1, 0, 0) :: c_Boxes_narrow_10
def c_Boxes_narrow_6 : List eg_I := .inl (6, 3, .getfield 9, 0, 1) :: c_Boxes_narrow_9
def c_Boxes_narrow_5 : List eg_I := .inl (5, 1, .aload 0, 0, 0) :: c_Boxes_narrow_6
def c_Boxes_narrow_2 : List eg_I := .inl (2, 3, .if_icmp .ne (29), 31, 0) :: c_Boxes_narrow_5
def c_Boxes_narrow_1 : List eg_I := .inl (1, 1, .iload 3, 0, 0) :: c_Boxes_narrow_2
def c_Boxes_narrow_0 : List eg_I := .inl (0, 1, .iload 2, 0, 0) :: c_Boxes_narrow_1
section
variable {rm : Room} {K : Nat → Nat → Nat → eg_Lo → List Value → List eg_E → Prop} {Q : Option Value → List eg_E → Prop} {kc ks : Nat} {loc : eg_Lo} {st : List Value} {h : List eg_E}
theorem s_Boxes_narrow_0 {x : Int32} {l0 l1 : Option Value} {l : eg_Lo} : wps rm K Q c_Boxes_narrow_0 kc ks (l0 :: l1 :: some (.int x) :: l) (st) h = wps rm K Q c_Boxes_narrow_1 kc ks (l0 :: l1 :: some (.int x) :: l) (.int x :: st) h := gk_iload rfl
theorem s_Boxes_narrow_1 {x : Int32} {l0 l1 l2 : Option Value} {l : eg_Lo} : wps rm K Q c_Boxes_narrow_1 kc ks (l0 :: l1 :: l2 :: some (.int x) :: l) (st) h = wps rm K Q c_Boxes_narrow_2 kc ks (l0 :: l1 :: l2 :: some (.int x) :: l) (.int x :: st) h := gk_iload rfl
theorem s_Boxes_narrow_2 {x y : Int32} : wps rm K Q c_Boxes_narrow_2 kc ks loc (.int y :: .int x :: st) h = ((¬ x = y → K 31 kc ks loc st h) ∧ (x = y → wps rm K Q c_Boxes_narrow_5 kc ks loc (st) h)) := gk_if2_ne
theorem s_Boxes_narrow_5 {x : Nat} {l : eg_Lo} : wps rm K Q c_Boxes_narrow_5 kc ks (some (.ref x) :: l) (st) h = wps rm K Q c_Boxes_narrow_6 kc ks (some (.ref x) :: l) (.ref x :: st) h := gk_aload rfl
theorem s_Boxes_narrow_6 {x : Nat} : wps rm K Q c_Boxes_narrow_6 kc ks loc (.ref (x + 1) :: st) h = eg_gf h x 0 1 (fun v => wps rm K Q c_Boxes_narrow_9 kc ks loc (v :: st) h) := gk_gf
theorem s_Boxes_narrow_9 {x : Int32} {l0 : Option Value} {l : eg_Lo} : wps rm K Q c_Boxes_narrow_9 kc ks (l0 :: some (.int x) :: l) (st) h = wps rm K Q c_Boxes_narrow_10 kc ks (l0 :: some (.int x) :: l) (.int x :: st) h := gk_iload rfl
theorem s_Boxes_narrow_10 {x : Nat} {i : Int32} : wps rm K Q c_Boxes_narrow_10 kc ks loc (.int i :: .ref (x + 1) :: st) h = eg_ia h x i (fun v => wps rm K Q c_Boxes_narrow_11 kc ks loc (.int v :: st) h) := gk_iaload
theorem s_Boxes_narrow_11 {x : Int32} {l0 l1 : Option Value} {l : eg_Lo} : wps rm K Q c_Boxes_narrow_11 kc ks (l0 :: l1 :: some (.int x) :: l) (st) h = wps rm K Q c_Boxes_narrow_12 kc ks (l0 :: l1 :: some (.int x) :: l) (.int x :: st) h := gk_iload rfl
theorem s_Boxes_narrow_12 {x y : Int32} : wps rm K Q c_Boxes_narrow_12 kc ks loc (.int y :: .int x :: st) h = ((y ≤ x → K 29 kc ks loc st h) ∧ (¬ y ≤ x → wps rm K Q c_Boxes_narrow_15 kc ks loc (st) h)) := gk_if2_ge
theorem s_Boxes_narrow_15 {x : Int32} {l0 l1 : Option Value} {l : eg_Lo} : wps rm K Q c_Boxes_narrow_15 kc ks (l0 :: l1 :: some (.int x) :: l) (st) h = wps rm K Q c_Boxes_narrow_16 kc ks (l0 :: l1 :: some (.int x) :: l) (.int x :: st) h := gk_iload rfl
theorem s_Boxes_narrow_16 {x : Nat} {l : eg_Lo} : wps rm K Q c_Boxes_narrow_16 kc ks (some (.ref x) :: l) (st) h = wps rm K Q c_Boxes_narrow_17 kc ks (some (.ref x) :: l) (.ref x :: st) h := gk_aload rfl
theorem s_Boxes_narrow_17 {x : Nat} : wps rm K Q c_Boxes_narrow_17 kc ks loc (.ref (x + 1) :: st) h = eg_gf h x 0 2 (fun v => wps rm K Q c_Boxes_narrow_20 kc ks loc (v :: st) h) := gk_gf
theorem s_Boxes_narrow_20 {x : Int32} {l0 : Option Value} {l : eg_Lo} : wps rm K Q c_Boxes_narrow_20 kc ks (l0 :: some (.int x) :: l) (st) h = wps rm K Q c_Boxes_narrow_21 kc ks (l0 :: some (.int x) :: l) (.int x :: st) h := gk_iload rfl
theorem s_Boxes_narrow_21 {x : Nat} {i : Int32} : wps rm K Q c_Boxes_narrow_21 kc ks loc (.int i :: .ref (x + 1) :: st) h = eg_ia h x i (fun v => wps rm K Q c_Boxes_narrow_22 kc ks loc (.int v :: st) h) := gk_iaload
theorem s_Boxes_narrow_22 {x y : Int32} : wps rm K Q c_Boxes_narrow_22 kc ks loc (.int y :: .int x :: st) h = ((y ≤ x → K 29 kc ks loc st h) ∧ (¬ y ≤ x → wps rm K Q c_Boxes_narrow_25 kc ks loc (st) h)) := gk_if2_ge
theorem s_Boxes_narrow_25  : wps rm K Q c_Boxes_narrow_25 kc ks loc (st) h = wps rm K Q c_Boxes_narrow_26 kc ks loc (.int (1) :: st) h := gk_ic (by decide)
theorem s_Boxes_narrow_26  : wps rm K Q c_Boxes_narrow_26 kc ks loc (st) h = K 30 kc ks loc st h := gk_goto
theorem s_Boxes_narrow_29  : wps rm K Q c_Boxes_narrow_29 kc ks loc (st) h = wps rm K Q c_Boxes_narrow_30 kc ks loc (.int (0) :: st) h := gk_ic (by decide)
theorem s_Boxes_narrow_30 {x : Int32} : wps rm K Q c_Boxes_narrow_30 kc ks loc ([.int x]) h = (kc = rm.cells ∧ ((1 : Nat) = 1 → x = 0 ∨ x = 1) ∧ Q (some (.int x)) h) := gk_iret
theorem s_Boxes_narrow_31 {x : Int32} {l0 l1 l2 : Option Value} {l : eg_Lo} : wps rm K Q c_Boxes_narrow_31 kc ks (l0 :: l1 :: l2 :: some (.int x) :: l) (st) h = wps rm K Q c_Boxes_narrow_32 kc ks (l0 :: l1 :: l2 :: some (.int x) :: l) (.int x :: st) h := gk_iload rfl
theorem s_Boxes_narrow_32 {x : Int32} {l0 l1 : Option Value} {l : eg_Lo} : wps rm K Q c_Boxes_narrow_32 kc ks (l0 :: l1 :: some (.int x) :: l) (st) h = wps rm K Q c_Boxes_narrow_33 kc ks (l0 :: l1 :: some (.int x) :: l) (.int x :: st) h := gk_iload rfl
theorem s_Boxes_narrow_33 {x y : Int32} : wps rm K Q c_Boxes_narrow_33 kc ks loc (.int y :: .int x :: st) h = wps rm K Q c_Boxes_narrow_34 kc ks loc (.int (x - y) :: st) h := gk_isub
theorem s_Boxes_narrow_34  {a1 : Value} : wps rm K Q c_Boxes_narrow_34 kc ks loc (a1 :: st) h = (st.length ≤ 4 ∧ eg_Cs n_Math_abs_I [a1] h (fun v h9 => wps rm K Q c_Boxes_narrow_37 kc ks loc (v.toList ++ st) h9)) := eg_c0_1
theorem s_Boxes_narrow_37 {x : Int32} : wps rm K Q c_Boxes_narrow_37 kc ks loc (.int x :: st) h = wps rm K Q c_Boxes_narrow_38 kc ks loc (.long (x.toInt64) :: st) h := gk_i2l
theorem s_Boxes_narrow_38 {x : Int64} : wps rm K Q c_Boxes_narrow_38 kc ks loc (.long x :: st) h = wps rm K Q c_Boxes_narrow_40 kc ks (eg_set2 loc 4 (.long x)) (st) h := gk_lstore
theorem s_Boxes_narrow_40 {x : Int32} {l0 l1 l2 : Option Value} {l : eg_Lo} : wps rm K Q c_Boxes_narrow_40 kc ks (l0 :: l1 :: l2 :: some (.int x) :: l) (st) h = wps rm K Q c_Boxes_narrow_41 kc ks (l0 :: l1 :: l2 :: some (.int x) :: l) (.int x :: st) h := gk_iload rfl
theorem s_Boxes_narrow_41 {x : Int32} {l0 l1 : Option Value} {l : eg_Lo} : wps rm K Q c_Boxes_narrow_41 kc ks (l0 :: l1 :: some (.int x) :: l) (st) h = wps rm K Q c_Boxes_narrow_42 kc ks (l0 :: l1 :: some (.int x) :: l) (.int x :: st) h := gk_iload rfl
theorem s_Boxes_narrow_42 {x y : Int32} : wps rm K Q c_Boxes_narrow_42 kc ks loc (.int y :: .int x :: st) h = ((x ≤ y → K 57 kc ks loc st h) ∧ (¬ x ≤ y → wps rm K Q c_Boxes_narrow_45 kc ks loc (st) h)) := gk_if2_le
theorem s_Boxes_narrow_45 {x : Nat} {l : eg_Lo} : wps rm K Q c_Boxes_narrow_45 kc ks (some (.ref x) :: l) (st) h = wps rm K Q c_Boxes_narrow_46 kc ks (some (.ref x) :: l) (.ref x :: st) h := gk_aload rfl
theorem s_Boxes_narrow_46 {x : Nat} : wps rm K Q c_Boxes_narrow_46 kc ks loc (.ref (x + 1) :: st) h = eg_gf h x 0 1 (fun v => wps rm K Q c_Boxes_narrow_49 kc ks loc (v :: st) h) := gk_gf
theorem s_Boxes_narrow_49 {x : Int32} {l0 : Option Value} {l : eg_Lo} : wps rm K Q c_Boxes_narrow_49 kc ks (l0 :: some (.int x) :: l) (st) h = wps rm K Q c_Boxes_narrow_50 kc ks (l0 :: some (.int x) :: l) (.int x :: st) h := gk_iload rfl
theorem s_Boxes_narrow_50 {x : Nat} {i : Int32} : wps rm K Q c_Boxes_narrow_50 kc ks loc (.int i :: .ref (x + 1) :: st) h = eg_ia h x i (fun v => wps rm K Q c_Boxes_narrow_51 kc ks loc (.int v :: st) h) := gk_iaload
theorem s_Boxes_narrow_51 {x : Int32} {l0 l1 : Option Value} {l : eg_Lo} : wps rm K Q c_Boxes_narrow_51 kc ks (l0 :: l1 :: some (.int x) :: l) (st) h = wps rm K Q c_Boxes_narrow_52 kc ks (l0 :: l1 :: some (.int x) :: l) (.int x :: st) h := gk_iload rfl
theorem s_Boxes_narrow_52 {x y : Int32} : wps rm K Q c_Boxes_narrow_52 kc ks loc (.int y :: .int x :: st) h = wps rm K Q c_Boxes_narrow_53 kc ks loc (.int (x - y) :: st) h := gk_isub
theorem s_Boxes_narrow_53 {x : Int32} : wps rm K Q c_Boxes_narrow_53 kc ks loc (.int x :: st) h = wps rm K Q c_Boxes_narrow_54 kc ks loc (.long (x.toInt64) :: st) h := gk_i2l
theorem s_Boxes_narrow_54  : wps rm K Q c_Boxes_narrow_54 kc ks loc (st) h = K 66 kc ks loc st h := gk_goto
theorem s_Boxes_narrow_57 {x : Int32} {l0 l1 : Option Value} {l : eg_Lo} : wps rm K Q c_Boxes_narrow_57 kc ks (l0 :: l1 :: some (.int x) :: l) (st) h = wps rm K Q c_Boxes_narrow_58 kc ks (l0 :: l1 :: some (.int x) :: l) (.int x :: st) h := gk_iload rfl
theorem s_Boxes_narrow_58 {x : Nat} {l : eg_Lo} : wps rm K Q c_Boxes_narrow_58 kc ks (some (.ref x) :: l) (st) h = wps rm K Q c_Boxes_narrow_59 kc ks (some (.ref x) :: l) (.ref x :: st) h := gk_aload rfl
theorem s_Boxes_narrow_59 {x : Nat} : wps rm K Q c_Boxes_narrow_59 kc ks loc (.ref (x + 1) :: st) h = eg_gf h x 0 2 (fun v => wps rm K Q c_Boxes_narrow_62 kc ks loc (v :: st) h) := gk_gf
theorem s_Boxes_narrow_62 {x : Int32} {l0 : Option Value} {l : eg_Lo} : wps rm K Q c_Boxes_narrow_62 kc ks (l0 :: some (.int x) :: l) (st) h = wps rm K Q c_Boxes_narrow_63 kc ks (l0 :: some (.int x) :: l) (.int x :: st) h := gk_iload rfl
theorem s_Boxes_narrow_63 {x : Nat} {i : Int32} : wps rm K Q c_Boxes_narrow_63 kc ks loc (.int i :: .ref (x + 1) :: st) h = eg_ia h x i (fun v => wps rm K Q c_Boxes_narrow_64 kc ks loc (.int v :: st) h) := gk_iaload
theorem s_Boxes_narrow_64 {x y : Int32} : wps rm K Q c_Boxes_narrow_64 kc ks loc (.int y :: .int x :: st) h = wps rm K Q c_Boxes_narrow_65 kc ks loc (.int (x - y) :: st) h := gk_isub
theorem s_Boxes_narrow_65 {x : Int32} : wps rm K Q c_Boxes_narrow_65 kc ks loc (.int x :: st) h = wps rm K Q c_Boxes_narrow_66 kc ks loc (.long (x.toInt64) :: st) h := gk_i2l
theorem s_Boxes_narrow_66 {x : Int64} : wps rm K Q c_Boxes_narrow_66 kc ks loc (.long x :: st) h = wps rm K Q c_Boxes_narrow_68 kc ks (eg_set2 loc 6 (.long x)) (st) h := gk_lstore
theorem s_Boxes_narrow_68 {x : Int32} {l0 l1 l2 : Option Value} {l : eg_Lo} : wps rm K Q c_Boxes_narrow_68 kc ks (l0 :: l1 :: l2 :: some (.int x) :: l) (st) h = wps rm K Q c_Boxes_narrow_69 kc ks (l0 :: l1 :: l2 :: some (.int x) :: l) (.int x :: st) h := gk_iload rfl
theorem s_Boxes_narrow_69 {x : Int32} {l0 l1 : Option Value} {l : eg_Lo} : wps rm K Q c_Boxes_narrow_69 kc ks (l0 :: l1 :: some (.int x) :: l) (st) h = wps rm K Q c_Boxes_narrow_70 kc ks (l0 :: l1 :: some (.int x) :: l) (.int x :: st) h := gk_iload rfl
theorem s_Boxes_narrow_70 {x y : Int32} : wps rm K Q c_Boxes_narrow_70 kc ks loc (.int y :: .int x :: st) h = ((x ≤ y → K 85 kc ks loc st h) ∧ (¬ x ≤ y → wps rm K Q c_Boxes_narrow_73 kc ks loc (st) h)) := gk_if2_le
theorem s_Boxes_narrow_73 {x : Nat} {l : eg_Lo} : wps rm K Q c_Boxes_narrow_73 kc ks (some (.ref x) :: l) (st) h = wps rm K Q c_Boxes_narrow_74 kc ks (some (.ref x) :: l) (.ref x :: st) h := gk_aload rfl
theorem s_Boxes_narrow_74 {x : Nat} : wps rm K Q c_Boxes_narrow_74 kc ks loc (.ref (x + 1) :: st) h = eg_gf h x 0 2 (fun v => wps rm K Q c_Boxes_narrow_77 kc ks loc (v :: st) h) := gk_gf
theorem s_Boxes_narrow_77 {x : Int32} {l0 : Option Value} {l : eg_Lo} : wps rm K Q c_Boxes_narrow_77 kc ks (l0 :: some (.int x) :: l) (st) h = wps rm K Q c_Boxes_narrow_78 kc ks (l0 :: some (.int x) :: l) (.int x :: st) h := gk_iload rfl
theorem s_Boxes_narrow_78 {x : Nat} {i : Int32} : wps rm K Q c_Boxes_narrow_78 kc ks loc (.int i :: .ref (x + 1) :: st) h = eg_ia h x i (fun v => wps rm K Q c_Boxes_narrow_79 kc ks loc (.int v :: st) h) := gk_iaload
theorem s_Boxes_narrow_79 {x : Int32} {l0 l1 : Option Value} {l : eg_Lo} : wps rm K Q c_Boxes_narrow_79 kc ks (l0 :: l1 :: some (.int x) :: l) (st) h = wps rm K Q c_Boxes_narrow_80 kc ks (l0 :: l1 :: some (.int x) :: l) (.int x :: st) h := gk_iload rfl
theorem s_Boxes_narrow_80 {x y : Int32} : wps rm K Q c_Boxes_narrow_80 kc ks loc (.int y :: .int x :: st) h = wps rm K Q c_Boxes_narrow_81 kc ks loc (.int (x - y) :: st) h := gk_isub
theorem s_Boxes_narrow_81 {x : Int32} : wps rm K Q c_Boxes_narrow_81 kc ks loc (.int x :: st) h = wps rm K Q c_Boxes_narrow_82 kc ks loc (.long (x.toInt64) :: st) h := gk_i2l
theorem s_Boxes_narrow_82  : wps rm K Q c_Boxes_narrow_82 kc ks loc (st) h = K 94 kc ks loc st h := gk_goto
theorem s_Boxes_narrow_85 {x : Int32} {l0 l1 : Option Value} {l : eg_Lo} : wps rm K Q c_Boxes_narrow_85 kc ks (l0 :: l1 :: some (.int x) :: l) (st) h = wps rm K Q c_Boxes_narrow_86 kc ks (l0 :: l1 :: some (.int x) :: l) (.int x :: st) h := gk_iload rfl
theorem s_Boxes_narrow_86 {x : Nat} {l : eg_Lo} : wps rm K Q c_Boxes_narrow_86 kc ks (some (.ref x) :: l) (st) h = wps rm K Q c_Boxes_narrow_87 kc ks (some (.ref x) :: l) (.ref x :: st) h := gk_aload rfl
theorem s_Boxes_narrow_87 {x : Nat} : wps rm K Q c_Boxes_narrow_87 kc ks loc (.ref (x + 1) :: st) h = eg_gf h x 0 1 (fun v => wps rm K Q c_Boxes_narrow_90 kc ks loc (v :: st) h) := gk_gf
theorem s_Boxes_narrow_90 {x : Int32} {l0 : Option Value} {l : eg_Lo} : wps rm K Q c_Boxes_narrow_90 kc ks (l0 :: some (.int x) :: l) (st) h = wps rm K Q c_Boxes_narrow_91 kc ks (l0 :: some (.int x) :: l) (.int x :: st) h := gk_iload rfl
theorem s_Boxes_narrow_91 {x : Nat} {i : Int32} : wps rm K Q c_Boxes_narrow_91 kc ks loc (.int i :: .ref (x + 1) :: st) h = eg_ia h x i (fun v => wps rm K Q c_Boxes_narrow_92 kc ks loc (.int v :: st) h) := gk_iaload
theorem s_Boxes_narrow_92 {x y : Int32} : wps rm K Q c_Boxes_narrow_92 kc ks loc (.int y :: .int x :: st) h = wps rm K Q c_Boxes_narrow_93 kc ks loc (.int (x - y) :: st) h := gk_isub
theorem s_Boxes_narrow_93 {x : Int32} : wps rm K Q c_Boxes_narrow_93 kc ks loc (.int x :: st) h = wps rm K Q c_Boxes_narrow_94 kc ks loc (.long (x.toInt64) :: st) h := gk_i2l
theorem s_Boxes_narrow_94 {x : Int64} : wps rm K Q c_Boxes_narrow_94 kc ks loc (.long x :: st) h = wps rm K Q c_Boxes_narrow_96 kc ks (eg_set2 loc 8 (.long x)) (st) h := gk_lstore
theorem s_Boxes_narrow_96 {x : Int64} {l0 l1 l2 l3 l4 l5 : Option Value} {l : eg_Lo} : wps rm K Q c_Boxes_narrow_96 kc ks (l0 :: l1 :: l2 :: l3 :: l4 :: l5 :: some (.long x) :: l) (st) h = wps rm K Q c_Boxes_narrow_98 kc ks (l0 :: l1 :: l2 :: l3 :: l4 :: l5 :: some (.long x) :: l) (.long x :: st) h := gk_lload rfl
theorem s_Boxes_narrow_98 {x : Nat} {l : eg_Lo} : wps rm K Q c_Boxes_narrow_98 kc ks (some (.ref x) :: l) (st) h = wps rm K Q c_Boxes_narrow_99 kc ks (some (.ref x) :: l) (.ref x :: st) h := gk_aload rfl
theorem s_Boxes_narrow_99 {x : Nat} : wps rm K Q c_Boxes_narrow_99 kc ks loc (.ref (x + 1) :: st) h = eg_gf h x 0 4 (fun v => wps rm K Q c_Boxes_narrow_102 kc ks loc (v :: st) h) := gk_gf
theorem s_Boxes_narrow_102 {x y : Int64} : wps rm K Q c_Boxes_narrow_102 kc ks loc (.long y :: .long x :: st) h = wps rm K Q c_Boxes_narrow_103 kc ks loc (.long (x * y) :: st) h := gk_lmul
theorem s_Boxes_narrow_103 {x : Nat} {l : eg_Lo} : wps rm K Q c_Boxes_narrow_103 kc ks (some (.ref x) :: l) (st) h = wps rm K Q c_Boxes_narrow_104 kc ks (some (.ref x) :: l) (.ref x :: st) h := gk_aload rfl
theorem s_Boxes_narrow_104 {x : Nat} : wps rm K Q c_Boxes_narrow_104 kc ks loc (.ref (x + 1) :: st) h = eg_gf h x 0 3 (fun v => wps rm K Q c_Boxes_narrow_107 kc ks loc (v :: st) h) := gk_gf
theorem s_Boxes_narrow_107 {x : Int64} {l0 l1 l2 l3 : Option Value} {l : eg_Lo} : wps rm K Q c_Boxes_narrow_107 kc ks (l0 :: l1 :: l2 :: l3 :: some (.long x) :: l) (st) h = wps rm K Q c_Boxes_narrow_109 kc ks (l0 :: l1 :: l2 :: l3 :: some (.long x) :: l) (.long x :: st) h := gk_lload rfl
theorem s_Boxes_narrow_109 {x y : Int64} : wps rm K Q c_Boxes_narrow_109 kc ks loc (.long y :: .long x :: st) h = wps rm K Q c_Boxes_narrow_110 kc ks loc (.long (x * y) :: st) h := gk_lmul
theorem s_Boxes_narrow_110 {x y : Int64} : wps rm K Q c_Boxes_narrow_110 kc ks loc (.long y :: .long x :: st) h = wps rm K Q c_Boxes_narrow_111 kc ks loc (.int (lg_cmp x y) :: st) h := gk_lcmp
theorem s_Boxes_narrow_111 {x : Int32} : wps rm K Q c_Boxes_narrow_111 kc ks loc (.int x :: st) h = ((x ≤ 0 → K 126 kc ks loc st h) ∧ (¬ x ≤ 0 → wps rm K Q c_Boxes_narrow_114 kc ks loc (st) h)) := gk_if1_le
theorem s_Boxes_narrow_114 {x : Nat} {l : eg_Lo} : wps rm K Q c_Boxes_narrow_114 kc ks (some (.ref x) :: l) (st) h = wps rm K Q c_Boxes_narrow_115 kc ks (some (.ref x) :: l) (.ref x :: st) h := gk_aload rfl
theorem s_Boxes_narrow_115 {x : Int64} {l0 l1 l2 l3 l4 l5 : Option Value} {l : eg_Lo} : wps rm K Q c_Boxes_narrow_115 kc ks (l0 :: l1 :: l2 :: l3 :: l4 :: l5 :: some (.long x) :: l) (st) h = wps rm K Q c_Boxes_narrow_117 kc ks (l0 :: l1 :: l2 :: l3 :: l4 :: l5 :: some (.long x) :: l) (.long x :: st) h := gk_lload rfl
theorem s_Boxes_narrow_117 {x : Nat} {v : Value} : wps rm K Q c_Boxes_narrow_117 kc ks loc (v :: .ref (x + 1) :: st) h = eg_pf h x 0 3 v (fun h9 => wps rm K Q c_Boxes_narrow_120 kc ks loc (st) h9) := gk_pf
theorem s_Boxes_narrow_120 {x : Nat} {l : eg_Lo} : wps rm K Q c_Boxes_narrow_120 kc ks (some (.ref x) :: l) (st) h = wps rm K Q c_Boxes_narrow_121 kc ks (some (.ref x) :: l) (.ref x :: st) h := gk_aload rfl
theorem s_Boxes_narrow_121 {x : Int64} {l0 l1 l2 l3 : Option Value} {l : eg_Lo} : wps rm K Q c_Boxes_narrow_121 kc ks (l0 :: l1 :: l2 :: l3 :: some (.long x) :: l) (st) h = wps rm K Q c_Boxes_narrow_123 kc ks (l0 :: l1 :: l2 :: l3 :: some (.long x) :: l) (.long x :: st) h := gk_lload rfl
theorem s_Boxes_narrow_123 {x : Nat} {v : Value} : wps rm K Q c_Boxes_narrow_123 kc ks loc (v :: .ref (x + 1) :: st) h = eg_pf h x 0 4 v (fun h9 => wps rm K Q c_Boxes_narrow_126 kc ks loc (st) h9) := gk_pf
theorem s_Boxes_narrow_126 {x : Int64} {l0 l1 l2 l3 l4 l5 l6 l7 : Option Value} {l : eg_Lo} : wps rm K Q c_Boxes_narrow_126 kc ks (l0 :: l1 :: l2 :: l3 :: l4 :: l5 :: l6 :: l7 :: some (.long x) :: l) (st) h = wps rm K Q c_Boxes_narrow_128 kc ks (l0 :: l1 :: l2 :: l3 :: l4 :: l5 :: l6 :: l7 :: some (.long x) :: l) (.long x :: st) h := gk_lload rfl
theorem s_Boxes_narrow_128 {x : Nat} {l : eg_Lo} : wps rm K Q c_Boxes_narrow_128 kc ks (some (.ref x) :: l) (st) h = wps rm K Q c_Boxes_narrow_129 kc ks (some (.ref x) :: l) (.ref x :: st) h := gk_aload rfl
theorem s_Boxes_narrow_129 {x : Nat} : wps rm K Q c_Boxes_narrow_129 kc ks loc (.ref (x + 1) :: st) h = eg_gf h x 0 6 (fun v => wps rm K Q c_Boxes_narrow_132 kc ks loc (v :: st) h) := gk_gf
theorem s_Boxes_narrow_132 {x y : Int64} : wps rm K Q c_Boxes_narrow_132 kc ks loc (.long y :: .long x :: st) h = wps rm K Q c_Boxes_narrow_133 kc ks loc (.long (x * y) :: st) h := gk_lmul
theorem s_Boxes_narrow_133 {x : Nat} {l : eg_Lo} : wps rm K Q c_Boxes_narrow_133 kc ks (some (.ref x) :: l) (st) h = wps rm K Q c_Boxes_narrow_134 kc ks (some (.ref x) :: l) (.ref x :: st) h := gk_aload rfl
theorem s_Boxes_narrow_134 {x : Nat} : wps rm K Q c_Boxes_narrow_134 kc ks loc (.ref (x + 1) :: st) h = eg_gf h x 0 5 (fun v => wps rm K Q c_Boxes_narrow_137 kc ks loc (v :: st) h) := gk_gf
theorem s_Boxes_narrow_137 {x : Int64} {l0 l1 l2 l3 : Option Value} {l : eg_Lo} : wps rm K Q c_Boxes_narrow_137 kc ks (l0 :: l1 :: l2 :: l3 :: some (.long x) :: l) (st) h = wps rm K Q c_Boxes_narrow_139 kc ks (l0 :: l1 :: l2 :: l3 :: some (.long x) :: l) (.long x :: st) h := gk_lload rfl
theorem s_Boxes_narrow_139 {x y : Int64} : wps rm K Q c_Boxes_narrow_139 kc ks loc (.long y :: .long x :: st) h = wps rm K Q c_Boxes_narrow_140 kc ks loc (.long (x * y) :: st) h := gk_lmul
theorem s_Boxes_narrow_140 {x y : Int64} : wps rm K Q c_Boxes_narrow_140 kc ks loc (.long y :: .long x :: st) h = wps rm K Q c_Boxes_narrow_141 kc ks loc (.int (lg_cmp x y) :: st) h := gk_lcmp
theorem s_Boxes_narrow_141 {x : Int32} : wps rm K Q c_Boxes_narrow_141 kc ks loc (.int x :: st) h = ((0 ≤ x → K 156 kc ks loc st h) ∧ (¬ 0 ≤ x → wps rm K Q c_Boxes_narrow_144 kc ks loc (st) h)) := gk_if1_ge
theorem s_Boxes_narrow_144 {x : Nat} {l : eg_Lo} : wps rm K Q c_Boxes_narrow_144 kc ks (some (.ref x) :: l) (st) h = wps rm K Q c_Boxes_narrow_145 kc ks (some (.ref x) :: l) (.ref x :: st) h := gk_aload rfl
theorem s_Boxes_narrow_145 {x : Int64} {l0 l1 l2 l3 l4 l5 l6 l7 : Option Value} {l : eg_Lo} : wps rm K Q c_Boxes_narrow_145 kc ks (l0 :: l1 :: l2 :: l3 :: l4 :: l5 :: l6 :: l7 :: some (.long x) :: l) (st) h = wps rm K Q c_Boxes_narrow_147 kc ks (l0 :: l1 :: l2 :: l3 :: l4 :: l5 :: l6 :: l7 :: some (.long x) :: l) (.long x :: st) h := gk_lload rfl
theorem s_Boxes_narrow_147 {x : Nat} {v : Value} : wps rm K Q c_Boxes_narrow_147 kc ks loc (v :: .ref (x + 1) :: st) h = eg_pf h x 0 5 v (fun h9 => wps rm K Q c_Boxes_narrow_150 kc ks loc (st) h9) := gk_pf
theorem s_Boxes_narrow_150 {x : Nat} {l : eg_Lo} : wps rm K Q c_Boxes_narrow_150 kc ks (some (.ref x) :: l) (st) h = wps rm K Q c_Boxes_narrow_151 kc ks (some (.ref x) :: l) (.ref x :: st) h := gk_aload rfl
theorem s_Boxes_narrow_151 {x : Int64} {l0 l1 l2 l3 : Option Value} {l : eg_Lo} : wps rm K Q c_Boxes_narrow_151 kc ks (l0 :: l1 :: l2 :: l3 :: some (.long x) :: l) (st) h = wps rm K Q c_Boxes_narrow_153 kc ks (l0 :: l1 :: l2 :: l3 :: some (.long x) :: l) (.long x :: st) h := gk_lload rfl
theorem s_Boxes_narrow_153 {x : Nat} {v : Value} : wps rm K Q c_Boxes_narrow_153 kc ks loc (v :: .ref (x + 1) :: st) h = eg_pf h x 0 6 v (fun h9 => wps rm K Q c_Boxes_narrow_156 kc ks loc (st) h9) := gk_pf
theorem s_Boxes_narrow_156  : wps rm K Q c_Boxes_narrow_156 kc ks loc (st) h = wps rm K Q c_Boxes_narrow_157 kc ks loc (.int (1) :: st) h := gk_ic (by decide)
theorem s_Boxes_narrow_157 {x : Int32} : wps rm K Q c_Boxes_narrow_157 kc ks loc ([.int x]) h = (kc = rm.cells ∧ ((1 : Nat) = 1 → x = 0 ∨ x = 1) ∧ Q (some (.int x)) h) := gk_iret
def T_Boxes_narrow : List (Nat × List eg_I) := [(29, c_Boxes_narrow_29), (30, c_Boxes_narrow_30), (31, c_Boxes_narrow_31), (57, c_Boxes_narrow_57), (66, c_Boxes_narrow_66), (85, c_Boxes_narrow_85), (94, c_Boxes_narrow_94), (126, c_Boxes_narrow_126), (156, c_Boxes_narrow_156)]
theorem j_Boxes_narrow_29 {R : Nat → Nat → Nat → eg_Lo → List Value → List eg_E → Prop} {f pc0 : Nat} : eg_run rm R Q T_Boxes_narrow (f + 1) 29 kc ks loc st h = wps rm (eg_run rm R Q T_Boxes_narrow f) Q c_Boxes_narrow_29 kc ks loc st h := rfl
theorem j_Boxes_narrow_30 {R : Nat → Nat → Nat → eg_Lo → List Value → List eg_E → Prop} {f pc0 : Nat} : eg_run rm R Q T_Boxes_narrow (f + 1) 30 kc ks loc st h = wps rm (eg_run rm R Q T_Boxes_narrow f) Q c_Boxes_narrow_30 kc ks loc st h := rfl
theorem j_Boxes_narrow_31 {R : Nat → Nat → Nat → eg_Lo → List Value → List eg_E → Prop} {f pc0 : Nat} : eg_run rm R Q T_Boxes_narrow (f + 1) 31 kc ks loc st h = wps rm (eg_run rm R Q T_Boxes_narrow f) Q c_Boxes_narrow_31 kc ks loc st h := rfl
theorem j_Boxes_narrow_57 {R : Nat → Nat → Nat → eg_Lo → List Value → List eg_E → Prop} {f pc0 : Nat} : eg_run rm R Q T_Boxes_narrow (f + 1) 57 kc ks loc st h = wps rm (eg_run rm R Q T_Boxes_narrow f) Q c_Boxes_narrow_57 kc ks loc st h := rfl
theorem j_Boxes_narrow_66 {R : Nat → Nat → Nat → eg_Lo → List Value → List eg_E → Prop} {f pc0 : Nat} : eg_run rm R Q T_Boxes_narrow (f + 1) 66 kc ks loc st h = wps rm (eg_run rm R Q T_Boxes_narrow f) Q c_Boxes_narrow_66 kc ks loc st h := rfl
theorem j_Boxes_narrow_85 {R : Nat → Nat → Nat → eg_Lo → List Value → List eg_E → Prop} {f pc0 : Nat} : eg_run rm R Q T_Boxes_narrow (f + 1) 85 kc ks loc st h = wps rm (eg_run rm R Q T_Boxes_narrow f) Q c_Boxes_narrow_85 kc ks loc st h := rfl
theorem j_Boxes_narrow_94 {R : Nat → Nat → Nat → eg_Lo → List Value → List eg_E → Prop} {f pc0 : Nat} : eg_run rm R Q T_Boxes_narrow (f + 1) 94 kc ks loc st h = wps rm (eg_run rm R Q T_Boxes_narrow f) Q c_Boxes_narrow_94 kc ks loc st h := rfl
theorem j_Boxes_narrow_126 {R : Nat → Nat → Nat → eg_Lo → List Value → List eg_E → Prop} {f pc0 : Nat} : eg_run rm R Q T_Boxes_narrow (f + 1) 126 kc ks loc st h = wps rm (eg_run rm R Q T_Boxes_narrow f) Q c_Boxes_narrow_126 kc ks loc st h := rfl
theorem j_Boxes_narrow_156 {R : Nat → Nat → Nat → eg_Lo → List Value → List eg_E → Prop} {f pc0 : Nat} : eg_run rm R Q T_Boxes_narrow (f + 1) 156 kc ks loc st h = wps rm (eg_run rm R Q T_Boxes_narrow f) Q c_Boxes_narrow_156 kc ks loc st h := rfl
end
theorem y_Boxes_narrow_0 : eg_seq m_Boxes_narrow 0 c_Boxes_narrow_0 = true := by decide +kernel
theorem y_Boxes_narrow_29 : eg_seq m_Boxes_narrow 29 c_Boxes_narrow_29 = true := by decide +kernel
theorem y_Boxes_narrow_31 : eg_seq m_Boxes_narrow 31 c_Boxes_narrow_31 = true := by decide +kernel
theorem y_Boxes_narrow_57 : eg_seq m_Boxes_narrow 57 c_Boxes_narrow_57 = true := by decide +kernel
theorem y_Boxes_narrow_85 : eg_seq m_Boxes_narrow 85 c_Boxes_narrow_85 = true := by decide +kernel
theorem q_Boxes_narrow : ∀ q ∈ T_Boxes_narrow, eg_seq m_Boxes_narrow q.1 q.2 = true := by
  intro q hq
  simp only [T_Boxes_narrow, List.mem_cons, List.not_mem_nil, or_false] at hq
  rcases hq with rfl | rfl | rfl | rfl | rfl | rfl | rfl | rfl | rfl
  · exact y_Boxes_narrow_29
  · exact (eg_seq_drop y_Boxes_narrow_29 1 : eg_seq m_Boxes_narrow 30 c_Boxes_narrow_30 = true)
  · exact y_Boxes_narrow_31
  · exact y_Boxes_narrow_57
  · exact (eg_seq_drop y_Boxes_narrow_57 7 : eg_seq m_Boxes_narrow 66 c_Boxes_narrow_66 = true)
  · exact y_Boxes_narrow_85
  · exact (eg_seq_drop y_Boxes_narrow_85 7 : eg_seq m_Boxes_narrow 94 c_Boxes_narrow_94 = true)
  · exact (eg_seq_drop y_Boxes_narrow_85 24 : eg_seq m_Boxes_narrow 126 c_Boxes_narrow_126 = true)
  · exact (eg_seq_drop y_Boxes_narrow_85 40 : eg_seq m_Boxes_narrow 156 c_Boxes_narrow_156 = true)
theorem b_Boxes_narrow {as : List Value} {h : List eg_E} {Q : Option Value → List eg_E → Prop} (hf : (eg_fl as).length ≤ 10) (hw : wps (eg_rm m_Boxes_narrow) (eg_run (eg_rm m_Boxes_narrow) (eg_R m_Boxes_narrow Q (h.length + 0)) Q T_Boxes_narrow 11) Q c_Boxes_narrow_0 0 0 (eg_entry 10 as) [] h) : eg_Runs n_Boxes_narrow as h Q := eg_begin2 (d := m_Boxes_narrow) rfl (by decide) y_Boxes_narrow_0 q_Boxes_narrow hf hw
/-! ===== Circ_init ===== -/
def c_Circ_init_15 : List eg_I := .inl (15, 1, .return_, 0, 0) :: []
def c_Circ_init_12 : List eg_I := .inl (12, 3, .putfield 12, 1, 0) :: c_Circ_init_15
def c_Circ_init_9 : List eg_I := .inr (9, 3, 11, n_Tou_init, 0, 10, 4, 64) :: c_Circ_init_12
def c_Circ_init_8 : List eg_I := .inl (8, 1, .dup, 0, 0) :: c_Circ_init_9
def c_Circ_init_5 : List eg_I := .inl (5, 3, .new 9, 10, 5) :: c_Circ_init_8
def c_Circ_init_4 : List eg_I := .inl (4, 1, .aload 0, 0, 0) :: c_Circ_init_5
def c_Circ_init_1 : List eg_I := .inl (1, 3, .athrow, 3, 0) :: c_Circ_init_4
def c_Circ_init_0 : List eg_I := .inl (0, 1, .aload 0, 0, 0) :: c_Circ_init_1
section
variable {rm : Room} {K : Nat → Nat → Nat → eg_Lo → List Value → List eg_E → Prop} {Q : Option Value → List eg_E → Prop} {kc ks : Nat} {loc : eg_Lo} {st : List Value} {h : List eg_E}
theorem s_Circ_init_0 {x : Nat} {l : eg_Lo} : wps rm K Q c_Circ_init_0 kc ks (some (.ref x) :: l) (st) h = wps rm K Q c_Circ_init_1 kc ks (some (.ref x) :: l) (.ref x :: st) h := gk_aload rfl
theorem s_Circ_init_1 {x : Nat} : wps rm K Q c_Circ_init_1 kc ks loc (.ref (x + 1) :: st) h = (st.length ≤ 4 ∧ wps rm K Q c_Circ_init_4 kc ks loc (st) h) := gk_oi
theorem s_Circ_init_4 {x : Nat} {l : eg_Lo} : wps rm K Q c_Circ_init_4 kc ks (some (.ref x) :: l) (st) h = wps rm K Q c_Circ_init_5 kc ks (some (.ref x) :: l) (.ref x :: st) h := gk_aload rfl
theorem s_Circ_init_5  : wps rm K Q c_Circ_init_5 kc ks loc (st) h = (kc + 1 ≤ rm.cells ∧ ks + 5 ≤ rm.slots ∧ wps rm K Q c_Circ_init_8 (kc + 1) (ks + 5) loc (.ref (h.length + 1) :: st) (h ++ [.inr (10, eg_df 10)])) := gk_new
theorem s_Circ_init_8 {x : Nat} : wps rm K Q c_Circ_init_8 kc ks loc (.ref x :: st) h = wps rm K Q c_Circ_init_9 kc ks loc (.ref x :: .ref x :: st) h := gk_dup
theorem s_Circ_init_9  {x : Nat} : wps rm K Q c_Circ_init_9 kc ks loc (.ref (x + 1) :: st) h = (st.length ≤ 4 ∧ kc + 4 ≤ rm.cells ∧ ks + 64 ≤ rm.slots ∧ eg_Cs n_Tou_init [.ref (x + 1)] h (fun v h9 => wps rm K Q c_Circ_init_12 (kc + 4) (ks + 64) loc (v.toList ++ st) h9)) := eg_c3_0
theorem s_Circ_init_12 {x : Nat} {v : Value} : wps rm K Q c_Circ_init_12 kc ks loc (v :: .ref (x + 1) :: st) h = eg_pf h x 1 0 v (fun h9 => wps rm K Q c_Circ_init_15 kc ks loc (st) h9) := gk_pf
theorem s_Circ_init_15  : wps rm K Q c_Circ_init_15 kc ks loc ([]) h = (kc = rm.cells ∧ Q none h) := gk_vret
def T_Circ_init : List (Nat × List eg_I) := []
end
theorem y_Circ_init_0 : eg_seq m_Circ_init 0 c_Circ_init_0 = true := by decide +kernel
theorem q_Circ_init : ∀ q ∈ T_Circ_init, eg_seq m_Circ_init q.1 q.2 = true := by
  intro q hq
  cases hq
theorem b_Circ_init {as : List Value} {h : List eg_E} {Q : Option Value → List eg_E → Prop} (hf : (eg_fl as).length ≤ 1) (hw : wps (eg_rm m_Circ_init) (eg_run (eg_rm m_Circ_init) (eg_R m_Circ_init Q (h.length + 5)) Q T_Circ_init 2) Q c_Circ_init_0 0 0 (eg_entry 1 as) [] h) : eg_Runs n_Circ_init as h Q := eg_begin2 (d := m_Circ_init) rfl (by decide) y_Circ_init_0 q_Circ_init hf hw
/-! ===== Circ_fitCircle ===== -/
def c_Circ_fitCircle_49 : List eg_I := .inl (49, 1, .ireturn, 0, 1) :: []
def c_Circ_fitCircle_48 : List eg_I := .inl (48, 1, .iconst (0), 0, 0) :: c_Circ_fitCircle_49
def c_Circ_fitCircle_45 : List eg_I := .inl (45, 3, .goto (4), 49, 0) :: []
def c_Circ_fitCircle_44 : List eg_I := .inl (44, 1, .iconst (1), 0, 0) :: c_Circ_fitCircle_45
def c_Circ_fitCircle_41 : List eg_I := .inl (41, 3, .ifCond .eq (7), 48, 0) :: c_Circ_fitCircle_44
def c_Circ_fitCircle_38 : List eg_I := .inr (38, 1, 33, n_Circ_holdThree, 1, 1, 0, 0) :: c_Circ_fitCircle_41
def c_Circ_fitCircle_37 : List eg_I := .inl (37, 1, .aload 2, 0, 0) :: c_Circ_fitCircle_38
def c_Circ_fitCircle_36 : List eg_I := .inl (36, 1, .aload 0, 0, 0) :: c_Circ_fitCircle_37
def c_Circ_fitCircle_33 : List eg_I := .inl (33, 3, .ifCond .ne (11), 44, 0) :: c_Circ_fitCircle_36
def c_Circ_fitCircle_30 : List eg_I := .inr (30, 1, 30, n_Circ_holdPair, 1, 1, 0, 0) :: c_Circ_fitCircle_33
def c_Circ_fitCircle_29 : List eg_I := .inl (29, 1, .aload 2, 0, 0) :: c_Circ_fitCircle_30
def c_Circ_fitCircle_28 : List eg_I := .inl (28, 1, .aload 0, 0, 0) :: c_Circ_fitCircle_29
def c_Circ_fitCircle_25 : List eg_I := .inl (25, 3, .ifCond .ne (19), 44, 0) :: c_Circ_fitCircle_28
def c_Circ_fitCircle_22 : List eg_I := .inr (22, 1, 26, n_Circ_holdOnePlace, 1, 1, 0, 0) :: c_Circ_fitCircle_25
def c_Circ_fitCircle_21 : List eg_I := .inl (21, 1, .aload 2, 0, 0) :: c_Circ_fitCircle_22
def c_Circ_fitCircle_20 : List eg_I := .inl (20, 1, .aload 0, 0, 0) :: c_Circ_fitCircle_21
def c_Circ_fitCircle_19 : List eg_I := .inl (19, 1, .ireturn, 0, 1) :: []
def c_Circ_fitCircle_18 : List eg_I := .inl (18, 1, .iconst (0), 0, 0) :: c_Circ_fitCircle_19
def c_Circ_fitCircle_15 : List eg_I := .inl (15, 3, .ifCond .ne (5), 20, 0) :: c_Circ_fitCircle_18
def c_Circ_fitCircle_12 : List eg_I := .inl (12, 3, .getfield 22, 10, 4) :: c_Circ_fitCircle_15
def c_Circ_fitCircle_9 : List eg_I := .inl (9, 3, .getfield 12, 1, 0) :: c_Circ_fitCircle_12
def c_Circ_fitCircle_8 : List eg_I := .inl (8, 1, .aload 0, 0, 0) :: c_Circ_fitCircle_9
def c_Circ_fitCircle_5 : List eg_I := .inr (5, 1, 18, n_Tou_gather, 1, 10, 0, 0) :: c_Circ_fitCircle_8
def c_Circ_fitCircle_4 : List eg_I := .inl (4, 1, .aload 1, 0, 0) :: c_Circ_fitCircle_5
def c_Circ_fitCircle_1 : List eg_I := .inl (1, 3, .getfield 12, 1, 0) :: c_Circ_fitCircle_4
def c_Circ_fitCircle_0 : List eg_I := .inl (0, 1, .aload 0, 0, 0) :: c_Circ_fitCircle_1
section
variable {rm : Room} {K : Nat → Nat → Nat → eg_Lo → List Value → List eg_E → Prop} {Q : Option Value → List eg_E → Prop} {kc ks : Nat} {loc : eg_Lo} {st : List Value} {h : List eg_E}
theorem s_Circ_fitCircle_0 {x : Nat} {l : eg_Lo} : wps rm K Q c_Circ_fitCircle_0 kc ks (some (.ref x) :: l) (st) h = wps rm K Q c_Circ_fitCircle_1 kc ks (some (.ref x) :: l) (.ref x :: st) h := gk_aload rfl
theorem s_Circ_fitCircle_1 {x : Nat} : wps rm K Q c_Circ_fitCircle_1 kc ks loc (.ref (x + 1) :: st) h = eg_gf h x 1 0 (fun v => wps rm K Q c_Circ_fitCircle_4 kc ks loc (v :: st) h) := gk_gf
theorem s_Circ_fitCircle_4 {x : Nat} {l0 : Option Value} {l : eg_Lo} : wps rm K Q c_Circ_fitCircle_4 kc ks (l0 :: some (.ref x) :: l) (st) h = wps rm K Q c_Circ_fitCircle_5 kc ks (l0 :: some (.ref x) :: l) (.ref x :: st) h := gk_aload rfl
theorem s_Circ_fitCircle_5  {a1 : Value} {x : Nat} : wps rm K Q c_Circ_fitCircle_5 kc ks loc (a1 :: .ref (x + 1) :: st) h = (eg_cls h x 10 ∧ st.length ≤ 4 ∧ eg_Cs n_Tou_gather (.ref (x + 1) :: [a1]) h (fun v h9 => wps rm K Q c_Circ_fitCircle_8 kc ks loc (v.toList ++ st) h9)) := eg_c1_1
theorem s_Circ_fitCircle_8 {x : Nat} {l : eg_Lo} : wps rm K Q c_Circ_fitCircle_8 kc ks (some (.ref x) :: l) (st) h = wps rm K Q c_Circ_fitCircle_9 kc ks (some (.ref x) :: l) (.ref x :: st) h := gk_aload rfl
theorem s_Circ_fitCircle_9 {x : Nat} : wps rm K Q c_Circ_fitCircle_9 kc ks loc (.ref (x + 1) :: st) h = eg_gf h x 1 0 (fun v => wps rm K Q c_Circ_fitCircle_12 kc ks loc (v :: st) h) := gk_gf
theorem s_Circ_fitCircle_12 {x : Nat} : wps rm K Q c_Circ_fitCircle_12 kc ks loc (.ref (x + 1) :: st) h = eg_gf h x 10 4 (fun v => wps rm K Q c_Circ_fitCircle_15 kc ks loc (v :: st) h) := gk_gf
theorem s_Circ_fitCircle_15 {x : Int32} : wps rm K Q c_Circ_fitCircle_15 kc ks loc (.int x :: st) h = ((¬ x = 0 → K 20 kc ks loc st h) ∧ (x = 0 → wps rm K Q c_Circ_fitCircle_18 kc ks loc (st) h)) := gk_if1_ne
theorem s_Circ_fitCircle_18  : wps rm K Q c_Circ_fitCircle_18 kc ks loc (st) h = wps rm K Q c_Circ_fitCircle_19 kc ks loc (.int (0) :: st) h := gk_ic (by decide)
theorem s_Circ_fitCircle_19 {x : Int32} : wps rm K Q c_Circ_fitCircle_19 kc ks loc ([.int x]) h = (kc = rm.cells ∧ ((1 : Nat) = 1 → x = 0 ∨ x = 1) ∧ Q (some (.int x)) h) := gk_iret
theorem s_Circ_fitCircle_20 {x : Nat} {l : eg_Lo} : wps rm K Q c_Circ_fitCircle_20 kc ks (some (.ref x) :: l) (st) h = wps rm K Q c_Circ_fitCircle_21 kc ks (some (.ref x) :: l) (.ref x :: st) h := gk_aload rfl
theorem s_Circ_fitCircle_21 {x : Nat} {l0 l1 : Option Value} {l : eg_Lo} : wps rm K Q c_Circ_fitCircle_21 kc ks (l0 :: l1 :: some (.ref x) :: l) (st) h = wps rm K Q c_Circ_fitCircle_22 kc ks (l0 :: l1 :: some (.ref x) :: l) (.ref x :: st) h := gk_aload rfl
theorem s_Circ_fitCircle_22  {a1 : Value} {x : Nat} : wps rm K Q c_Circ_fitCircle_22 kc ks loc (a1 :: .ref (x + 1) :: st) h = (eg_cls h x 1 ∧ st.length ≤ 4 ∧ eg_Cs n_Circ_holdOnePlace (.ref (x + 1) :: [a1]) h (fun v h9 => wps rm K Q c_Circ_fitCircle_25 kc ks loc (v.toList ++ st) h9)) := eg_c1_1
theorem s_Circ_fitCircle_25 {x : Int32} : wps rm K Q c_Circ_fitCircle_25 kc ks loc (.int x :: st) h = ((¬ x = 0 → K 44 kc ks loc st h) ∧ (x = 0 → wps rm K Q c_Circ_fitCircle_28 kc ks loc (st) h)) := gk_if1_ne
theorem s_Circ_fitCircle_28 {x : Nat} {l : eg_Lo} : wps rm K Q c_Circ_fitCircle_28 kc ks (some (.ref x) :: l) (st) h = wps rm K Q c_Circ_fitCircle_29 kc ks (some (.ref x) :: l) (.ref x :: st) h := gk_aload rfl
theorem s_Circ_fitCircle_29 {x : Nat} {l0 l1 : Option Value} {l : eg_Lo} : wps rm K Q c_Circ_fitCircle_29 kc ks (l0 :: l1 :: some (.ref x) :: l) (st) h = wps rm K Q c_Circ_fitCircle_30 kc ks (l0 :: l1 :: some (.ref x) :: l) (.ref x :: st) h := gk_aload rfl
theorem s_Circ_fitCircle_30  {a1 : Value} {x : Nat} : wps rm K Q c_Circ_fitCircle_30 kc ks loc (a1 :: .ref (x + 1) :: st) h = (eg_cls h x 1 ∧ st.length ≤ 4 ∧ eg_Cs n_Circ_holdPair (.ref (x + 1) :: [a1]) h (fun v h9 => wps rm K Q c_Circ_fitCircle_33 kc ks loc (v.toList ++ st) h9)) := eg_c1_1
theorem s_Circ_fitCircle_33 {x : Int32} : wps rm K Q c_Circ_fitCircle_33 kc ks loc (.int x :: st) h = ((¬ x = 0 → K 44 kc ks loc st h) ∧ (x = 0 → wps rm K Q c_Circ_fitCircle_36 kc ks loc (st) h)) := gk_if1_ne
theorem s_Circ_fitCircle_36 {x : Nat} {l : eg_Lo} : wps rm K Q c_Circ_fitCircle_36 kc ks (some (.ref x) :: l) (st) h = wps rm K Q c_Circ_fitCircle_37 kc ks (some (.ref x) :: l) (.ref x :: st) h := gk_aload rfl
theorem s_Circ_fitCircle_37 {x : Nat} {l0 l1 : Option Value} {l : eg_Lo} : wps rm K Q c_Circ_fitCircle_37 kc ks (l0 :: l1 :: some (.ref x) :: l) (st) h = wps rm K Q c_Circ_fitCircle_38 kc ks (l0 :: l1 :: some (.ref x) :: l) (.ref x :: st) h := gk_aload rfl
theorem s_Circ_fitCircle_38  {a1 : Value} {x : Nat} : wps rm K Q c_Circ_fitCircle_38 kc ks loc (a1 :: .ref (x + 1) :: st) h = (eg_cls h x 1 ∧ st.length ≤ 4 ∧ eg_Cs n_Circ_holdThree (.ref (x + 1) :: [a1]) h (fun v h9 => wps rm K Q c_Circ_fitCircle_41 kc ks loc (v.toList ++ st) h9)) := eg_c1_1
theorem s_Circ_fitCircle_41 {x : Int32} : wps rm K Q c_Circ_fitCircle_41 kc ks loc (.int x :: st) h = ((x = 0 → K 48 kc ks loc st h) ∧ (¬ x = 0 → wps rm K Q c_Circ_fitCircle_44 kc ks loc (st) h)) := gk_if1_eq
theorem s_Circ_fitCircle_44  : wps rm K Q c_Circ_fitCircle_44 kc ks loc (st) h = wps rm K Q c_Circ_fitCircle_45 kc ks loc (.int (1) :: st) h := gk_ic (by decide)
theorem s_Circ_fitCircle_45  : wps rm K Q c_Circ_fitCircle_45 kc ks loc (st) h = K 49 kc ks loc st h := gk_goto
theorem s_Circ_fitCircle_48  : wps rm K Q c_Circ_fitCircle_48 kc ks loc (st) h = wps rm K Q c_Circ_fitCircle_49 kc ks loc (.int (0) :: st) h := gk_ic (by decide)
theorem s_Circ_fitCircle_49 {x : Int32} : wps rm K Q c_Circ_fitCircle_49 kc ks loc ([.int x]) h = (kc = rm.cells ∧ ((1 : Nat) = 1 → x = 0 ∨ x = 1) ∧ Q (some (.int x)) h) := gk_iret
def T_Circ_fitCircle : List (Nat × List eg_I) := [(20, c_Circ_fitCircle_20), (44, c_Circ_fitCircle_44), (48, c_Circ_fitCircle_48), (49, c_Circ_fitCircle_49)]
theorem j_Circ_fitCircle_20 {R : Nat → Nat → Nat → eg_Lo → List Value → List eg_E → Prop} {f pc0 : Nat} : eg_run rm R Q T_Circ_fitCircle (f + 1) 20 kc ks loc st h = wps rm (eg_run rm R Q T_Circ_fitCircle f) Q c_Circ_fitCircle_20 kc ks loc st h := rfl
theorem j_Circ_fitCircle_44 {R : Nat → Nat → Nat → eg_Lo → List Value → List eg_E → Prop} {f pc0 : Nat} : eg_run rm R Q T_Circ_fitCircle (f + 1) 44 kc ks loc st h = wps rm (eg_run rm R Q T_Circ_fitCircle f) Q c_Circ_fitCircle_44 kc ks loc st h := rfl
theorem j_Circ_fitCircle_48 {R : Nat → Nat → Nat → eg_Lo → List Value → List eg_E → Prop} {f pc0 : Nat} : eg_run rm R Q T_Circ_fitCircle (f + 1) 48 kc ks loc st h = wps rm (eg_run rm R Q T_Circ_fitCircle f) Q c_Circ_fitCircle_48 kc ks loc st h := rfl
theorem j_Circ_fitCircle_49 {R : Nat → Nat → Nat → eg_Lo → List Value → List eg_E → Prop} {f pc0 : Nat} : eg_run rm R Q T_Circ_fitCircle (f + 1) 49 kc ks loc st h = wps rm (eg_run rm R Q T_Circ_fitCircle f) Q c_Circ_fitCircle_49 kc ks loc st h := rfl
end
theorem y_Circ_fitCircle_0 : eg_seq m_Circ_fitCircle 0 c_Circ_fitCircle_0 = true := by decide +kernel
theorem y_Circ_fitCircle_20 : eg_seq m_Circ_fitCircle 20 c_Circ_fitCircle_20 = true := by decide +kernel
theorem y_Circ_fitCircle_48 : eg_seq m_Circ_fitCircle 48 c_Circ_fitCircle_48 = true := by decide +kernel
theorem q_Circ_fitCircle : ∀ q ∈ T_Circ_fitCircle, eg_seq m_Circ_fitCircle q.1 q.2 = true := by
  intro q hq
  simp only [T_Circ_fitCircle, List.mem_cons, List.not_mem_nil, or_false] at hq
  rcases hq with rfl | rfl | rfl | rfl
  · exact y_Circ_fitCircle_20
  · exact (eg_seq_drop y_Circ_fitCircle_20 12 : eg_seq m_Circ_fitCircle 44 c_Circ_fitCircle_44 = true)
  · exact y_Circ_fitCircle_48
  · exact (eg_seq_drop y_Circ_fitCircle_48 1 : eg_seq m_Circ_fitCircle 49 c_Circ_fitCircle_49 = true)
theorem b_Circ_fitCircle {as : List Value} {h : List eg_E} {Q : Option Value → List eg_E → Prop} (hf : (eg_fl as).length ≤ 3) (hw : wps (eg_rm m_Circ_fitCircle) (eg_run (eg_rm m_Circ_fitCircle) (eg_R m_Circ_fitCircle Q (h.length + 0)) Q T_Circ_fitCircle 6) Q c_Circ_fitCircle_0 0 0 (eg_entry 3 as) [] h) : eg_Runs n_Circ_fitCircle as h Q := eg_begin2 (d := m_Circ_fitCircle) rfl (by decide) y_Circ_fitCircle_0 q_Circ_fitCircle hf hw
/-! ===== Circ_holdOnePlace ===== -/
def z_Circ_holdOnePlace_2 : List eg_I := [.inl (2, 0, .nop, 0, 0)]
def c_Circ_holdOnePlace_63 : List eg_I := .inl (63, 1, .ireturn, 0, 1) :: []
def c_Circ_holdOnePlace_62 : List eg_I := .inl (62, 1, .iconst (1), 0, 0) :: c_Circ_holdOnePlace_63
def c_Circ_holdOnePlace_59 : List eg_I := .inr (59, 1, 53, n_Circ_finish, 2, 1, 0, 0) :: c_Circ_holdOnePlace_62
def c_Circ_holdOnePlace_58 : List eg_I := .inl (58, 1, .iconst (1), 0, 0) :: c_Circ_holdOnePlace_59
def c_Circ_holdOnePlace_57 : List eg_I := .inl (57, 1, .aload 1, 0, 0) :: c_Circ_holdOnePlace_58
def c_Circ_holdOnePlace_56 : List eg_I := .inl (56, 1, .aload 0, 0, 0) :: c_Circ_holdOnePlace_57
def c_Circ_holdOnePlace_55 : List eg_I := .inl (55, 1, .iastore, 0, 0) :: c_Circ_holdOnePlace_56
def c_Circ_holdOnePlace_54 : List eg_I := .inl (54, 1, .iaload, 0, 0) :: c_Circ_holdOnePlace_55
def c_Circ_holdOnePlace_53 : List eg_I := .inl (53, 1, .iconst (0), 0, 0) :: c_Circ_holdOnePlace_54
def c_Circ_holdOnePlace_50 : List eg_I := .inl (50, 3, .getfield 50, 10, 3) :: c_Circ_holdOnePlace_53
def c_Circ_holdOnePlace_47 : List eg_I := .inl (47, 3, .getfield 12, 1, 0) :: c_Circ_holdOnePlace_50
def c_Circ_holdOnePlace_46 : List eg_I := .inl (46, 1, .aload 0, 0, 0) :: c_Circ_holdOnePlace_47
def c_Circ_holdOnePlace_45 : List eg_I := .inl (45, 1, .iconst (0), 0, 0) :: c_Circ_holdOnePlace_46
def c_Circ_holdOnePlace_42 : List eg_I := .inl (42, 3, .getfield 44, 2, 0) :: c_Circ_holdOnePlace_45
def c_Circ_holdOnePlace_41 : List eg_I := .inl (41, 1, .aload 1, 0, 0) :: c_Circ_holdOnePlace_42
def c_Circ_holdOnePlace_38 : List eg_I := .inr (38, 1, 40, n_Circ_setCircle, 4, 1, 0, 0) :: c_Circ_holdOnePlace_41
def c_Circ_holdOnePlace_37 : List eg_I := .inl (37, 1, .sipush (1), 0, 0) :: c_Circ_holdOnePlace_38
def c_Circ_holdOnePlace_36 : List eg_I := .inl (36, 1, .sipush (0), 0, 0) :: c_Circ_holdOnePlace_37
def c_Circ_holdOnePlace_35 : List eg_I := .inl (35, 1, .sipush (0), 0, 0) :: c_Circ_holdOnePlace_36
def c_Circ_holdOnePlace_34 : List eg_I := .inl (34, 1, .iconst (0), 0, 0) :: c_Circ_holdOnePlace_35
def c_Circ_holdOnePlace_33 : List eg_I := .inl (33, 1, .aload 0, 0, 0) :: c_Circ_holdOnePlace_34
def c_Circ_holdOnePlace_30 : List eg_I := .inl (30, 3, .goto (-28), 2, 0) :: []
def c_Circ_holdOnePlace_27 : List eg_I := .inl (27, 3, .iinc 2 (1), 0, 0) :: c_Circ_holdOnePlace_30
def c_Circ_holdOnePlace_26 : List eg_I := .inl (26, 1, .ireturn, 0, 1) :: []
def c_Circ_holdOnePlace_25 : List eg_I := .inl (25, 1, .iconst (0), 0, 0) :: c_Circ_holdOnePlace_26
def c_Circ_holdOnePlace_22 : List eg_I := .inl (22, 3, .ifCond .ne (5), 27, 0) :: c_Circ_holdOnePlace_25
def c_Circ_holdOnePlace_19 : List eg_I := .inr (19, 1, 36, n_Tou_isOnePlace, 2, 10, 0, 0) :: c_Circ_holdOnePlace_22
def c_Circ_holdOnePlace_18 : List eg_I := .inl (18, 1, .iload 2, 0, 0) :: c_Circ_holdOnePlace_19
def c_Circ_holdOnePlace_17 : List eg_I := .inl (17, 1, .iconst (0), 0, 0) :: c_Circ_holdOnePlace_18
def c_Circ_holdOnePlace_14 : List eg_I := .inl (14, 3, .getfield 12, 1, 0) :: c_Circ_holdOnePlace_17
def c_Circ_holdOnePlace_13 : List eg_I := .inl (13, 1, .aload 0, 0, 0) :: c_Circ_holdOnePlace_14
def c_Circ_holdOnePlace_10 : List eg_I := .inl (10, 3, .if_icmp .ge (23), 33, 0) :: c_Circ_holdOnePlace_13
def c_Circ_holdOnePlace_7 : List eg_I := .inl (7, 3, .getfield 22, 10, 4) :: c_Circ_holdOnePlace_10
def c_Circ_holdOnePlace_4 : List eg_I := .inl (4, 3, .getfield 12, 1, 0) :: c_Circ_holdOnePlace_7
def c_Circ_holdOnePlace_3 : List eg_I := .inl (3, 1, .aload 0, 0, 0) :: c_Circ_holdOnePlace_4
def c_Circ_holdOnePlace_2 : List eg_I := .inl (2, 1, .iload 2, 0, 0) :: c_Circ_holdOnePlace_3
def c_Circ_holdOnePlace_1 : List eg_I := .inl (1, 1, .istore 2, 0, 0) :: z_Circ_holdOnePlace_2
def c_Circ_holdOnePlace_0 : List eg_I := .inl (0, 1, .iconst (1), 0, 0) :: c_Circ_holdOnePlace_1
section
variable {rm : Room} {K : Nat → Nat → Nat → eg_Lo → List Value → List eg_E → Prop} {Q : Option Value → List eg_E → Prop} {kc ks : Nat} {loc : eg_Lo} {st : List Value} {h : List eg_E}
theorem s_Circ_holdOnePlace_0  : wps rm K Q c_Circ_holdOnePlace_0 kc ks loc (st) h = wps rm K Q c_Circ_holdOnePlace_1 kc ks loc (.int (1) :: st) h := gk_ic (by decide)
theorem s_Circ_holdOnePlace_1 {x : Int32} : wps rm K Q c_Circ_holdOnePlace_1 kc ks loc (.int x :: st) h = wps rm K Q z_Circ_holdOnePlace_2 kc ks (eg_set1 loc 2 (.int x)) (st) h := gk_istore
theorem s_Circ_holdOnePlace_2 {x : Int32} {l0 l1 : Option Value} {l : eg_Lo} : wps rm K Q c_Circ_holdOnePlace_2 kc ks (l0 :: l1 :: some (.int x) :: l) (st) h = wps rm K Q c_Circ_holdOnePlace_3 kc ks (l0 :: l1 :: some (.int x) :: l) (.int x :: st) h := gk_iload rfl
theorem s_Circ_holdOnePlace_3 {x : Nat} {l : eg_Lo} : wps rm K Q c_Circ_holdOnePlace_3 kc ks (some (.ref x) :: l) (st) h = wps rm K Q c_Circ_holdOnePlace_4 kc ks (some (.ref x) :: l) (.ref x :: st) h := gk_aload rfl
theorem s_Circ_holdOnePlace_4 {x : Nat} : wps rm K Q c_Circ_holdOnePlace_4 kc ks loc (.ref (x + 1) :: st) h = eg_gf h x 1 0 (fun v => wps rm K Q c_Circ_holdOnePlace_7 kc ks loc (v :: st) h) := gk_gf
theorem s_Circ_holdOnePlace_7 {x : Nat} : wps rm K Q c_Circ_holdOnePlace_7 kc ks loc (.ref (x + 1) :: st) h = eg_gf h x 10 4 (fun v => wps rm K Q c_Circ_holdOnePlace_10 kc ks loc (v :: st) h) := gk_gf
theorem s_Circ_holdOnePlace_10 {x y : Int32} : wps rm K Q c_Circ_holdOnePlace_10 kc ks loc (.int y :: .int x :: st) h = ((y ≤ x → K 33 kc ks loc st h) ∧ (¬ y ≤ x → wps rm K Q c_Circ_holdOnePlace_13 kc ks loc (st) h)) := gk_if2_ge
theorem s_Circ_holdOnePlace_13 {x : Nat} {l : eg_Lo} : wps rm K Q c_Circ_holdOnePlace_13 kc ks (some (.ref x) :: l) (st) h = wps rm K Q c_Circ_holdOnePlace_14 kc ks (some (.ref x) :: l) (.ref x :: st) h := gk_aload rfl
theorem s_Circ_holdOnePlace_14 {x : Nat} : wps rm K Q c_Circ_holdOnePlace_14 kc ks loc (.ref (x + 1) :: st) h = eg_gf h x 1 0 (fun v => wps rm K Q c_Circ_holdOnePlace_17 kc ks loc (v :: st) h) := gk_gf
theorem s_Circ_holdOnePlace_17  : wps rm K Q c_Circ_holdOnePlace_17 kc ks loc (st) h = wps rm K Q c_Circ_holdOnePlace_18 kc ks loc (.int (0) :: st) h := gk_ic (by decide)
theorem s_Circ_holdOnePlace_18 {x : Int32} {l0 l1 : Option Value} {l : eg_Lo} : wps rm K Q c_Circ_holdOnePlace_18 kc ks (l0 :: l1 :: some (.int x) :: l) (st) h = wps rm K Q c_Circ_holdOnePlace_19 kc ks (l0 :: l1 :: some (.int x) :: l) (.int x :: st) h := gk_iload rfl
theorem s_Circ_holdOnePlace_19  {a1 : Value} {a2 : Value} {x : Nat} : wps rm K Q c_Circ_holdOnePlace_19 kc ks loc (a2 :: a1 :: .ref (x + 1) :: st) h = (eg_cls h x 10 ∧ st.length ≤ 4 ∧ eg_Cs n_Tou_isOnePlace (.ref (x + 1) :: [a1, a2]) h (fun v h9 => wps rm K Q c_Circ_holdOnePlace_22 kc ks loc (v.toList ++ st) h9)) := eg_c1_2
theorem s_Circ_holdOnePlace_22 {x : Int32} : wps rm K Q c_Circ_holdOnePlace_22 kc ks loc (.int x :: st) h = ((¬ x = 0 → K 27 kc ks loc st h) ∧ (x = 0 → wps rm K Q c_Circ_holdOnePlace_25 kc ks loc (st) h)) := gk_if1_ne
theorem s_Circ_holdOnePlace_25  : wps rm K Q c_Circ_holdOnePlace_25 kc ks loc (st) h = wps rm K Q c_Circ_holdOnePlace_26 kc ks loc (.int (0) :: st) h := gk_ic (by decide)
theorem s_Circ_holdOnePlace_26 {x : Int32} : wps rm K Q c_Circ_holdOnePlace_26 kc ks loc ([.int x]) h = (kc = rm.cells ∧ ((1 : Nat) = 1 → x = 0 ∨ x = 1) ∧ Q (some (.int x)) h) := gk_iret
theorem s_Circ_holdOnePlace_27 {x : Int32} {l0 l1 : Option Value} {lz : eg_Lo} : wps rm K Q c_Circ_holdOnePlace_27 kc ks (l0 :: l1 :: some (.int x) :: lz) (st) h = wps rm K Q c_Circ_holdOnePlace_30 kc ks (eg_set1 (l0 :: l1 :: some (.int x) :: lz) 2 (.int (x + (1)))) (st) h := gk_iinc rfl (by decide)
theorem s_Circ_holdOnePlace_30  : wps rm K Q c_Circ_holdOnePlace_30 kc ks loc (st) h = K 2 kc ks loc st h := gk_goto
theorem s_Circ_holdOnePlace_33 {x : Nat} {l : eg_Lo} : wps rm K Q c_Circ_holdOnePlace_33 kc ks (some (.ref x) :: l) (st) h = wps rm K Q c_Circ_holdOnePlace_34 kc ks (some (.ref x) :: l) (.ref x :: st) h := gk_aload rfl
theorem s_Circ_holdOnePlace_34  : wps rm K Q c_Circ_holdOnePlace_34 kc ks loc (st) h = wps rm K Q c_Circ_holdOnePlace_35 kc ks loc (.int (0) :: st) h := gk_ic (by decide)
theorem s_Circ_holdOnePlace_35  : wps rm K Q c_Circ_holdOnePlace_35 kc ks loc (st) h = wps rm K Q c_Circ_holdOnePlace_36 kc ks loc (.long (0) :: st) h := gk_lc (by decide)
theorem s_Circ_holdOnePlace_36  : wps rm K Q c_Circ_holdOnePlace_36 kc ks loc (st) h = wps rm K Q c_Circ_holdOnePlace_37 kc ks loc (.long (0) :: st) h := gk_lc (by decide)
theorem s_Circ_holdOnePlace_37  : wps rm K Q c_Circ_holdOnePlace_37 kc ks loc (st) h = wps rm K Q c_Circ_holdOnePlace_38 kc ks loc (.long (1) :: st) h := gk_lc (by decide)
theorem s_Circ_holdOnePlace_38  {a1 : Value} {a2 : Value} {a3 : Value} {a4 : Value} {x : Nat} : wps rm K Q c_Circ_holdOnePlace_38 kc ks loc (a4 :: a3 :: a2 :: a1 :: .ref (x + 1) :: st) h = (eg_cls h x 1 ∧ st.length ≤ 4 ∧ eg_Cs n_Circ_setCircle (.ref (x + 1) :: [a1, a2, a3, a4]) h (fun v h9 => wps rm K Q c_Circ_holdOnePlace_41 kc ks loc (v.toList ++ st) h9)) := eg_c1_4
theorem s_Circ_holdOnePlace_41 {x : Nat} {l0 : Option Value} {l : eg_Lo} : wps rm K Q c_Circ_holdOnePlace_41 kc ks (l0 :: some (.ref x) :: l) (st) h = wps rm K Q c_Circ_holdOnePlace_42 kc ks (l0 :: some (.ref x) :: l) (.ref x :: st) h := gk_aload rfl
theorem s_Circ_holdOnePlace_42 {x : Nat} : wps rm K Q c_Circ_holdOnePlace_42 kc ks loc (.ref (x + 1) :: st) h = eg_gf h x 2 0 (fun v => wps rm K Q c_Circ_holdOnePlace_45 kc ks loc (v :: st) h) := gk_gf
theorem s_Circ_holdOnePlace_45  : wps rm K Q c_Circ_holdOnePlace_45 kc ks loc (st) h = wps rm K Q c_Circ_holdOnePlace_46 kc ks loc (.int (0) :: st) h := gk_ic (by decide)
theorem s_Circ_holdOnePlace_46 {x : Nat} {l : eg_Lo} : wps rm K Q c_Circ_holdOnePlace_46 kc ks (some (.ref x) :: l) (st) h = wps rm K Q c_Circ_holdOnePlace_47 kc ks (some (.ref x) :: l) (.ref x :: st) h := gk_aload rfl
theorem s_Circ_holdOnePlace_47 {x : Nat} : wps rm K Q c_Circ_holdOnePlace_47 kc ks loc (.ref (x + 1) :: st) h = eg_gf h x 1 0 (fun v => wps rm K Q c_Circ_holdOnePlace_50 kc ks loc (v :: st) h) := gk_gf
theorem s_Circ_holdOnePlace_50 {x : Nat} : wps rm K Q c_Circ_holdOnePlace_50 kc ks loc (.ref (x + 1) :: st) h = eg_gf h x 10 3 (fun v => wps rm K Q c_Circ_holdOnePlace_53 kc ks loc (v :: st) h) := gk_gf
theorem s_Circ_holdOnePlace_53  : wps rm K Q c_Circ_holdOnePlace_53 kc ks loc (st) h = wps rm K Q c_Circ_holdOnePlace_54 kc ks loc (.int (0) :: st) h := gk_ic (by decide)
theorem s_Circ_holdOnePlace_54 {x : Nat} {i : Int32} : wps rm K Q c_Circ_holdOnePlace_54 kc ks loc (.int i :: .ref (x + 1) :: st) h = eg_ia h x i (fun v => wps rm K Q c_Circ_holdOnePlace_55 kc ks loc (.int v :: st) h) := gk_iaload
theorem s_Circ_holdOnePlace_55 {x : Nat} {i : Int32} {v : Int32} : wps rm K Q c_Circ_holdOnePlace_55 kc ks loc (.int v :: .int i :: .ref (x + 1) :: st) h = eg_is h x i v (fun h9 => wps rm K Q c_Circ_holdOnePlace_56 kc ks loc (st) h9) := gk_iastore
theorem s_Circ_holdOnePlace_56 {x : Nat} {l : eg_Lo} : wps rm K Q c_Circ_holdOnePlace_56 kc ks (some (.ref x) :: l) (st) h = wps rm K Q c_Circ_holdOnePlace_57 kc ks (some (.ref x) :: l) (.ref x :: st) h := gk_aload rfl
theorem s_Circ_holdOnePlace_57 {x : Nat} {l0 : Option Value} {l : eg_Lo} : wps rm K Q c_Circ_holdOnePlace_57 kc ks (l0 :: some (.ref x) :: l) (st) h = wps rm K Q c_Circ_holdOnePlace_58 kc ks (l0 :: some (.ref x) :: l) (.ref x :: st) h := gk_aload rfl
theorem s_Circ_holdOnePlace_58  : wps rm K Q c_Circ_holdOnePlace_58 kc ks loc (st) h = wps rm K Q c_Circ_holdOnePlace_59 kc ks loc (.int (1) :: st) h := gk_ic (by decide)
theorem s_Circ_holdOnePlace_59  {a1 : Value} {a2 : Value} {x : Nat} : wps rm K Q c_Circ_holdOnePlace_59 kc ks loc (a2 :: a1 :: .ref (x + 1) :: st) h = (eg_cls h x 1 ∧ st.length ≤ 4 ∧ eg_Cs n_Circ_finish (.ref (x + 1) :: [a1, a2]) h (fun v h9 => wps rm K Q c_Circ_holdOnePlace_62 kc ks loc (v.toList ++ st) h9)) := eg_c1_2
theorem s_Circ_holdOnePlace_62  : wps rm K Q c_Circ_holdOnePlace_62 kc ks loc (st) h = wps rm K Q c_Circ_holdOnePlace_63 kc ks loc (.int (1) :: st) h := gk_ic (by decide)
theorem s_Circ_holdOnePlace_63 {x : Int32} : wps rm K Q c_Circ_holdOnePlace_63 kc ks loc ([.int x]) h = (kc = rm.cells ∧ ((1 : Nat) = 1 → x = 0 ∨ x = 1) ∧ Q (some (.int x)) h) := gk_iret
theorem sz_Circ_holdOnePlace_2 : wps rm K Q z_Circ_holdOnePlace_2 kc ks loc st h = K 2 kc ks loc st h := gk_nop
def T_Circ_holdOnePlace : List (Nat × List eg_I) := [(27, c_Circ_holdOnePlace_27), (33, c_Circ_holdOnePlace_33)]
theorem j_Circ_holdOnePlace_27 {R : Nat → Nat → Nat → eg_Lo → List Value → List eg_E → Prop} {f pc0 : Nat} : eg_run rm R Q T_Circ_holdOnePlace (f + 1) 27 kc ks loc st h = wps rm (eg_run rm R Q T_Circ_holdOnePlace f) Q c_Circ_holdOnePlace_27 kc ks loc st h := rfl
theorem j_Circ_holdOnePlace_33 {R : Nat → Nat → Nat → eg_Lo → List Value → List eg_E → Prop} {f pc0 : Nat} : eg_run rm R Q T_Circ_holdOnePlace (f + 1) 33 kc ks loc st h = wps rm (eg_run rm R Q T_Circ_holdOnePlace f) Q c_Circ_holdOnePlace_33 kc ks loc st h := rfl
theorem j_Circ_holdOnePlace_2 {R : Nat → Nat → Nat → eg_Lo → List Value → List eg_E → Prop} {f pc0 : Nat} : eg_run rm R Q T_Circ_holdOnePlace (f + 1) 2 kc ks loc st h = R 2 kc ks loc st h := rfl
end
theorem y_Circ_holdOnePlace_0 : eg_seq m_Circ_holdOnePlace 0 c_Circ_holdOnePlace_0 = true := by decide +kernel
theorem y_Circ_holdOnePlace_2 : eg_seq m_Circ_holdOnePlace 2 c_Circ_holdOnePlace_2 = true := by decide +kernel
theorem y_Circ_holdOnePlace_27 : eg_seq m_Circ_holdOnePlace 27 c_Circ_holdOnePlace_27 = true := by decide +kernel
theorem y_Circ_holdOnePlace_33 : eg_seq m_Circ_holdOnePlace 33 c_Circ_holdOnePlace_33 = true := by decide +kernel
theorem q_Circ_holdOnePlace : ∀ q ∈ T_Circ_holdOnePlace, eg_seq m_Circ_holdOnePlace q.1 q.2 = true := by
  intro q hq
  simp only [T_Circ_holdOnePlace, List.mem_cons, List.not_mem_nil, or_false] at hq
  rcases hq with rfl | rfl
  · exact y_Circ_holdOnePlace_27
  · exact y_Circ_holdOnePlace_33
theorem b_Circ_holdOnePlace {as : List Value} {h : List eg_E} {Q : Option Value → List eg_E → Prop} (hf : (eg_fl as).length ≤ 3) (hw : wps (eg_rm m_Circ_holdOnePlace) (eg_run (eg_rm m_Circ_holdOnePlace) (eg_R m_Circ_holdOnePlace Q (h.length + 0)) Q T_Circ_holdOnePlace 4) Q c_Circ_holdOnePlace_0 0 0 (eg_entry 3 as) [] h) : eg_Runs n_Circ_holdOnePlace as h Q := eg_begin2 (d := m_Circ_holdOnePlace) rfl (by decide) y_Circ_holdOnePlace_0 q_Circ_holdOnePlace hf hw
theorem p_Circ_holdOnePlace_2 {Q : Option Value → List eg_E → Prop} {n0 kc ks : Nat} {loc : eg_Lo} {st : List Value} {h : List eg_E} (hw : wps (eg_rm m_Circ_holdOnePlace) (eg_run (eg_rm m_Circ_holdOnePlace) (eg_R m_Circ_holdOnePlace Q n0) Q T_Circ_holdOnePlace 4) Q c_Circ_holdOnePlace_2 kc ks loc st h) : eg_R m_Circ_holdOnePlace Q n0 2 kc ks loc st h := eg_go2 y_Circ_holdOnePlace_2 q_Circ_holdOnePlace hw
/-! ===== Circ_holdPair ===== -/
def z_Circ_holdPair_2 : List eg_I := [.inl (2, 0, .nop, 0, 0)]
def z_Circ_holdPair_17 : List eg_I := [.inl (17, 0, .nop, 0, 0)]
def c_Circ_holdPair_134 : List eg_I := .inl (134, 1, .ireturn, 0, 1) :: []
def c_Circ_holdPair_133 : List eg_I := .inl (133, 1, .iconst (0), 0, 0) :: c_Circ_holdPair_134
def c_Circ_holdPair_130 : List eg_I := .inl (130, 3, .goto (-128), 2, 0) :: []
def c_Circ_holdPair_127 : List eg_I := .inl (127, 3, .iinc 2 (1), 0, 0) :: c_Circ_holdPair_130
def c_Circ_holdPair_124 : List eg_I := .inl (124, 3, .goto (-107), 17, 0) :: []
def c_Circ_holdPair_121 : List eg_I := .inl (121, 3, .iinc 3 (1), 0, 0) :: c_Circ_holdPair_124
def c_Circ_holdPair_120 : List eg_I := .inl (120, 1, .ireturn, 0, 1) :: []
def c_Circ_holdPair_119 : List eg_I := .inl (119, 1, .iconst (1), 0, 0) :: c_Circ_holdPair_120
def c_Circ_holdPair_116 : List eg_I := .inr (116, 1, 53, n_Circ_finish, 2, 1, 0, 0) :: c_Circ_holdPair_119
def c_Circ_holdPair_115 : List eg_I := .inl (115, 1, .iconst (2), 0, 0) :: c_Circ_holdPair_116
def c_Circ_holdPair_114 : List eg_I := .inl (114, 1, .aload 1, 0, 0) :: c_Circ_holdPair_115
def c_Circ_holdPair_113 : List eg_I := .inl (113, 1, .aload 0, 0, 0) :: c_Circ_holdPair_114
def c_Circ_holdPair_112 : List eg_I := .inl (112, 1, .iastore, 0, 0) :: c_Circ_holdPair_113
def c_Circ_holdPair_111 : List eg_I := .inl (111, 1, .iaload, 0, 0) :: c_Circ_holdPair_112
def c_Circ_holdPair_110 : List eg_I := .inl (110, 1, .iload 3, 0, 0) :: c_Circ_holdPair_111
def c_Circ_holdPair_107 : List eg_I := .inl (107, 3, .getfield 50, 10, 3) :: c_Circ_holdPair_110
def c_Circ_holdPair_104 : List eg_I := .inl (104, 3, .getfield 12, 1, 0) :: c_Circ_holdPair_107
def c_Circ_holdPair_103 : List eg_I := .inl (103, 1, .aload 0, 0, 0) :: c_Circ_holdPair_104
def c_Circ_holdPair_102 : List eg_I := .inl (102, 1, .iconst (1), 0, 0) :: c_Circ_holdPair_103
def c_Circ_holdPair_99 : List eg_I := .inl (99, 3, .getfield 44, 2, 0) :: c_Circ_holdPair_102
def c_Circ_holdPair_98 : List eg_I := .inl (98, 1, .aload 1, 0, 0) :: c_Circ_holdPair_99
def c_Circ_holdPair_97 : List eg_I := .inl (97, 1, .iastore, 0, 0) :: c_Circ_holdPair_98
def c_Circ_holdPair_96 : List eg_I := .inl (96, 1, .iaload, 0, 0) :: c_Circ_holdPair_97
def c_Circ_holdPair_95 : List eg_I := .inl (95, 1, .iload 2, 0, 0) :: c_Circ_holdPair_96
def c_Circ_holdPair_92 : List eg_I := .inl (92, 3, .getfield 50, 10, 3) :: c_Circ_holdPair_95
def c_Circ_holdPair_89 : List eg_I := .inl (89, 3, .getfield 12, 1, 0) :: c_Circ_holdPair_92
def c_Circ_holdPair_88 : List eg_I := .inl (88, 1, .aload 0, 0, 0) :: c_Circ_holdPair_89
def c_Circ_holdPair_87 : List eg_I := .inl (87, 1, .iconst (0), 0, 0) :: c_Circ_holdPair_88
def c_Circ_holdPair_84 : List eg_I := .inl (84, 3, .getfield 44, 2, 0) :: c_Circ_holdPair_87
def c_Circ_holdPair_83 : List eg_I := .inl (83, 1, .aload 1, 0, 0) :: c_Circ_holdPair_84
def c_Circ_holdPair_80 : List eg_I := .inl (80, 3, .ifCond .eq (41), 121, 0) :: c_Circ_holdPair_83
def c_Circ_holdPair_77 : List eg_I := .inr (77, 1, 65, n_Circ_hasNoneOutside, 0, 1, 0, 0) :: c_Circ_holdPair_80
def c_Circ_holdPair_76 : List eg_I := .inl (76, 1, .aload 0, 0, 0) :: c_Circ_holdPair_77
def c_Circ_holdPair_73 : List eg_I := .inr (73, 1, 40, n_Circ_setCircle, 4, 1, 0, 0) :: c_Circ_holdPair_76
def c_Circ_holdPair_70 : List eg_I := .inl (70, 3, .sipush (2), 63, 0) :: c_Circ_holdPair_73
def c_Circ_holdPair_69 : List eg_I := .inl (69, 1, .i2l, 0, 0) :: c_Circ_holdPair_70
def c_Circ_holdPair_68 : List eg_I := .inl (68, 1, .isub, 0, 0) :: c_Circ_holdPair_69
def c_Circ_holdPair_67 : List eg_I := .inl (67, 1, .iaload, 0, 0) :: c_Circ_holdPair_68
def c_Circ_holdPair_66 : List eg_I := .inl (66, 1, .iload 2, 0, 0) :: c_Circ_holdPair_67
def c_Circ_holdPair_63 : List eg_I := .inl (63, 3, .getfield 60, 10, 1) :: c_Circ_holdPair_66
def c_Circ_holdPair_60 : List eg_I := .inl (60, 3, .getfield 12, 1, 0) :: c_Circ_holdPair_63
def c_Circ_holdPair_59 : List eg_I := .inl (59, 1, .aload 0, 0, 0) :: c_Circ_holdPair_60
def c_Circ_holdPair_58 : List eg_I := .inl (58, 1, .iaload, 0, 0) :: c_Circ_holdPair_59
def c_Circ_holdPair_57 : List eg_I := .inl (57, 1, .iload 3, 0, 0) :: c_Circ_holdPair_58
def c_Circ_holdPair_54 : List eg_I := .inl (54, 3, .getfield 60, 10, 1) :: c_Circ_holdPair_57
def c_Circ_holdPair_51 : List eg_I := .inl (51, 3, .getfield 12, 1, 0) :: c_Circ_holdPair_54
def c_Circ_holdPair_50 : List eg_I := .inl (50, 1, .aload 0, 0, 0) :: c_Circ_holdPair_51
def c_Circ_holdPair_49 : List eg_I := .inl (49, 1, .i2l, 0, 0) :: c_Circ_holdPair_50
def c_Circ_holdPair_48 : List eg_I := .inl (48, 1, .isub, 0, 0) :: c_Circ_holdPair_49
def c_Circ_holdPair_47 : List eg_I := .inl (47, 1, .iaload, 0, 0) :: c_Circ_holdPair_48
def c_Circ_holdPair_46 : List eg_I := .inl (46, 1, .iload 2, 0, 0) :: c_Circ_holdPair_47
def c_Circ_holdPair_43 : List eg_I := .inl (43, 3, .getfield 57, 10, 0) :: c_Circ_holdPair_46
def c_Circ_holdPair_40 : List eg_I := .inl (40, 3, .getfield 12, 1, 0) :: c_Circ_holdPair_43
def c_Circ_holdPair_39 : List eg_I := .inl (39, 1, .aload 0, 0, 0) :: c_Circ_holdPair_40
def c_Circ_holdPair_38 : List eg_I := .inl (38, 1, .iaload, 0, 0) :: c_Circ_holdPair_39
def c_Circ_holdPair_37 : List eg_I := .inl (37, 1, .iload 3, 0, 0) :: c_Circ_holdPair_38
def c_Circ_holdPair_34 : List eg_I := .inl (34, 3, .getfield 57, 10, 0) :: c_Circ_holdPair_37
def c_Circ_holdPair_31 : List eg_I := .inl (31, 3, .getfield 12, 1, 0) :: c_Circ_holdPair_34
def c_Circ_holdPair_30 : List eg_I := .inl (30, 1, .aload 0, 0, 0) :: c_Circ_holdPair_31
def c_Circ_holdPair_29 : List eg_I := .inl (29, 1, .iload 2, 0, 0) :: c_Circ_holdPair_30
def c_Circ_holdPair_28 : List eg_I := .inl (28, 1, .aload 0, 0, 0) :: c_Circ_holdPair_29
def c_Circ_holdPair_25 : List eg_I := .inl (25, 3, .if_icmp .ge (102), 127, 0) :: c_Circ_holdPair_28
def c_Circ_holdPair_22 : List eg_I := .inl (22, 3, .getfield 22, 10, 4) :: c_Circ_holdPair_25
def c_Circ_holdPair_19 : List eg_I := .inl (19, 3, .getfield 12, 1, 0) :: c_Circ_holdPair_22
def c_Circ_holdPair_18 : List eg_I := .inl (18, 1, .aload 0, 0, 0) :: c_Circ_holdPair_19
def c_Circ_holdPair_17 : List eg_I := .inl (17, 1, .iload 3, 0, 0) :: c_Circ_holdPair_18
def c_Circ_holdPair_16 : List eg_I := .inl (16, 1, .istore 3, 0, 0) :: z_Circ_holdPair_17
def c_Circ_holdPair_15 : List eg_I := .inl (15, 1, .iadd, 0, 0) :: c_Circ_holdPair_16
def c_Circ_holdPair_14 : List eg_I := .inl (14, 1, .iconst (1), 0, 0) :: c_Circ_holdPair_15
def c_Circ_holdPair_13 : List eg_I := .inl (13, 1, .iload 2, 0, 0) :: c_Circ_holdPair_14
def c_Circ_holdPair_10 : List eg_I := .inl (10, 3, .if_icmp .ge (123), 133, 0) :: c_Circ_holdPair_13
def c_Circ_holdPair_7 : List eg_I := .inl (7, 3, .getfield 22, 10, 4) :: c_Circ_holdPair_10
def c_Circ_holdPair_4 : List eg_I := .inl (4, 3, .getfield 12, 1, 0) :: c_Circ_holdPair_7
def c_Circ_holdPair_3 : List eg_I := .inl (3, 1, .aload 0, 0, 0) :: c_Circ_holdPair_4
def c_Circ_holdPair_2 : List eg_I := .inl (2, 1, .iload 2, 0, 0) :: c_Circ_holdPair_3
def c_Circ_holdPair_1 : List eg_I := .inl (1, 1, .istore 2, 0, 0) :: z_Circ_holdPair_2
def c_Circ_holdPair_0 : List eg_I := .inl (0, 1, .iconst (0), 0, 0) :: c_Circ_holdPair_1
section
variable {rm : Room} {K : Nat → Nat → Nat → eg_Lo → List Value → List eg_E → Prop} {Q : Option Value → List eg_E → Prop} {kc ks : Nat} {loc : eg_Lo} {st : List Value} {h : List eg_E}
theorem s_Circ_holdPair_0  : wps rm K Q c_Circ_holdPair_0 kc ks loc (st) h = wps rm K Q c_Circ_holdPair_1 kc ks loc (.int (0) :: st) h := gk_ic (by decide)
theorem s_Circ_holdPair_1 {x : Int32} : wps rm K Q c_Circ_holdPair_1 kc ks loc (.int x :: st) h = wps rm K Q z_Circ_holdPair_2 kc ks (eg_set1 loc 2 (.int x)) (st) h := gk_istore
theorem s_Circ_holdPair_2 {x : Int32} {l0 l1 : Option Value} {l : eg_Lo} : wps rm K Q c_Circ_holdPair_2 kc ks (l0 :: l1 :: some (.int x) :: l) (st) h = wps rm K Q c_Circ_holdPair_3 kc ks (l0 :: l1 :: some (.int x) :: l) (.int x :: st) h := gk_iload rfl
theorem s_Circ_holdPair_3 {x : Nat} {l : eg_Lo} : wps rm K Q c_Circ_holdPair_3 kc ks (some (.ref x) :: l) (st) h = wps rm K Q c_Circ_holdPair_4 kc ks (some (.ref x) :: l) (.ref x :: st) h := gk_aload rfl
theorem s_Circ_holdPair_4 {x : Nat} : wps rm K Q c_Circ_holdPair_4 kc ks loc (.ref (x + 1) :: st) h = eg_gf h x 1 0 (fun v => wps rm K Q c_Circ_holdPair_7 kc ks loc (v :: st) h) := gk_gf
theorem s_Circ_holdPair_7 {x : Nat} : wps rm K Q c_Circ_holdPair_7 kc ks loc (.ref (x + 1) :: st) h = eg_gf h x 10 4 (fun v => wps rm K Q c_Circ_holdPair_10 kc ks loc (v :: st) h) := gk_gf
theorem s_Circ_holdPair_10 {x y : Int32} : wps rm K Q c_Circ_holdPair_10 kc ks loc (.int y :: .int x :: st) h = ((y ≤ x → K 133 kc ks loc st h) ∧ (¬ y ≤ x → wps rm K Q c_Circ_holdPair_13 kc ks loc (st) h)) := gk_if2_ge
theorem s_Circ_holdPair_13 {x : Int32} {l0 l1 : Option Value} {l : eg_Lo} : wps rm K Q c_Circ_holdPair_13 kc ks (l0 :: l1 :: some (.int x) :: l) (st) h = wps rm K Q c_Circ_holdPair_14 kc ks (l0 :: l1 :: some (.int x) :: l) (.int x :: st) h := gk_iload rfl
theorem s_Circ_holdPair_14  : wps rm K Q c_Circ_holdPair_14 kc ks loc (st) h = wps rm K Q c_Circ_holdPair_15 kc ks loc (.int (1) :: st) h := gk_ic (by decide)
theorem s_Circ_holdPair_15 {x y : Int32} : wps rm K Q c_Circ_holdPair_15 kc ks loc (.int y :: .int x :: st) h = wps rm K Q c_Circ_holdPair_16 kc ks loc (.int (x + y) :: st) h := gk_iadd
theorem s_Circ_holdPair_16 {x : Int32} : wps rm K Q c_Circ_holdPair_16 kc ks loc (.int x :: st) h = wps rm K Q z_Circ_holdPair_17 kc ks (eg_set1 loc 3 (.int x)) (st) h := gk_istore
theorem s_Circ_holdPair_17 {x : Int32} {l0 l1 l2 : Option Value} {l : eg_Lo} : wps rm K Q c_Circ_holdPair_17 kc ks (l0 :: l1 :: l2 :: some (.int x) :: l) (st) h = wps rm K Q c_Circ_holdPair_18 kc ks (l0 :: l1 :: l2 :: some (.int x) :: l) (.int x :: st) h := gk_iload rfl
theorem s_Circ_holdPair_18 {x : Nat} {l : eg_Lo} : wps rm K Q c_Circ_holdPair_18 kc ks (some (.ref x) :: l) (st) h = wps rm K Q c_Circ_holdPair_19 kc ks (some (.ref x) :: l) (.ref x :: st) h := gk_aload rfl
theorem s_Circ_holdPair_19 {x : Nat} : wps rm K Q c_Circ_holdPair_19 kc ks loc (.ref (x + 1) :: st) h = eg_gf h x 1 0 (fun v => wps rm K Q c_Circ_holdPair_22 kc ks loc (v :: st) h) := gk_gf
theorem s_Circ_holdPair_22 {x : Nat} : wps rm K Q c_Circ_holdPair_22 kc ks loc (.ref (x + 1) :: st) h = eg_gf h x 10 4 (fun v => wps rm K Q c_Circ_holdPair_25 kc ks loc (v :: st) h) := gk_gf
theorem s_Circ_holdPair_25 {x y : Int32} : wps rm K Q c_Circ_holdPair_25 kc ks loc (.int y :: .int x :: st) h = ((y ≤ x → K 127 kc ks loc st h) ∧ (¬ y ≤ x → wps rm K Q c_Circ_holdPair_28 kc ks loc (st) h)) := gk_if2_ge
theorem s_Circ_holdPair_28 {x : Nat} {l : eg_Lo} : wps rm K Q c_Circ_holdPair_28 kc ks (some (.ref x) :: l) (st) h = wps rm K Q c_Circ_holdPair_29 kc ks (some (.ref x) :: l) (.ref x :: st) h := gk_aload rfl
theorem s_Circ_holdPair_29 {x : Int32} {l0 l1 : Option Value} {l : eg_Lo} : wps rm K Q c_Circ_holdPair_29 kc ks (l0 :: l1 :: some (.int x) :: l) (st) h = wps rm K Q c_Circ_holdPair_30 kc ks (l0 :: l1 :: some (.int x) :: l) (.int x :: st) h := gk_iload rfl
theorem s_Circ_holdPair_30 {x : Nat} {l : eg_Lo} : wps rm K Q c_Circ_holdPair_30 kc ks (some (.ref x) :: l) (st) h = wps rm K Q c_Circ_holdPair_31 kc ks (some (.ref x) :: l) (.ref x :: st) h := gk_aload rfl
theorem s_Circ_holdPair_31 {x : Nat} : wps rm K Q c_Circ_holdPair_31 kc ks loc (.ref (x + 1) :: st) h = eg_gf h x 1 0 (fun v => wps rm K Q c_Circ_holdPair_34 kc ks loc (v :: st) h) := gk_gf
theorem s_Circ_holdPair_34 {x : Nat} : wps rm K Q c_Circ_holdPair_34 kc ks loc (.ref (x + 1) :: st) h = eg_gf h x 10 0 (fun v => wps rm K Q c_Circ_holdPair_37 kc ks loc (v :: st) h) := gk_gf
theorem s_Circ_holdPair_37 {x : Int32} {l0 l1 l2 : Option Value} {l : eg_Lo} : wps rm K Q c_Circ_holdPair_37 kc ks (l0 :: l1 :: l2 :: some (.int x) :: l) (st) h = wps rm K Q c_Circ_holdPair_38 kc ks (l0 :: l1 :: l2 :: some (.int x) :: l) (.int x :: st) h := gk_iload rfl
theorem s_Circ_holdPair_38 {x : Nat} {i : Int32} : wps rm K Q c_Circ_holdPair_38 kc ks loc (.int i :: .ref (x + 1) :: st) h = eg_ia h x i (fun v => wps rm K Q c_Circ_holdPair_39 kc ks loc (.int v :: st) h) := gk_iaload
theorem s_Circ_holdPair_39 {x : Nat} {l : eg_Lo} : wps rm K Q c_Circ_holdPair_39 kc ks (some (.ref x) :: l) (st) h = wps rm K Q c_Circ_holdPair_40 kc ks (some (.ref x) :: l) (.ref x :: st) h := gk_aload rfl
theorem s_Circ_holdPair_40 {x : Nat} : wps rm K Q c_Circ_holdPair_40 kc ks loc (.ref (x + 1) :: st) h = eg_gf h x 1 0 (fun v => wps rm K Q c_Circ_holdPair_43 kc ks loc (v :: st) h) := gk_gf
theorem s_Circ_holdPair_43 {x : Nat} : wps rm K Q c_Circ_holdPair_43 kc ks loc (.ref (x + 1) :: st) h = eg_gf h x 10 0 (fun v => wps rm K Q c_Circ_holdPair_46 kc ks loc (v :: st) h) := gk_gf
theorem s_Circ_holdPair_46 {x : Int32} {l0 l1 : Option Value} {l : eg_Lo} : wps rm K Q c_Circ_holdPair_46 kc ks (l0 :: l1 :: some (.int x) :: l) (st) h = wps rm K Q c_Circ_holdPair_47 kc ks (l0 :: l1 :: some (.int x) :: l) (.int x :: st) h := gk_iload rfl
theorem s_Circ_holdPair_47 {x : Nat} {i : Int32} : wps rm K Q c_Circ_holdPair_47 kc ks loc (.int i :: .ref (x + 1) :: st) h = eg_ia h x i (fun v => wps rm K Q c_Circ_holdPair_48 kc ks loc (.int v :: st) h) := gk_iaload
theorem s_Circ_holdPair_48 {x y : Int32} : wps rm K Q c_Circ_holdPair_48 kc ks loc (.int y :: .int x :: st) h = wps rm K Q c_Circ_holdPair_49 kc ks loc (.int (x - y) :: st) h := gk_isub
theorem s_Circ_holdPair_49 {x : Int32} : wps rm K Q c_Circ_holdPair_49 kc ks loc (.int x :: st) h = wps rm K Q c_Circ_holdPair_50 kc ks loc (.long (x.toInt64) :: st) h := gk_i2l
theorem s_Circ_holdPair_50 {x : Nat} {l : eg_Lo} : wps rm K Q c_Circ_holdPair_50 kc ks (some (.ref x) :: l) (st) h = wps rm K Q c_Circ_holdPair_51 kc ks (some (.ref x) :: l) (.ref x :: st) h := gk_aload rfl
theorem s_Circ_holdPair_51 {x : Nat} : wps rm K Q c_Circ_holdPair_51 kc ks loc (.ref (x + 1) :: st) h = eg_gf h x 1 0 (fun v => wps rm K Q c_Circ_holdPair_54 kc ks loc (v :: st) h) := gk_gf
theorem s_Circ_holdPair_54 {x : Nat} : wps rm K Q c_Circ_holdPair_54 kc ks loc (.ref (x + 1) :: st) h = eg_gf h x 10 1 (fun v => wps rm K Q c_Circ_holdPair_57 kc ks loc (v :: st) h) := gk_gf
theorem s_Circ_holdPair_57 {x : Int32} {l0 l1 l2 : Option Value} {l : eg_Lo} : wps rm K Q c_Circ_holdPair_57 kc ks (l0 :: l1 :: l2 :: some (.int x) :: l) (st) h = wps rm K Q c_Circ_holdPair_58 kc ks (l0 :: l1 :: l2 :: some (.int x) :: l) (.int x :: st) h := gk_iload rfl
theorem s_Circ_holdPair_58 {x : Nat} {i : Int32} : wps rm K Q c_Circ_holdPair_58 kc ks loc (.int i :: .ref (x + 1) :: st) h = eg_ia h x i (fun v => wps rm K Q c_Circ_holdPair_59 kc ks loc (.int v :: st) h) := gk_iaload
theorem s_Circ_holdPair_59 {x : Nat} {l : eg_Lo} : wps rm K Q c_Circ_holdPair_59 kc ks (some (.ref x) :: l) (st) h = wps rm K Q c_Circ_holdPair_60 kc ks (some (.ref x) :: l) (.ref x :: st) h := gk_aload rfl
theorem s_Circ_holdPair_60 {x : Nat} : wps rm K Q c_Circ_holdPair_60 kc ks loc (.ref (x + 1) :: st) h = eg_gf h x 1 0 (fun v => wps rm K Q c_Circ_holdPair_63 kc ks loc (v :: st) h) := gk_gf
theorem s_Circ_holdPair_63 {x : Nat} : wps rm K Q c_Circ_holdPair_63 kc ks loc (.ref (x + 1) :: st) h = eg_gf h x 10 1 (fun v => wps rm K Q c_Circ_holdPair_66 kc ks loc (v :: st) h) := gk_gf
theorem s_Circ_holdPair_66 {x : Int32} {l0 l1 : Option Value} {l : eg_Lo} : wps rm K Q c_Circ_holdPair_66 kc ks (l0 :: l1 :: some (.int x) :: l) (st) h = wps rm K Q c_Circ_holdPair_67 kc ks (l0 :: l1 :: some (.int x) :: l) (.int x :: st) h := gk_iload rfl
theorem s_Circ_holdPair_67 {x : Nat} {i : Int32} : wps rm K Q c_Circ_holdPair_67 kc ks loc (.int i :: .ref (x + 1) :: st) h = eg_ia h x i (fun v => wps rm K Q c_Circ_holdPair_68 kc ks loc (.int v :: st) h) := gk_iaload
theorem s_Circ_holdPair_68 {x y : Int32} : wps rm K Q c_Circ_holdPair_68 kc ks loc (.int y :: .int x :: st) h = wps rm K Q c_Circ_holdPair_69 kc ks loc (.int (x - y) :: st) h := gk_isub
theorem s_Circ_holdPair_69 {x : Int32} : wps rm K Q c_Circ_holdPair_69 kc ks loc (.int x :: st) h = wps rm K Q c_Circ_holdPair_70 kc ks loc (.long (x.toInt64) :: st) h := gk_i2l
theorem s_Circ_holdPair_70  : wps rm K Q c_Circ_holdPair_70 kc ks loc (st) h = wps rm K Q c_Circ_holdPair_73 kc ks loc (.long (2) :: st) h := gk_lc (by decide)
theorem s_Circ_holdPair_73  {a1 : Value} {a2 : Value} {a3 : Value} {a4 : Value} {x : Nat} : wps rm K Q c_Circ_holdPair_73 kc ks loc (a4 :: a3 :: a2 :: a1 :: .ref (x + 1) :: st) h = (eg_cls h x 1 ∧ st.length ≤ 4 ∧ eg_Cs n_Circ_setCircle (.ref (x + 1) :: [a1, a2, a3, a4]) h (fun v h9 => wps rm K Q c_Circ_holdPair_76 kc ks loc (v.toList ++ st) h9)) := eg_c1_4
theorem s_Circ_holdPair_76 {x : Nat} {l : eg_Lo} : wps rm K Q c_Circ_holdPair_76 kc ks (some (.ref x) :: l) (st) h = wps rm K Q c_Circ_holdPair_77 kc ks (some (.ref x) :: l) (.ref x :: st) h := gk_aload rfl
theorem s_Circ_holdPair_77  {x : Nat} : wps rm K Q c_Circ_holdPair_77 kc ks loc (.ref (x + 1) :: st) h = (eg_cls h x 1 ∧ st.length ≤ 4 ∧ eg_Cs n_Circ_hasNoneOutside (.ref (x + 1) :: []) h (fun v h9 => wps rm K Q c_Circ_holdPair_80 kc ks loc (v.toList ++ st) h9)) := eg_c1_0
theorem s_Circ_holdPair_80 {x : Int32} : wps rm K Q c_Circ_holdPair_80 kc ks loc (.int x :: st) h = ((x = 0 → K 121 kc ks loc st h) ∧ (¬ x = 0 → wps rm K Q c_Circ_holdPair_83 kc ks loc (st) h)) := gk_if1_eq
theorem s_Circ_holdPair_83 {x : Nat} {l0 : Option Value} {l : eg_Lo} : wps rm K Q c_Circ_holdPair_83 kc ks (l0 :: some (.ref x) :: l) (st) h = wps rm K Q c_Circ_holdPair_84 kc ks (l0 :: some (.ref x) :: l) (.ref x :: st) h := gk_aload rfl
theorem s_Circ_holdPair_84 {x : Nat} : wps rm K Q c_Circ_holdPair_84 kc ks loc (.ref (x + 1) :: st) h = eg_gf h x 2 0 (fun v => wps rm K Q c_Circ_holdPair_87 kc ks loc (v :: st) h) := gk_gf
theorem s_Circ_holdPair_87  : wps rm K Q c_Circ_holdPair_87 kc ks loc (st) h = wps rm K Q c_Circ_holdPair_88 kc ks loc (.int (0) :: st) h := gk_ic (by decide)
theorem s_Circ_holdPair_88 {x : Nat} {l : eg_Lo} : wps rm K Q c_Circ_holdPair_88 kc ks (some (.ref x) :: l) (st) h = wps rm K Q c_Circ_holdPair_89 kc ks (some (.ref x) :: l) (.ref x :: st) h := gk_aload rfl
theorem s_Circ_holdPair_89 {x : Nat} : wps rm K Q c_Circ_holdPair_89 kc ks loc (.ref (x + 1) :: st) h = eg_gf h x 1 0 (fun v => wps rm K Q c_Circ_holdPair_92 kc ks loc (v :: st) h) := gk_gf
theorem s_Circ_holdPair_92 {x : Nat} : wps rm K Q c_Circ_holdPair_92 kc ks loc (.ref (x + 1) :: st) h = eg_gf h x 10 3 (fun v => wps rm K Q c_Circ_holdPair_95 kc ks loc (v :: st) h) := gk_gf
theorem s_Circ_holdPair_95 {x : Int32} {l0 l1 : Option Value} {l : eg_Lo} : wps rm K Q c_Circ_holdPair_95 kc ks (l0 :: l1 :: some (.int x) :: l) (st) h = wps rm K Q c_Circ_holdPair_96 kc ks (l0 :: l1 :: some (.int x) :: l) (.int x :: st) h := gk_iload rfl
theorem s_Circ_holdPair_96 {x : Nat} {i : Int32} : wps rm K Q c_Circ_holdPair_96 kc ks loc (.int i :: .ref (x + 1) :: st) h = eg_ia h x i (fun v => wps rm K Q c_Circ_holdPair_97 kc ks loc (.int v :: st) h) := gk_iaload
theorem s_Circ_holdPair_97 {x : Nat} {i : Int32} {v : Int32} : wps rm K Q c_Circ_holdPair_97 kc ks loc (.int v :: .int i :: .ref (x + 1) :: st) h = eg_is h x i v (fun h9 => wps rm K Q c_Circ_holdPair_98 kc ks loc (st) h9) := gk_iastore
theorem s_Circ_holdPair_98 {x : Nat} {l0 : Option Value} {l : eg_Lo} : wps rm K Q c_Circ_holdPair_98 kc ks (l0 :: some (.ref x) :: l) (st) h = wps rm K Q c_Circ_holdPair_99 kc ks (l0 :: some (.ref x) :: l) (.ref x :: st) h := gk_aload rfl
theorem s_Circ_holdPair_99 {x : Nat} : wps rm K Q c_Circ_holdPair_99 kc ks loc (.ref (x + 1) :: st) h = eg_gf h x 2 0 (fun v => wps rm K Q c_Circ_holdPair_102 kc ks loc (v :: st) h) := gk_gf
theorem s_Circ_holdPair_102  : wps rm K Q c_Circ_holdPair_102 kc ks loc (st) h = wps rm K Q c_Circ_holdPair_103 kc ks loc (.int (1) :: st) h := gk_ic (by decide)
theorem s_Circ_holdPair_103 {x : Nat} {l : eg_Lo} : wps rm K Q c_Circ_holdPair_103 kc ks (some (.ref x) :: l) (st) h = wps rm K Q c_Circ_holdPair_104 kc ks (some (.ref x) :: l) (.ref x :: st) h := gk_aload rfl
theorem s_Circ_holdPair_104 {x : Nat} : wps rm K Q c_Circ_holdPair_104 kc ks loc (.ref (x + 1) :: st) h = eg_gf h x 1 0 (fun v => wps rm K Q c_Circ_holdPair_107 kc ks loc (v :: st) h) := gk_gf
theorem s_Circ_holdPair_107 {x : Nat} : wps rm K Q c_Circ_holdPair_107 kc ks loc (.ref (x + 1) :: st) h = eg_gf h x 10 3 (fun v => wps rm K Q c_Circ_holdPair_110 kc ks loc (v :: st) h) := gk_gf
theorem s_Circ_holdPair_110 {x : Int32} {l0 l1 l2 : Option Value} {l : eg_Lo} : wps rm K Q c_Circ_holdPair_110 kc ks (l0 :: l1 :: l2 :: some (.int x) :: l) (st) h = wps rm K Q c_Circ_holdPair_111 kc ks (l0 :: l1 :: l2 :: some (.int x) :: l) (.int x :: st) h := gk_iload rfl
theorem s_Circ_holdPair_111 {x : Nat} {i : Int32} : wps rm K Q c_Circ_holdPair_111 kc ks loc (.int i :: .ref (x + 1) :: st) h = eg_ia h x i (fun v => wps rm K Q c_Circ_holdPair_112 kc ks loc (.int v :: st) h) := gk_iaload
theorem s_Circ_holdPair_112 {x : Nat} {i : Int32} {v : Int32} : wps rm K Q c_Circ_holdPair_112 kc ks loc (.int v :: .int i :: .ref (x + 1) :: st) h = eg_is h x i v (fun h9 => wps rm K Q c_Circ_holdPair_113 kc ks loc (st) h9) := gk_iastore
theorem s_Circ_holdPair_113 {x : Nat} {l : eg_Lo} : wps rm K Q c_Circ_holdPair_113 kc ks (some (.ref x) :: l) (st) h = wps rm K Q c_Circ_holdPair_114 kc ks (some (.ref x) :: l) (.ref x :: st) h := gk_aload rfl
theorem s_Circ_holdPair_114 {x : Nat} {l0 : Option Value} {l : eg_Lo} : wps rm K Q c_Circ_holdPair_114 kc ks (l0 :: some (.ref x) :: l) (st) h = wps rm K Q c_Circ_holdPair_115 kc ks (l0 :: some (.ref x) :: l) (.ref x :: st) h := gk_aload rfl
theorem s_Circ_holdPair_115  : wps rm K Q c_Circ_holdPair_115 kc ks loc (st) h = wps rm K Q c_Circ_holdPair_116 kc ks loc (.int (2) :: st) h := gk_ic (by decide)
theorem s_Circ_holdPair_116  {a1 : Value} {a2 : Value} {x : Nat} : wps rm K Q c_Circ_holdPair_116 kc ks loc (a2 :: a1 :: .ref (x + 1) :: st) h = (eg_cls h x 1 ∧ st.length ≤ 4 ∧ eg_Cs n_Circ_finish (.ref (x + 1) :: [a1, a2]) h (fun v h9 => wps rm K Q c_Circ_holdPair_119 kc ks loc (v.toList ++ st) h9)) := eg_c1_2
theorem s_Circ_holdPair_119  : wps rm K Q c_Circ_holdPair_119 kc ks loc (st) h = wps rm K Q c_Circ_holdPair_120 kc ks loc (.int (1) :: st) h := gk_ic (by decide)
theorem s_Circ_holdPair_120 {x : Int32} : wps rm K Q c_Circ_holdPair_120 kc ks loc ([.int x]) h = (kc = rm.cells ∧ ((1 : Nat) = 1 → x = 0 ∨ x = 1) ∧ Q (some (.int x)) h) := gk_iret
theorem s_Circ_holdPair_121 {x : Int32} {l0 l1 l2 : Option Value} {lz : eg_Lo} : wps rm K Q c_Circ_holdPair_121 kc ks (l0 :: l1 :: l2 :: some (.int x) :: lz) (st) h = wps rm K Q c_Circ_holdPair_124 kc ks (eg_set1 (l0 :: l1 :: l2 :: some (.int x) :: lz) 3 (.int (x + (1)))) (st) h := gk_iinc rfl (by decide)
theorem s_Circ_holdPair_124  : wps rm K Q c_Circ_holdPair_124 kc ks loc (st) h = K 17 kc ks loc st h := gk_goto
theorem s_Circ_holdPair_127 {x : Int32} {l0 l1 : Option Value} {lz : eg_Lo} : wps rm K Q c_Circ_holdPair_127 kc ks (l0 :: l1 :: some (.int x) :: lz) (st) h = wps rm K Q c_Circ_holdPair_130 kc ks (eg_set1 (l0 :: l1 :: some (.int x) :: lz) 2 (.int (x + (1)))) (st) h := gk_iinc rfl (by decide)
theorem s_Circ_holdPair_130  : wps rm K Q c_Circ_holdPair_130 kc ks loc (st) h = K 2 kc ks loc st h := gk_goto
theorem s_Circ_holdPair_133  : wps rm K Q c_Circ_holdPair_133 kc ks loc (st) h = wps rm K Q c_Circ_holdPair_134 kc ks loc (.int (0) :: st) h := gk_ic (by decide)
theorem s_Circ_holdPair_134 {x : Int32} : wps rm K Q c_Circ_holdPair_134 kc ks loc ([.int x]) h = (kc = rm.cells ∧ ((1 : Nat) = 1 → x = 0 ∨ x = 1) ∧ Q (some (.int x)) h) := gk_iret
theorem sz_Circ_holdPair_2 : wps rm K Q z_Circ_holdPair_2 kc ks loc st h = K 2 kc ks loc st h := gk_nop
theorem sz_Circ_holdPair_17 : wps rm K Q z_Circ_holdPair_17 kc ks loc st h = K 17 kc ks loc st h := gk_nop
def T_Circ_holdPair : List (Nat × List eg_I) := [(121, c_Circ_holdPair_121), (127, c_Circ_holdPair_127), (133, c_Circ_holdPair_133)]
theorem j_Circ_holdPair_121 {R : Nat → Nat → Nat → eg_Lo → List Value → List eg_E → Prop} {f pc0 : Nat} : eg_run rm R Q T_Circ_holdPair (f + 1) 121 kc ks loc st h = wps rm (eg_run rm R Q T_Circ_holdPair f) Q c_Circ_holdPair_121 kc ks loc st h := rfl
theorem j_Circ_holdPair_127 {R : Nat → Nat → Nat → eg_Lo → List Value → List eg_E → Prop} {f pc0 : Nat} : eg_run rm R Q T_Circ_holdPair (f + 1) 127 kc ks loc st h = wps rm (eg_run rm R Q T_Circ_holdPair f) Q c_Circ_holdPair_127 kc ks loc st h := rfl
theorem j_Circ_holdPair_133 {R : Nat → Nat → Nat → eg_Lo → List Value → List eg_E → Prop} {f pc0 : Nat} : eg_run rm R Q T_Circ_holdPair (f + 1) 133 kc ks loc st h = wps rm (eg_run rm R Q T_Circ_holdPair f) Q c_Circ_holdPair_133 kc ks loc st h := rfl
theorem j_Circ_holdPair_2 {R : Nat → Nat → Nat → eg_Lo → List Value → List eg_E → Prop} {f pc0 : Nat} : eg_run rm R Q T_Circ_holdPair (f + 1) 2 kc ks loc st h = R 2 kc ks loc st h := rfl
theorem j_Circ_holdPair_17 {R : Nat → Nat → Nat → eg_Lo → List Value → List eg_E → Prop} {f pc0 : Nat} : eg_run rm R Q T_Circ_holdPair (f + 1) 17 kc ks loc st h = R 17 kc ks loc st h := rfl
end
theorem y_Circ_holdPair_0 : eg_seq m_Circ_holdPair 0 c_Circ_holdPair_0 = true := by decide +kernel
theorem y_Circ_holdPair_2 : eg_seq m_Circ_holdPair 2 c_Circ_holdPair_2 = true := by decide +kernel
theorem y_Circ_holdPair_17 : eg_seq m_Circ_holdPair 17 c_Circ_holdPair_17 = true := by decide +kernel
theorem y_Circ_holdPair_121 : eg_seq m_Circ_holdPair 121 c_Circ_holdPair_121 = true := by decide +kernel
theorem y_Circ_holdPair_127 : eg_seq m_Circ_holdPair 127 c_Circ_holdPair_127 = true := by decide +kernel
theorem y_Circ_holdPair_133 : eg_seq m_Circ_holdPair 133 c_Circ_holdPair_133 = true := by decide +kernel
theorem q_Circ_holdPair : ∀ q ∈ T_Circ_holdPair, eg_seq m_Circ_holdPair q.1 q.2 = true := by
  intro q hq
  simp only [T_Circ_holdPair, List.mem_cons, List.not_mem_nil, or_false] at hq
  rcases hq with rfl | rfl | rfl
  · exact y_Circ_holdPair_121
  · exact y_Circ_holdPair_127
  · exact y_Circ_holdPair_133
theorem b_Circ_holdPair {as : List Value} {h : List eg_E} {Q : Option Value → List eg_E → Prop} (hf : (eg_fl as).length ≤ 4) (hw : wps (eg_rm m_Circ_holdPair) (eg_run (eg_rm m_Circ_holdPair) (eg_R m_Circ_holdPair Q (h.length + 0)) Q T_Circ_holdPair 5) Q c_Circ_holdPair_0 0 0 (eg_entry 4 as) [] h) : eg_Runs n_Circ_holdPair as h Q := eg_begin2 (d := m_Circ_holdPair) rfl (by decide) y_Circ_holdPair_0 q_Circ_holdPair hf hw
theorem p_Circ_holdPair_2 {Q : Option Value → List eg_E → Prop} {n0 kc ks : Nat} {loc : eg_Lo} {st : List Value} {h : List eg_E} (hw : wps (eg_rm m_Circ_holdPair) (eg_run (eg_rm m_Circ_holdPair) (eg_R m_Circ_holdPair Q n0) Q T_Circ_holdPair 5) Q c_Circ_holdPair_2 kc ks loc st h) : eg_R m_Circ_holdPair Q n0 2 kc ks loc st h := eg_go2 y_Circ_holdPair_2 q_Circ_holdPair hw
theorem p_Circ_holdPair_17 {Q : Option Value → List eg_E → Prop} {n0 kc ks : Nat} {loc : eg_Lo} {st : List Value} {h : List eg_E} (hw : wps (eg_rm m_Circ_holdPair) (eg_run (eg_rm m_Circ_holdPair) (eg_R m_Circ_holdPair Q n0) Q T_Circ_holdPair 5) Q c_Circ_holdPair_17 kc ks loc st h) : eg_R m_Circ_holdPair Q n0 17 kc ks loc st h := eg_go2 y_Circ_holdPair_17 q_Circ_holdPair hw
/-! ===== Circ_holdThree ===== -/
def z_Circ_holdThree_13 : List eg_I := [.inl (13, 0, .nop, 0, 0)]
def c_Circ_holdThree_78 : List eg_I := .inl (78, 1, .ireturn, 0, 1) :: []
def c_Circ_holdThree_77 : List eg_I := .inl (77, 1, .iconst (1), 0, 0) :: c_Circ_holdThree_78
def c_Circ_holdThree_74 : List eg_I := .inr (74, 1, 53, n_Circ_finish, 2, 1, 0, 0) :: c_Circ_holdThree_77
def c_Circ_holdThree_73 : List eg_I := .inl (73, 1, .iload 2, 0, 0) :: c_Circ_holdThree_74
def c_Circ_holdThree_72 : List eg_I := .inl (72, 1, .aload 1, 0, 0) :: c_Circ_holdThree_73
def c_Circ_holdThree_71 : List eg_I := .inl (71, 1, .aload 0, 0, 0) :: c_Circ_holdThree_72
def c_Circ_holdThree_68 : List eg_I := .inl (68, 3, .goto (-55), 13, 0) :: []
def c_Circ_holdThree_65 : List eg_I := .inl (65, 3, .iinc 3 (1), 0, 0) :: c_Circ_holdThree_68
def c_Circ_holdThree_62 : List eg_I := .inl (62, 3, .iinc 2 (1), 0, 0) :: c_Circ_holdThree_65
def c_Circ_holdThree_61 : List eg_I := .inl (61, 1, .iastore, 0, 0) :: c_Circ_holdThree_62
def c_Circ_holdThree_60 : List eg_I := .inl (60, 1, .iaload, 0, 0) :: c_Circ_holdThree_61
def c_Circ_holdThree_59 : List eg_I := .inl (59, 1, .iload 3, 0, 0) :: c_Circ_holdThree_60
def c_Circ_holdThree_56 : List eg_I := .inl (56, 3, .getfield 50, 10, 3) :: c_Circ_holdThree_59
def c_Circ_holdThree_53 : List eg_I := .inl (53, 3, .getfield 12, 1, 0) :: c_Circ_holdThree_56
def c_Circ_holdThree_52 : List eg_I := .inl (52, 1, .aload 0, 0, 0) :: c_Circ_holdThree_53
def c_Circ_holdThree_51 : List eg_I := .inl (51, 1, .iload 2, 0, 0) :: c_Circ_holdThree_52
def c_Circ_holdThree_48 : List eg_I := .inl (48, 3, .getfield 44, 2, 0) :: c_Circ_holdThree_51
def c_Circ_holdThree_47 : List eg_I := .inl (47, 1, .aload 1, 0, 0) :: c_Circ_holdThree_48
def c_Circ_holdThree_44 : List eg_I := .inl (44, 3, .ifCond .eq (21), 65, 0) :: c_Circ_holdThree_47
def c_Circ_holdThree_41 : List eg_I := .inr (41, 1, 76, n_Circ_isNewPlace, 1, 1, 0, 0) :: c_Circ_holdThree_44
def c_Circ_holdThree_40 : List eg_I := .inl (40, 1, .iload 3, 0, 0) :: c_Circ_holdThree_41
def c_Circ_holdThree_39 : List eg_I := .inl (39, 1, .aload 0, 0, 0) :: c_Circ_holdThree_40
def c_Circ_holdThree_36 : List eg_I := .inl (36, 3, .ifCond .ne (29), 65, 0) :: c_Circ_holdThree_39
def c_Circ_holdThree_35 : List eg_I := .inl (35, 1, .lcmp, 0, 0) :: c_Circ_holdThree_36
def c_Circ_holdThree_34 : List eg_I := .inl (34, 1, .sipush (0), 0, 0) :: c_Circ_holdThree_35
def c_Circ_holdThree_31 : List eg_I := .inr (31, 1, 72, n_Circ_outside, 1, 1, 0, 0) :: c_Circ_holdThree_34
def c_Circ_holdThree_30 : List eg_I := .inl (30, 1, .iload 3, 0, 0) :: c_Circ_holdThree_31
def c_Circ_holdThree_29 : List eg_I := .inl (29, 1, .aload 0, 0, 0) :: c_Circ_holdThree_30
def c_Circ_holdThree_26 : List eg_I := .inl (26, 3, .if_icmp .ge (45), 71, 0) :: c_Circ_holdThree_29
def c_Circ_holdThree_25 : List eg_I := .inl (25, 1, .iconst (3), 0, 0) :: c_Circ_holdThree_26
def c_Circ_holdThree_24 : List eg_I := .inl (24, 1, .iload 2, 0, 0) :: c_Circ_holdThree_25
def c_Circ_holdThree_21 : List eg_I := .inl (21, 3, .if_icmp .ge (50), 71, 0) :: c_Circ_holdThree_24
def c_Circ_holdThree_18 : List eg_I := .inl (18, 3, .getfield 22, 10, 4) :: c_Circ_holdThree_21
def c_Circ_holdThree_15 : List eg_I := .inl (15, 3, .getfield 12, 1, 0) :: c_Circ_holdThree_18
def c_Circ_holdThree_14 : List eg_I := .inl (14, 1, .aload 0, 0, 0) :: c_Circ_holdThree_15
def c_Circ_holdThree_13 : List eg_I := .inl (13, 1, .iload 3, 0, 0) :: c_Circ_holdThree_14
def c_Circ_holdThree_12 : List eg_I := .inl (12, 1, .istore 3, 0, 0) :: z_Circ_holdThree_13
def c_Circ_holdThree_11 : List eg_I := .inl (11, 1, .iconst (0), 0, 0) :: c_Circ_holdThree_12
def c_Circ_holdThree_10 : List eg_I := .inl (10, 1, .istore 2, 0, 0) :: c_Circ_holdThree_11
def c_Circ_holdThree_9 : List eg_I := .inl (9, 1, .iconst (0), 0, 0) :: c_Circ_holdThree_10
def c_Circ_holdThree_8 : List eg_I := .inl (8, 1, .ireturn, 0, 1) :: []
def c_Circ_holdThree_7 : List eg_I := .inl (7, 1, .iconst (0), 0, 0) :: c_Circ_holdThree_8
def c_Circ_holdThree_4 : List eg_I := .inl (4, 3, .ifCond .ne (5), 9, 0) :: c_Circ_holdThree_7
def c_Circ_holdThree_1 : List eg_I := .inr (1, 1, 69, n_Circ_findSharpThree, 0, 1, 0, 0) :: c_Circ_holdThree_4
def c_Circ_holdThree_0 : List eg_I := .inl (0, 1, .aload 0, 0, 0) :: c_Circ_holdThree_1
section
variable {rm : Room} {K : Nat → Nat → Nat → eg_Lo → List Value → List eg_E → Prop} {Q : Option Value → List eg_E → Prop} {kc ks : Nat} {loc : eg_Lo} {st : List Value} {h : List eg_E}
theorem s_Circ_holdThree_0 {x : Nat} {l : eg_Lo} : wps rm K Q c_Circ_holdThree_0 kc ks (some (.ref x) :: l) (st) h = wps rm K Q c_Circ_holdThree_1 kc ks (some (.ref x) :: l) (.ref x :: st) h := gk_aload rfl
theorem s_Circ_holdThree_1  {x : Nat} : wps rm K Q c_Circ_holdThree_1 kc ks loc (.ref (x + 1) :: st) h = (eg_cls h x 1 ∧ st.length ≤ 4 ∧ eg_Cs n_Circ_findSharpThree (.ref (x + 1) :: []) h (fun v h9 => wps rm K Q c_Circ_holdThree_4 kc ks loc (v.toList ++ st) h9)) := eg_c1_0
theorem s_Circ_holdThree_4 {x : Int32} : wps rm K Q c_Circ_holdThree_4 kc ks loc (.int x :: st) h = ((¬ x = 0 → K 9 kc ks loc st h) ∧ (x = 0 → wps rm K Q c_Circ_holdThree_7 kc ks loc (st) h)) := gk_if1_ne
theorem s_Circ_holdThree_7  : wps rm K Q c_Circ_holdThree_7 kc ks loc (st) h = wps rm K Q c_Circ_holdThree_8 kc ks loc (.int (0) :: st) h := gk_ic (by decide)
theorem s_Circ_holdThree_8 {x : Int32} : wps rm K Q c_Circ_holdThree_8 kc ks loc ([.int x]) h = (kc = rm.cells ∧ ((1 : Nat) = 1 → x = 0 ∨ x = 1) ∧ Q (some (.int x)) h) := gk_iret
theorem s_Circ_holdThree_9  : wps rm K Q c_Circ_holdThree_9 kc ks loc (st) h = wps rm K Q c_Circ_holdThree_10 kc ks loc (.int (0) :: st) h := gk_ic (by decide)
theorem s_Circ_holdThree_10 {x : Int32} : wps rm K Q c_Circ_holdThree_10 kc ks loc (.int x :: st) h = wps rm K Q c_Circ_holdThree_11 kc ks (eg_set1 loc 2 (.int x)) (st) h := gk_istore
theorem s_Circ_holdThree_11  : wps rm K Q c_Circ_holdThree_11 kc ks loc (st) h = wps rm K Q c_Circ_holdThree_12 kc ks loc (.int (0) :: st) h := gk_ic (by decide)
theorem s_Circ_holdThree_12 {x : Int32} : wps rm K Q c_Circ_holdThree_12 kc ks loc (.int x :: st) h = wps rm K Q z_Circ_holdThree_13 kc ks (eg_set1 loc 3 (.int x)) (st) h := gk_istore
theorem s_Circ_holdThree_13 {x : Int32} {l0 l1 l2 : Option Value} {l : eg_Lo} : wps rm K Q c_Circ_holdThree_13 kc ks (l0 :: l1 :: l2 :: some (.int x) :: l) (st) h = wps rm K Q c_Circ_holdThree_14 kc ks (l0 :: l1 :: l2 :: some (.int x) :: l) (.int x :: st) h := gk_iload rfl
theorem s_Circ_holdThree_14 {x : Nat} {l : eg_Lo} : wps rm K Q c_Circ_holdThree_14 kc ks (some (.ref x) :: l) (st) h = wps rm K Q c_Circ_holdThree_15 kc ks (some (.ref x) :: l) (.ref x :: st) h := gk_aload rfl
theorem s_Circ_holdThree_15 {x : Nat} : wps rm K Q c_Circ_holdThree_15 kc ks loc (.ref (x + 1) :: st) h = eg_gf h x 1 0 (fun v => wps rm K Q c_Circ_holdThree_18 kc ks loc (v :: st) h) := gk_gf
theorem s_Circ_holdThree_18 {x : Nat} : wps rm K Q c_Circ_holdThree_18 kc ks loc (.ref (x + 1) :: st) h = eg_gf h x 10 4 (fun v => wps rm K Q c_Circ_holdThree_21 kc ks loc (v :: st) h) := gk_gf
theorem s_Circ_holdThree_21 {x y : Int32} : wps rm K Q c_Circ_holdThree_21 kc ks loc (.int y :: .int x :: st) h = ((y ≤ x → K 71 kc ks loc st h) ∧ (¬ y ≤ x → wps rm K Q c_Circ_holdThree_24 kc ks loc (st) h)) := gk_if2_ge
theorem s_Circ_holdThree_24 {x : Int32} {l0 l1 : Option Value} {l : eg_Lo} : wps rm K Q c_Circ_holdThree_24 kc ks (l0 :: l1 :: some (.int x) :: l) (st) h = wps rm K Q c_Circ_holdThree_25 kc ks (l0 :: l1 :: some (.int x) :: l) (.int x :: st) h := gk_iload rfl
theorem s_Circ_holdThree_25  : wps rm K Q c_Circ_holdThree_25 kc ks loc (st) h = wps rm K Q c_Circ_holdThree_26 kc ks loc (.int (3) :: st) h := gk_ic (by decide)
theorem s_Circ_holdThree_26 {x y : Int32} : wps rm K Q c_Circ_holdThree_26 kc ks loc (.int y :: .int x :: st) h = ((y ≤ x → K 71 kc ks loc st h) ∧ (¬ y ≤ x → wps rm K Q c_Circ_holdThree_29 kc ks loc (st) h)) := gk_if2_ge
theorem s_Circ_holdThree_29 {x : Nat} {l : eg_Lo} : wps rm K Q c_Circ_holdThree_29 kc ks (some (.ref x) :: l) (st) h = wps rm K Q c_Circ_holdThree_30 kc ks (some (.ref x) :: l) (.ref x :: st) h := gk_aload rfl
theorem s_Circ_holdThree_30 {x : Int32} {l0 l1 l2 : Option Value} {l : eg_Lo} : wps rm K Q c_Circ_holdThree_30 kc ks (l0 :: l1 :: l2 :: some (.int x) :: l) (st) h = wps rm K Q c_Circ_holdThree_31 kc ks (l0 :: l1 :: l2 :: some (.int x) :: l) (.int x :: st) h := gk_iload rfl
theorem s_Circ_holdThree_31  {a1 : Value} {x : Nat} : wps rm K Q c_Circ_holdThree_31 kc ks loc (a1 :: .ref (x + 1) :: st) h = (eg_cls h x 1 ∧ st.length ≤ 4 ∧ eg_Cs n_Circ_outside (.ref (x + 1) :: [a1]) h (fun v h9 => wps rm K Q c_Circ_holdThree_34 kc ks loc (v.toList ++ st) h9)) := eg_c1_1
theorem s_Circ_holdThree_34  : wps rm K Q c_Circ_holdThree_34 kc ks loc (st) h = wps rm K Q c_Circ_holdThree_35 kc ks loc (.long (0) :: st) h := gk_lc (by decide)
theorem s_Circ_holdThree_35 {x y : Int64} : wps rm K Q c_Circ_holdThree_35 kc ks loc (.long y :: .long x :: st) h = wps rm K Q c_Circ_holdThree_36 kc ks loc (.int (lg_cmp x y) :: st) h := gk_lcmp
theorem s_Circ_holdThree_36 {x : Int32} : wps rm K Q c_Circ_holdThree_36 kc ks loc (.int x :: st) h = ((¬ x = 0 → K 65 kc ks loc st h) ∧ (x = 0 → wps rm K Q c_Circ_holdThree_39 kc ks loc (st) h)) := gk_if1_ne
theorem s_Circ_holdThree_39 {x : Nat} {l : eg_Lo} : wps rm K Q c_Circ_holdThree_39 kc ks (some (.ref x) :: l) (st) h = wps rm K Q c_Circ_holdThree_40 kc ks (some (.ref x) :: l) (.ref x :: st) h := gk_aload rfl
theorem s_Circ_holdThree_40 {x : Int32} {l0 l1 l2 : Option Value} {l : eg_Lo} : wps rm K Q c_Circ_holdThree_40 kc ks (l0 :: l1 :: l2 :: some (.int x) :: l) (st) h = wps rm K Q c_Circ_holdThree_41 kc ks (l0 :: l1 :: l2 :: some (.int x) :: l) (.int x :: st) h := gk_iload rfl
theorem s_Circ_holdThree_41  {a1 : Value} {x : Nat} : wps rm K Q c_Circ_holdThree_41 kc ks loc (a1 :: .ref (x + 1) :: st) h = (eg_cls h x 1 ∧ st.length ≤ 4 ∧ eg_Cs n_Circ_isNewPlace (.ref (x + 1) :: [a1]) h (fun v h9 => wps rm K Q c_Circ_holdThree_44 kc ks loc (v.toList ++ st) h9)) := eg_c1_1
theorem s_Circ_holdThree_44 {x : Int32} : wps rm K Q c_Circ_holdThree_44 kc ks loc (.int x :: st) h = ((x = 0 → K 65 kc ks loc st h) ∧ (¬ x = 0 → wps rm K Q c_Circ_holdThree_47 kc ks loc (st) h)) := gk_if1_eq
theorem s_Circ_holdThree_47 {x : Nat} {l0 : Option Value} {l : eg_Lo} : wps rm K Q c_Circ_holdThree_47 kc ks (l0 :: some (.ref x) :: l) (st) h = wps rm K Q c_Circ_holdThree_48 kc ks (l0 :: some (.ref x) :: l) (.ref x :: st) h := gk_aload rfl
theorem s_Circ_holdThree_48 {x : Nat} : wps rm K Q c_Circ_holdThree_48 kc ks loc (.ref (x + 1) :: st) h = eg_gf h x 2 0 (fun v => wps rm K Q c_Circ_holdThree_51 kc ks loc (v :: st) h) := gk_gf
theorem s_Circ_holdThree_51 {x : Int32} {l0 l1 : Option Value} {l : eg_Lo} : wps rm K Q c_Circ_holdThree_51 kc ks (l0 :: l1 :: some (.int x) :: l) (st) h = wps rm K Q c_Circ_holdThree_52 kc ks (l0 :: l1 :: some (.int x) :: l) (.int x :: st) h := gk_iload rfl
theorem s_Circ_holdThree_52 {x : Nat} {l : eg_Lo} : wps rm K Q c_Circ_holdThree_52 kc ks (some (.ref x) :: l) (st) h = wps rm K Q c_Circ_holdThree_53 kc ks (some (.ref x) :: l) (.ref x :: st) h := gk_aload rfl
theorem s_Circ_holdThree_53 {x : Nat} : wps rm K Q c_Circ_holdThree_53 kc ks loc (.ref (x + 1) :: st) h = eg_gf h x 1 0 (fun v => wps rm K Q c_Circ_holdThree_56 kc ks loc (v :: st) h) := gk_gf
theorem s_Circ_holdThree_56 {x : Nat} : wps rm K Q c_Circ_holdThree_56 kc ks loc (.ref (x + 1) :: st) h = eg_gf h x 10 3 (fun v => wps rm K Q c_Circ_holdThree_59 kc ks loc (v :: st) h) := gk_gf
theorem s_Circ_holdThree_59 {x : Int32} {l0 l1 l2 : Option Value} {l : eg_Lo} : wps rm K Q c_Circ_holdThree_59 kc ks (l0 :: l1 :: l2 :: some (.int x) :: l) (st) h = wps rm K Q c_Circ_holdThree_60 kc ks (l0 :: l1 :: l2 :: some (.int x) :: l) (.int x :: st) h := gk_iload rfl
theorem s_Circ_holdThree_60 {x : Nat} {i : Int32} : wps rm K Q c_Circ_holdThree_60 kc ks loc (.int i :: .ref (x + 1) :: st) h = eg_ia h x i (fun v => wps rm K Q c_Circ_holdThree_61 kc ks loc (.int v :: st) h) := gk_iaload
theorem s_Circ_holdThree_61 {x : Nat} {i : Int32} {v : Int32} : wps rm K Q c_Circ_holdThree_61 kc ks loc (.int v :: .int i :: .ref (x + 1) :: st) h = eg_is h x i v (fun h9 => wps rm K Q c_Circ_holdThree_62 kc ks loc (st) h9) := gk_iastore
theorem s_Circ_holdThree_62 {x : Int32} {l0 l1 : Option Value} {lz : eg_Lo} : wps rm K Q c_Circ_holdThree_62 kc ks (l0 :: l1 :: some (.int x) :: lz) (st) h = wps rm K Q c_Circ_holdThree_65 kc ks (eg_set1 (l0 :: l1 :: some (.int x) :: lz) 2 (.int (x + (1)))) (st) h := gk_iinc rfl (by decide)
theorem s_Circ_holdThree_65 {x : Int32} {l0 l1 l2 : Option Value} {lz : eg_Lo} : wps rm K Q c_Circ_holdThree_65 kc ks (l0 :: l1 :: l2 :: some (.int x) :: lz) (st) h = wps rm K Q c_Circ_holdThree_68 kc ks (eg_set1 (l0 :: l1 :: l2 :: some (.int x) :: lz) 3 (.int (x + (1)))) (st) h := gk_iinc rfl (by decide)
theorem s_Circ_holdThree_68  : wps rm K Q c_Circ_holdThree_68 kc ks loc (st) h = K 13 kc ks loc st h := gk_goto
theorem s_Circ_holdThree_71 {x : Nat} {l : eg_Lo} : wps rm K Q c_Circ_holdThree_71 kc ks (some (.ref x) :: l) (st) h = wps rm K Q c_Circ_holdThree_72 kc ks (some (.ref x) :: l) (.ref x :: st) h := gk_aload rfl
theorem s_Circ_holdThree_72 {x : Nat} {l0 : Option Value} {l : eg_Lo} : wps rm K Q c_Circ_holdThree_72 kc ks (l0 :: some (.ref x) :: l) (st) h = wps rm K Q c_Circ_holdThree_73 kc ks (l0 :: some (.ref x) :: l) (.ref x :: st) h := gk_aload rfl
theorem s_Circ_holdThree_73 {x : Int32} {l0 l1 : Option Value} {l : eg_Lo} : wps rm K Q c_Circ_holdThree_73 kc ks (l0 :: l1 :: some (.int x) :: l) (st) h = wps rm K Q c_Circ_holdThree_74 kc ks (l0 :: l1 :: some (.int x) :: l) (.int x :: st) h := gk_iload rfl
theorem s_Circ_holdThree_74  {a1 : Value} {a2 : Value} {x : Nat} : wps rm K Q c_Circ_holdThree_74 kc ks loc (a2 :: a1 :: .ref (x + 1) :: st) h = (eg_cls h x 1 ∧ st.length ≤ 4 ∧ eg_Cs n_Circ_finish (.ref (x + 1) :: [a1, a2]) h (fun v h9 => wps rm K Q c_Circ_holdThree_77 kc ks loc (v.toList ++ st) h9)) := eg_c1_2
theorem s_Circ_holdThree_77  : wps rm K Q c_Circ_holdThree_77 kc ks loc (st) h = wps rm K Q c_Circ_holdThree_78 kc ks loc (.int (1) :: st) h := gk_ic (by decide)
theorem s_Circ_holdThree_78 {x : Int32} : wps rm K Q c_Circ_holdThree_78 kc ks loc ([.int x]) h = (kc = rm.cells ∧ ((1 : Nat) = 1 → x = 0 ∨ x = 1) ∧ Q (some (.int x)) h) := gk_iret
theorem sz_Circ_holdThree_13 : wps rm K Q z_Circ_holdThree_13 kc ks loc st h = K 13 kc ks loc st h := gk_nop
def T_Circ_holdThree : List (Nat × List eg_I) := [(9, c_Circ_holdThree_9), (65, c_Circ_holdThree_65), (71, c_Circ_holdThree_71)]
theorem j_Circ_holdThree_9 {R : Nat → Nat → Nat → eg_Lo → List Value → List eg_E → Prop} {f pc0 : Nat} : eg_run rm R Q T_Circ_holdThree (f + 1) 9 kc ks loc st h = wps rm (eg_run rm R Q T_Circ_holdThree f) Q c_Circ_holdThree_9 kc ks loc st h := rfl
theorem j_Circ_holdThree_65 {R : Nat → Nat → Nat → eg_Lo → List Value → List eg_E → Prop} {f pc0 : Nat} : eg_run rm R Q T_Circ_holdThree (f + 1) 65 kc ks loc st h = wps rm (eg_run rm R Q T_Circ_holdThree f) Q c_Circ_holdThree_65 kc ks loc st h := rfl
theorem j_Circ_holdThree_71 {R : Nat → Nat → Nat → eg_Lo → List Value → List eg_E → Prop} {f pc0 : Nat} : eg_run rm R Q T_Circ_holdThree (f + 1) 71 kc ks loc st h = wps rm (eg_run rm R Q T_Circ_holdThree f) Q c_Circ_holdThree_71 kc ks loc st h := rfl
theorem j_Circ_holdThree_13 {R : Nat → Nat → Nat → eg_Lo → List Value → List eg_E → Prop} {f pc0 : Nat} : eg_run rm R Q T_Circ_holdThree (f + 1) 13 kc ks loc st h = R 13 kc ks loc st h := rfl
end
theorem y_Circ_holdThree_0 : eg_seq m_Circ_holdThree 0 c_Circ_holdThree_0 = true := by decide +kernel
theorem y_Circ_holdThree_9 : eg_seq m_Circ_holdThree 9 c_Circ_holdThree_9 = true := by decide +kernel
theorem y_Circ_holdThree_13 : eg_seq m_Circ_holdThree 13 c_Circ_holdThree_13 = true := by decide +kernel
theorem y_Circ_holdThree_71 : eg_seq m_Circ_holdThree 71 c_Circ_holdThree_71 = true := by decide +kernel
theorem q_Circ_holdThree : ∀ q ∈ T_Circ_holdThree, eg_seq m_Circ_holdThree q.1 q.2 = true := by
  intro q hq
  simp only [T_Circ_holdThree, List.mem_cons, List.not_mem_nil, or_false] at hq
  rcases hq with rfl | rfl | rfl
  · exact y_Circ_holdThree_9
  · exact (eg_seq_drop y_Circ_holdThree_13 28 : eg_seq m_Circ_holdThree 65 c_Circ_holdThree_65 = true)
  · exact y_Circ_holdThree_71
theorem b_Circ_holdThree {as : List Value} {h : List eg_E} {Q : Option Value → List eg_E → Prop} (hf : (eg_fl as).length ≤ 4) (hw : wps (eg_rm m_Circ_holdThree) (eg_run (eg_rm m_Circ_holdThree) (eg_R m_Circ_holdThree Q (h.length + 0)) Q T_Circ_holdThree 5) Q c_Circ_holdThree_0 0 0 (eg_entry 4 as) [] h) : eg_Runs n_Circ_holdThree as h Q := eg_begin2 (d := m_Circ_holdThree) rfl (by decide) y_Circ_holdThree_0 q_Circ_holdThree hf hw
theorem p_Circ_holdThree_13 {Q : Option Value → List eg_E → Prop} {n0 kc ks : Nat} {loc : eg_Lo} {st : List Value} {h : List eg_E} (hw : wps (eg_rm m_Circ_holdThree) (eg_run (eg_rm m_Circ_holdThree) (eg_R m_Circ_holdThree Q n0) Q T_Circ_holdThree 5) Q c_Circ_holdThree_13 kc ks loc st h) : eg_R m_Circ_holdThree Q n0 13 kc ks loc st h := eg_go2 y_Circ_holdThree_13 q_Circ_holdThree hw
/-! ===== Circ_findSharpThree ===== -/
def z_Circ_findSharpThree_2 : List eg_I := [.inl (2, 0, .nop, 0, 0)]
def z_Circ_findSharpThree_17 : List eg_I := [.inl (17, 0, .nop, 0, 0)]
def z_Circ_findSharpThree_32 : List eg_I := [.inl (32, 0, .nop, 0, 0)]
def c_Circ_findSharpThree_108 : List eg_I := .inl (108, 1, .ireturn, 0, 1) :: []
def c_Circ_findSharpThree_107 : List eg_I := .inl (107, 1, .iconst (0), 0, 0) :: c_Circ_findSharpThree_108
def c_Circ_findSharpThree_104 : List eg_I := .inl (104, 3, .goto (-102), 2, 0) :: []
def c_Circ_findSharpThree_101 : List eg_I := .inl (101, 3, .iinc 1 (1), 0, 0) :: c_Circ_findSharpThree_104
def c_Circ_findSharpThree_98 : List eg_I := .inl (98, 3, .goto (-81), 17, 0) :: []
def c_Circ_findSharpThree_95 : List eg_I := .inl (95, 3, .iinc 2 (1), 0, 0) :: c_Circ_findSharpThree_98
def c_Circ_findSharpThree_92 : List eg_I := .inl (92, 3, .goto (-60), 32, 0) :: []
def c_Circ_findSharpThree_89 : List eg_I := .inl (89, 3, .iinc 3 (1), 0, 0) :: c_Circ_findSharpThree_92
def c_Circ_findSharpThree_88 : List eg_I := .inl (88, 1, .ireturn, 0, 1) :: []
def c_Circ_findSharpThree_87 : List eg_I := .inl (87, 1, .iconst (1), 0, 0) :: c_Circ_findSharpThree_88
def c_Circ_findSharpThree_84 : List eg_I := .inl (84, 3, .ifCond .eq (5), 89, 0) :: c_Circ_findSharpThree_87
def c_Circ_findSharpThree_81 : List eg_I := .inr (81, 1, 65, n_Circ_hasNoneOutside, 0, 1, 0, 0) :: c_Circ_findSharpThree_84
def c_Circ_findSharpThree_80 : List eg_I := .inl (80, 1, .aload 0, 0, 0) :: c_Circ_findSharpThree_81
def c_Circ_findSharpThree_77 : List eg_I := .inr (77, 1, 84, n_Circ_setCircleOfThree, 3, 1, 0, 0) :: c_Circ_findSharpThree_80
def c_Circ_findSharpThree_76 : List eg_I := .inl (76, 1, .iload 3, 0, 0) :: c_Circ_findSharpThree_77
def c_Circ_findSharpThree_75 : List eg_I := .inl (75, 1, .iload 2, 0, 0) :: c_Circ_findSharpThree_76
def c_Circ_findSharpThree_74 : List eg_I := .inl (74, 1, .iload 1, 0, 0) :: c_Circ_findSharpThree_75
def c_Circ_findSharpThree_73 : List eg_I := .inl (73, 1, .aload 0, 0, 0) :: c_Circ_findSharpThree_74
def c_Circ_findSharpThree_70 : List eg_I := .inl (70, 3, .ifCond .eq (19), 89, 0) :: c_Circ_findSharpThree_73
def c_Circ_findSharpThree_67 : List eg_I := .inr (67, 1, 80, n_Circ_isSharp, 3, 1, 0, 0) :: c_Circ_findSharpThree_70
def c_Circ_findSharpThree_66 : List eg_I := .inl (66, 1, .iload 2, 0, 0) :: c_Circ_findSharpThree_67
def c_Circ_findSharpThree_65 : List eg_I := .inl (65, 1, .iload 1, 0, 0) :: c_Circ_findSharpThree_66
def c_Circ_findSharpThree_64 : List eg_I := .inl (64, 1, .iload 3, 0, 0) :: c_Circ_findSharpThree_65
def c_Circ_findSharpThree_63 : List eg_I := .inl (63, 1, .aload 0, 0, 0) :: c_Circ_findSharpThree_64
def c_Circ_findSharpThree_60 : List eg_I := .inl (60, 3, .ifCond .eq (29), 89, 0) :: c_Circ_findSharpThree_63
def c_Circ_findSharpThree_57 : List eg_I := .inr (57, 1, 80, n_Circ_isSharp, 3, 1, 0, 0) :: c_Circ_findSharpThree_60
def c_Circ_findSharpThree_56 : List eg_I := .inl (56, 1, .iload 1, 0, 0) :: c_Circ_findSharpThree_57
def c_Circ_findSharpThree_55 : List eg_I := .inl (55, 1, .iload 3, 0, 0) :: c_Circ_findSharpThree_56
def c_Circ_findSharpThree_54 : List eg_I := .inl (54, 1, .iload 2, 0, 0) :: c_Circ_findSharpThree_55
def c_Circ_findSharpThree_53 : List eg_I := .inl (53, 1, .aload 0, 0, 0) :: c_Circ_findSharpThree_54
def c_Circ_findSharpThree_50 : List eg_I := .inl (50, 3, .ifCond .eq (39), 89, 0) :: c_Circ_findSharpThree_53
def c_Circ_findSharpThree_47 : List eg_I := .inr (47, 1, 80, n_Circ_isSharp, 3, 1, 0, 0) :: c_Circ_findSharpThree_50
def c_Circ_findSharpThree_46 : List eg_I := .inl (46, 1, .iload 3, 0, 0) :: c_Circ_findSharpThree_47
def c_Circ_findSharpThree_45 : List eg_I := .inl (45, 1, .iload 2, 0, 0) :: c_Circ_findSharpThree_46
def c_Circ_findSharpThree_44 : List eg_I := .inl (44, 1, .iload 1, 0, 0) :: c_Circ_findSharpThree_45
def c_Circ_findSharpThree_43 : List eg_I := .inl (43, 1, .aload 0, 0, 0) :: c_Circ_findSharpThree_44
def c_Circ_findSharpThree_40 : List eg_I := .inl (40, 3, .if_icmp .ge (55), 95, 0) :: c_Circ_findSharpThree_43
def c_Circ_findSharpThree_37 : List eg_I := .inl (37, 3, .getfield 22, 10, 4) :: c_Circ_findSharpThree_40
def c_Circ_findSharpThree_34 : List eg_I := .inl (34, 3, .getfield 12, 1, 0) :: c_Circ_findSharpThree_37
def c_Circ_findSharpThree_33 : List eg_I := .inl (33, 1, .aload 0, 0, 0) :: c_Circ_findSharpThree_34
def c_Circ_findSharpThree_32 : List eg_I := .inl (32, 1, .iload 3, 0, 0) :: c_Circ_findSharpThree_33
def c_Circ_findSharpThree_31 : List eg_I := .inl (31, 1, .istore 3, 0, 0) :: z_Circ_findSharpThree_32
def c_Circ_findSharpThree_30 : List eg_I := .inl (30, 1, .iadd, 0, 0) :: c_Circ_findSharpThree_31
def c_Circ_findSharpThree_29 : List eg_I := .inl (29, 1, .iconst (1), 0, 0) :: c_Circ_findSharpThree_30
def c_Circ_findSharpThree_28 : List eg_I := .inl (28, 1, .iload 2, 0, 0) :: c_Circ_findSharpThree_29
def c_Circ_findSharpThree_25 : List eg_I := .inl (25, 3, .if_icmp .ge (76), 101, 0) :: c_Circ_findSharpThree_28
def c_Circ_findSharpThree_22 : List eg_I := .inl (22, 3, .getfield 22, 10, 4) :: c_Circ_findSharpThree_25
def c_Circ_findSharpThree_19 : List eg_I := .inl (19, 3, .getfield 12, 1, 0) :: c_Circ_findSharpThree_22
def c_Circ_findSharpThree_18 : List eg_I := .inl (18, 1, .aload 0, 0, 0) :: c_Circ_findSharpThree_19
def c_Circ_findSharpThree_17 : List eg_I := .inl (17, 1, .iload 2, 0, 0) :: c_Circ_findSharpThree_18
def c_Circ_findSharpThree_16 : List eg_I := .inl (16, 1, .istore 2, 0, 0) :: z_Circ_findSharpThree_17
def c_Circ_findSharpThree_15 : List eg_I := .inl (15, 1, .iadd, 0, 0) :: c_Circ_findSharpThree_16
def c_Circ_findSharpThree_14 : List eg_I := .inl (14, 1, .iconst (1), 0, 0) :: c_Circ_findSharpThree_15
def c_Circ_findSharpThree_13 : List eg_I := .inl (13, 1, .iload 1, 0, 0) :: c_Circ_findSharpThree_14
def c_Circ_findSharpThree_10 : List eg_I := .inl (10, 3, .if_icmp .ge (97), 107, 0) :: c_Circ_findSharpThree_13
def c_Circ_findSharpThree_7 : List eg_I := .inl (7, 3, .getfield 22, 10, 4) :: c_Circ_findSharpThree_10
def c_Circ_findSharpThree_4 : List eg_I := .inl (4, 3, .getfield 12, 1, 0) :: c_Circ_findSharpThree_7
def c_Circ_findSharpThree_3 : List eg_I := .inl (3, 1, .aload 0, 0, 0) :: c_Circ_findSharpThree_4
def c_Circ_findSharpThree_2 : List eg_I := .inl (2, 1, .iload 1, 0, 0) :: c_Circ_findSharpThree_3
def c_Circ_findSharpThree_1 : List eg_I := .inl (1, 1, .istore 1, 0, 0) :: z_Circ_findSharpThree_2
def c_Circ_findSharpThree_0 : List eg_I := .inl (0, 1, .iconst (0), 0, 0) :: c_Circ_findSharpThree_1
section
variable {rm : Room} {K : Nat → Nat → Nat → eg_Lo → List Value → List eg_E → Prop} {Q : Option Value → List eg_E → Prop} {kc ks : Nat} {loc : eg_Lo} {st : List Value} {h : List eg_E}
theorem s_Circ_findSharpThree_0  : wps rm K Q c_Circ_findSharpThree_0 kc ks loc (st) h = wps rm K Q c_Circ_findSharpThree_1 kc ks loc (.int (0) :: st) h := gk_ic (by decide)
theorem s_Circ_findSharpThree_1 {x : Int32} : wps rm K Q c_Circ_findSharpThree_1 kc ks loc (.int x :: st) h = wps rm K Q z_Circ_findSharpThree_2 kc ks (eg_set1 loc 1 (.int x)) (st) h := gk_istore
theorem s_Circ_findSharpThree_2 {x : Int32} {l0 : Option Value} {l : eg_Lo} : wps rm K Q c_Circ_findSharpThree_2 kc ks (l0 :: some (.int x) :: l) (st) h = wps rm K Q c_Circ_findSharpThree_3 kc ks (l0 :: some (.int x) :: l) (.int x :: st) h := gk_iload rfl
theorem s_Circ_findSharpThree_3 {x : Nat} {l : eg_Lo} : wps rm K Q c_Circ_findSharpThree_3 kc ks (some (.ref x) :: l) (st) h = wps rm K Q c_Circ_findSharpThree_4 kc ks (some (.ref x) :: l) (.ref x :: st) h := gk_aload rfl
theorem s_Circ_findSharpThree_4 {x : Nat} : wps rm K Q c_Circ_findSharpThree_4 kc ks loc (.ref (x + 1) :: st) h = eg_gf h x 1 0 (fun v => wps rm K Q c_Circ_findSharpThree_7 kc ks loc (v :: st) h) := gk_gf
theorem s_Circ_findSharpThree_7 {x : Nat} : wps rm K Q c_Circ_findSharpThree_7 kc ks loc (.ref (x + 1) :: st) h = eg_gf h x 10 4 (fun v => wps rm K Q c_Circ_findSharpThree_10 kc ks loc (v :: st) h) := gk_gf
theorem s_Circ_findSharpThree_10 {x y : Int32} : wps rm K Q c_Circ_findSharpThree_10 kc ks loc (.int y :: .int x :: st) h = ((y ≤ x → K 107 kc ks loc st h) ∧ (¬ y ≤ x → wps rm K Q c_Circ_findSharpThree_13 kc ks loc (st) h)) := gk_if2_ge
theorem s_Circ_findSharpThree_13 {x : Int32} {l0 : Option Value} {l : eg_Lo} : wps rm K Q c_Circ_findSharpThree_13 kc ks (l0 :: some (.int x) :: l) (st) h = wps rm K Q c_Circ_findSharpThree_14 kc ks (l0 :: some (.int x) :: l) (.int x :: st) h := gk_iload rfl
theorem s_Circ_findSharpThree_14  : wps rm K Q c_Circ_findSharpThree_14 kc ks loc (st) h = wps rm K Q c_Circ_findSharpThree_15 kc ks loc (.int (1) :: st) h := gk_ic (by decide)
theorem s_Circ_findSharpThree_15 {x y : Int32} : wps rm K Q c_Circ_findSharpThree_15 kc ks loc (.int y :: .int x :: st) h = wps rm K Q c_Circ_findSharpThree_16 kc ks loc (.int (x + y) :: st) h := gk_iadd
theorem s_Circ_findSharpThree_16 {x : Int32} : wps rm K Q c_Circ_findSharpThree_16 kc ks loc (.int x :: st) h = wps rm K Q z_Circ_findSharpThree_17 kc ks (eg_set1 loc 2 (.int x)) (st) h := gk_istore
theorem s_Circ_findSharpThree_17 {x : Int32} {l0 l1 : Option Value} {l : eg_Lo} : wps rm K Q c_Circ_findSharpThree_17 kc ks (l0 :: l1 :: some (.int x) :: l) (st) h = wps rm K Q c_Circ_findSharpThree_18 kc ks (l0 :: l1 :: some (.int x) :: l) (.int x :: st) h := gk_iload rfl
theorem s_Circ_findSharpThree_18 {x : Nat} {l : eg_Lo} : wps rm K Q c_Circ_findSharpThree_18 kc ks (some (.ref x) :: l) (st) h = wps rm K Q c_Circ_findSharpThree_19 kc ks (some (.ref x) :: l) (.ref x :: st) h := gk_aload rfl
theorem s_Circ_findSharpThree_19 {x : Nat} : wps rm K Q c_Circ_findSharpThree_19 kc ks loc (.ref (x + 1) :: st) h = eg_gf h x 1 0 (fun v => wps rm K Q c_Circ_findSharpThree_22 kc ks loc (v :: st) h) := gk_gf
theorem s_Circ_findSharpThree_22 {x : Nat} : wps rm K Q c_Circ_findSharpThree_22 kc ks loc (.ref (x + 1) :: st) h = eg_gf h x 10 4 (fun v => wps rm K Q c_Circ_findSharpThree_25 kc ks loc (v :: st) h) := gk_gf
theorem s_Circ_findSharpThree_25 {x y : Int32} : wps rm K Q c_Circ_findSharpThree_25 kc ks loc (.int y :: .int x :: st) h = ((y ≤ x → K 101 kc ks loc st h) ∧ (¬ y ≤ x → wps rm K Q c_Circ_findSharpThree_28 kc ks loc (st) h)) := gk_if2_ge
theorem s_Circ_findSharpThree_28 {x : Int32} {l0 l1 : Option Value} {l : eg_Lo} : wps rm K Q c_Circ_findSharpThree_28 kc ks (l0 :: l1 :: some (.int x) :: l) (st) h = wps rm K Q c_Circ_findSharpThree_29 kc ks (l0 :: l1 :: some (.int x) :: l) (.int x :: st) h := gk_iload rfl
theorem s_Circ_findSharpThree_29  : wps rm K Q c_Circ_findSharpThree_29 kc ks loc (st) h = wps rm K Q c_Circ_findSharpThree_30 kc ks loc (.int (1) :: st) h := gk_ic (by decide)
theorem s_Circ_findSharpThree_30 {x y : Int32} : wps rm K Q c_Circ_findSharpThree_30 kc ks loc (.int y :: .int x :: st) h = wps rm K Q c_Circ_findSharpThree_31 kc ks loc (.int (x + y) :: st) h := gk_iadd
theorem s_Circ_findSharpThree_31 {x : Int32} : wps rm K Q c_Circ_findSharpThree_31 kc ks loc (.int x :: st) h = wps rm K Q z_Circ_findSharpThree_32 kc ks (eg_set1 loc 3 (.int x)) (st) h := gk_istore
theorem s_Circ_findSharpThree_32 {x : Int32} {l0 l1 l2 : Option Value} {l : eg_Lo} : wps rm K Q c_Circ_findSharpThree_32 kc ks (l0 :: l1 :: l2 :: some (.int x) :: l) (st) h = wps rm K Q c_Circ_findSharpThree_33 kc ks (l0 :: l1 :: l2 :: some (.int x) :: l) (.int x :: st) h := gk_iload rfl
theorem s_Circ_findSharpThree_33 {x : Nat} {l : eg_Lo} : wps rm K Q c_Circ_findSharpThree_33 kc ks (some (.ref x) :: l) (st) h = wps rm K Q c_Circ_findSharpThree_34 kc ks (some (.ref x) :: l) (.ref x :: st) h := gk_aload rfl
theorem s_Circ_findSharpThree_34 {x : Nat} : wps rm K Q c_Circ_findSharpThree_34 kc ks loc (.ref (x + 1) :: st) h = eg_gf h x 1 0 (fun v => wps rm K Q c_Circ_findSharpThree_37 kc ks loc (v :: st) h) := gk_gf
theorem s_Circ_findSharpThree_37 {x : Nat} : wps rm K Q c_Circ_findSharpThree_37 kc ks loc (.ref (x + 1) :: st) h = eg_gf h x 10 4 (fun v => wps rm K Q c_Circ_findSharpThree_40 kc ks loc (v :: st) h) := gk_gf
theorem s_Circ_findSharpThree_40 {x y : Int32} : wps rm K Q c_Circ_findSharpThree_40 kc ks loc (.int y :: .int x :: st) h = ((y ≤ x → K 95 kc ks loc st h) ∧ (¬ y ≤ x → wps rm K Q c_Circ_findSharpThree_43 kc ks loc (st) h)) := gk_if2_ge
theorem s_Circ_findSharpThree_43 {x : Nat} {l : eg_Lo} : wps rm K Q c_Circ_findSharpThree_43 kc ks (some (.ref x) :: l) (st) h = wps rm K Q c_Circ_findSharpThree_44 kc ks (some (.ref x) :: l) (.ref x :: st) h := gk_aload rfl
theorem s_Circ_findSharpThree_44 {x : Int32} {l0 : Option Value} {l : eg_Lo} : wps rm K Q c_Circ_findSharpThree_44 kc ks (l0 :: some (.int x) :: l) (st) h = wps rm K Q c_Circ_findSharpThree_45 kc ks (l0 :: some (.int x) :: l) (.int x :: st) h := gk_iload rfl
theorem s_Circ_findSharpThree_45 {x : Int32} {l0 l1 : Option Value} {l : eg_Lo} : wps rm K Q c_Circ_findSharpThree_45 kc ks (l0 :: l1 :: some (.int x) :: l) (st) h = wps rm K Q c_Circ_findSharpThree_46 kc ks (l0 :: l1 :: some (.int x) :: l) (.int x :: st) h := gk_iload rfl
theorem s_Circ_findSharpThree_46 {x : Int32} {l0 l1 l2 : Option Value} {l : eg_Lo} : wps rm K Q c_Circ_findSharpThree_46 kc ks (l0 :: l1 :: l2 :: some (.int x) :: l) (st) h = wps rm K Q c_Circ_findSharpThree_47 kc ks (l0 :: l1 :: l2 :: some (.int x) :: l) (.int x :: st) h := gk_iload rfl
theorem s_Circ_findSharpThree_47  {a1 : Value} {a2 : Value} {a3 : Value} {x : Nat} : wps rm K Q c_Circ_findSharpThree_47 kc ks loc (a3 :: a2 :: a1 :: .ref (x + 1) :: st) h = (eg_cls h x 1 ∧ st.length ≤ 4 ∧ eg_Cs n_Circ_isSharp (.ref (x + 1) :: [a1, a2, a3]) h (fun v h9 => wps rm K Q c_Circ_findSharpThree_50 kc ks loc (v.toList ++ st) h9)) := eg_c1_3
theorem s_Circ_findSharpThree_50 {x : Int32} : wps rm K Q c_Circ_findSharpThree_50 kc ks loc (.int x :: st) h = ((x = 0 → K 89 kc ks loc st h) ∧ (¬ x = 0 → wps rm K Q c_Circ_findSharpThree_53 kc ks loc (st) h)) := gk_if1_eq
theorem s_Circ_findSharpThree_53 {x : Nat} {l : eg_Lo} : wps rm K Q c_Circ_findSharpThree_53 kc ks (some (.ref x) :: l) (st) h = wps rm K Q c_Circ_findSharpThree_54 kc ks (some (.ref x) :: l) (.ref x :: st) h := gk_aload rfl
theorem s_Circ_findSharpThree_54 {x : Int32} {l0 l1 : Option Value} {l : eg_Lo} : wps rm K Q c_Circ_findSharpThree_54 kc ks (l0 :: l1 :: some (.int x) :: l) (st) h = wps rm K Q c_Circ_findSharpThree_55 kc ks (l0 :: l1 :: some (.int x) :: l) (.int x :: st) h := gk_iload rfl
theorem s_Circ_findSharpThree_55 {x : Int32} {l0 l1 l2 : Option Value} {l : eg_Lo} : wps rm K Q c_Circ_findSharpThree_55 kc ks (l0 :: l1 :: l2 :: some (.int x) :: l) (st) h = wps rm K Q c_Circ_findSharpThree_56 kc ks (l0 :: l1 :: l2 :: some (.int x) :: l) (.int x :: st) h := gk_iload rfl
theorem s_Circ_findSharpThree_56 {x : Int32} {l0 : Option Value} {l : eg_Lo} : wps rm K Q c_Circ_findSharpThree_56 kc ks (l0 :: some (.int x) :: l) (st) h = wps rm K Q c_Circ_findSharpThree_57 kc ks (l0 :: some (.int x) :: l) (.int x :: st) h := gk_iload rfl
theorem s_Circ_findSharpThree_57  {a1 : Value} {a2 : Value} {a3 : Value} {x : Nat} : wps rm K Q c_Circ_findSharpThree_57 kc ks loc (a3 :: a2 :: a1 :: .ref (x + 1) :: st) h = (eg_cls h x 1 ∧ st.length ≤ 4 ∧ eg_Cs n_Circ_isSharp (.ref (x + 1) :: [a1, a2, a3]) h (fun v h9 => wps rm K Q c_Circ_findSharpThree_60 kc ks loc (v.toList ++ st) h9)) := eg_c1_3
theorem s_Circ_findSharpThree_60 {x : Int32} : wps rm K Q c_Circ_findSharpThree_60 kc ks loc (.int x :: st) h = ((x = 0 → K 89 kc ks loc st h) ∧ (¬ x = 0 → wps rm K Q c_Circ_findSharpThree_63 kc ks loc (st) h)) := gk_if1_eq
theorem s_Circ_findSharpThree_63 {x : Nat} {l : eg_Lo} : wps rm K Q c_Circ_findSharpThree_63 kc ks (some (.ref x) :: l) (st) h = wps rm K Q c_Circ_findSharpThree_64 kc ks (some (.ref x) :: l) (.ref x :: st) h := gk_aload rfl
theorem s_Circ_findSharpThree_64 {x : Int32} {l0 l1 l2 : Option Value} {l : eg_Lo} : wps rm K Q c_Circ_findSharpThree_64 kc ks (l0 :: l1 :: l2 :: some (.int x) :: l) (st) h = wps rm K Q c_Circ_findSharpThree_65 kc ks (l0 :: l1 :: l2 :: some (.int x) :: l) (.int x :: st) h := gk_iload rfl
theorem s_Circ_findSharpThree_65 {x : Int32} {l0 : Option Value} {l : eg_Lo} : wps rm K Q c_Circ_findSharpThree_65 kc ks (l0 :: some (.int x) :: l) (st) h = wps rm K Q c_Circ_findSharpThree_66 kc ks (l0 :: some (.int x) :: l) (.int x :: st) h := gk_iload rfl
theorem s_Circ_findSharpThree_66 {x : Int32} {l0 l1 : Option Value} {l : eg_Lo} : wps rm K Q c_Circ_findSharpThree_66 kc ks (l0 :: l1 :: some (.int x) :: l) (st) h = wps rm K Q c_Circ_findSharpThree_67 kc ks (l0 :: l1 :: some (.int x) :: l) (.int x :: st) h := gk_iload rfl
theorem s_Circ_findSharpThree_67  {a1 : Value} {a2 : Value} {a3 : Value} {x : Nat} : wps rm K Q c_Circ_findSharpThree_67 kc ks loc (a3 :: a2 :: a1 :: .ref (x + 1) :: st) h = (eg_cls h x 1 ∧ st.length ≤ 4 ∧ eg_Cs n_Circ_isSharp (.ref (x + 1) :: [a1, a2, a3]) h (fun v h9 => wps rm K Q c_Circ_findSharpThree_70 kc ks loc (v.toList ++ st) h9)) := eg_c1_3
theorem s_Circ_findSharpThree_70 {x : Int32} : wps rm K Q c_Circ_findSharpThree_70 kc ks loc (.int x :: st) h = ((x = 0 → K 89 kc ks loc st h) ∧ (¬ x = 0 → wps rm K Q c_Circ_findSharpThree_73 kc ks loc (st) h)) := gk_if1_eq
theorem s_Circ_findSharpThree_73 {x : Nat} {l : eg_Lo} : wps rm K Q c_Circ_findSharpThree_73 kc ks (some (.ref x) :: l) (st) h = wps rm K Q c_Circ_findSharpThree_74 kc ks (some (.ref x) :: l) (.ref x :: st) h := gk_aload rfl
theorem s_Circ_findSharpThree_74 {x : Int32} {l0 : Option Value} {l : eg_Lo} : wps rm K Q c_Circ_findSharpThree_74 kc ks (l0 :: some (.int x) :: l) (st) h = wps rm K Q c_Circ_findSharpThree_75 kc ks (l0 :: some (.int x) :: l) (.int x :: st) h := gk_iload rfl
theorem s_Circ_findSharpThree_75 {x : Int32} {l0 l1 : Option Value} {l : eg_Lo} : wps rm K Q c_Circ_findSharpThree_75 kc ks (l0 :: l1 :: some (.int x) :: l) (st) h = wps rm K Q c_Circ_findSharpThree_76 kc ks (l0 :: l1 :: some (.int x) :: l) (.int x :: st) h := gk_iload rfl
theorem s_Circ_findSharpThree_76 {x : Int32} {l0 l1 l2 : Option Value} {l : eg_Lo} : wps rm K Q c_Circ_findSharpThree_76 kc ks (l0 :: l1 :: l2 :: some (.int x) :: l) (st) h = wps rm K Q c_Circ_findSharpThree_77 kc ks (l0 :: l1 :: l2 :: some (.int x) :: l) (.int x :: st) h := gk_iload rfl
theorem s_Circ_findSharpThree_77  {a1 : Value} {a2 : Value} {a3 : Value} {x : Nat} : wps rm K Q c_Circ_findSharpThree_77 kc ks loc (a3 :: a2 :: a1 :: .ref (x + 1) :: st) h = (eg_cls h x 1 ∧ st.length ≤ 4 ∧ eg_Cs n_Circ_setCircleOfThree (.ref (x + 1) :: [a1, a2, a3]) h (fun v h9 => wps rm K Q c_Circ_findSharpThree_80 kc ks loc (v.toList ++ st) h9)) := eg_c1_3
theorem s_Circ_findSharpThree_80 {x : Nat} {l : eg_Lo} : wps rm K Q c_Circ_findSharpThree_80 kc ks (some (.ref x) :: l) (st) h = wps rm K Q c_Circ_findSharpThree_81 kc ks (some (.ref x) :: l) (.ref x :: st) h := gk_aload rfl
theorem s_Circ_findSharpThree_81  {x : Nat} : wps rm K Q c_Circ_findSharpThree_81 kc ks loc (.ref (x + 1) :: st) h = (eg_cls h x 1 ∧ st.length ≤ 4 ∧ eg_Cs n_Circ_hasNoneOutside (.ref (x + 1) :: []) h (fun v h9 => wps rm K Q c_Circ_findSharpThree_84 kc ks loc (v.toList ++ st) h9)) := eg_c1_0
theorem s_Circ_findSharpThree_84 {x : Int32} : wps rm K Q c_Circ_findSharpThree_84 kc ks loc (.int x :: st) h = ((x = 0 → K 89 kc ks loc st h) ∧ (¬ x = 0 → wps rm K Q c_Circ_findSharpThree_87 kc ks loc (st) h)) := gk_if1_eq
theorem s_Circ_findSharpThree_87  : wps rm K Q c_Circ_findSharpThree_87 kc ks loc (st) h = wps rm K Q c_Circ_findSharpThree_88 kc ks loc (.int (1) :: st) h := gk_ic (by decide)
theorem s_Circ_findSharpThree_88 {x : Int32} : wps rm K Q c_Circ_findSharpThree_88 kc ks loc ([.int x]) h = (kc = rm.cells ∧ ((1 : Nat) = 1 → x = 0 ∨ x = 1) ∧ Q (some (.int x)) h) := gk_iret
theorem s_Circ_findSharpThree_89 {x : Int32} {l0 l1 l2 : Option Value} {lz : eg_Lo} : wps rm K Q c_Circ_findSharpThree_89 kc ks (l0 :: l1 :: l2 :: some (.int x) :: lz) (st) h = wps rm K Q c_Circ_findSharpThree_92 kc ks (eg_set1 (l0 :: l1 :: l2 :: some (.int x) :: lz) 3 (.int (x + (1)))) (st) h := gk_iinc rfl (by decide)
theorem s_Circ_findSharpThree_92  : wps rm K Q c_Circ_findSharpThree_92 kc ks loc (st) h = K 32 kc ks loc st h := gk_goto
theorem s_Circ_findSharpThree_95 {x : Int32} {l0 l1 : Option Value} {lz : eg_Lo} : wps rm K Q c_Circ_findSharpThree_95 kc ks (l0 :: l1 :: some (.int x) :: lz) (st) h = wps rm K Q c_Circ_findSharpThree_98 kc ks (eg_set1 (l0 :: l1 :: some (.int x) :: lz) 2 (.int (x + (1)))) (st) h := gk_iinc rfl (by decide)
theorem s_Circ_findSharpThree_98  : wps rm K Q c_Circ_findSharpThree_98 kc ks loc (st) h = K 17 kc ks loc st h := gk_goto
theorem s_Circ_findSharpThree_101 {x : Int32} {l0 : Option Value} {lz : eg_Lo} : wps rm K Q c_Circ_findSharpThree_101 kc ks (l0 :: some (.int x) :: lz) (st) h = wps rm K Q c_Circ_findSharpThree_104 kc ks (eg_set1 (l0 :: some (.int x) :: lz) 1 (.int (x + (1)))) (st) h := gk_iinc rfl (by decide)
theorem s_Circ_findSharpThree_104  : wps rm K Q c_Circ_findSharpThree_104 kc ks loc (st) h = K 2 kc ks loc st h := gk_goto
theorem s_Circ_findSharpThree_107  : wps rm K Q c_Circ_findSharpThree_107 kc ks loc (st) h = wps rm K Q c_Circ_findSharpThree_108 kc ks loc (.int (0) :: st) h := gk_ic (by decide)
theorem s_Circ_findSharpThree_108 {x : Int32} : wps rm K Q c_Circ_findSharpThree_108 kc ks loc ([.int x]) h = (kc = rm.cells ∧ ((1 : Nat) = 1 → x = 0 ∨ x = 1) ∧ Q (some (.int x)) h) := gk_iret
theorem sz_Circ_findSharpThree_2 : wps rm K Q z_Circ_findSharpThree_2 kc ks loc st h = K 2 kc ks loc st h := gk_nop
theorem sz_Circ_findSharpThree_17 : wps rm K Q z_Circ_findSharpThree_17 kc ks loc st h = K 17 kc ks loc st h := gk_nop
theorem sz_Circ_findSharpThree_32 : wps rm K Q z_Circ_findSharpThree_32 kc ks loc st h = K 32 kc ks loc st h := gk_nop
def T_Circ_findSharpThree : List (Nat × List eg_I) := [(89, c_Circ_findSharpThree_89), (95, c_Circ_findSharpThree_95), (101, c_Circ_findSharpThree_101), (107, c_Circ_findSharpThree_107)]
theorem j_Circ_findSharpThree_89 {R : Nat → Nat → Nat → eg_Lo → List Value → List eg_E → Prop} {f pc0 : Nat} : eg_run rm R Q T_Circ_findSharpThree (f + 1) 89 kc ks loc st h = wps rm (eg_run rm R Q T_Circ_findSharpThree f) Q c_Circ_findSharpThree_89 kc ks loc st h := rfl
theorem j_Circ_findSharpThree_95 {R : Nat → Nat → Nat → eg_Lo → List Value → List eg_E → Prop} {f pc0 : Nat} : eg_run rm R Q T_Circ_findSharpThree (f + 1) 95 kc ks loc st h = wps rm (eg_run rm R Q T_Circ_findSharpThree f) Q c_Circ_findSharpThree_95 kc ks loc st h := rfl
theorem j_Circ_findSharpThree_101 {R : Nat → Nat → Nat → eg_Lo → List Value → List eg_E → Prop} {f pc0 : Nat} : eg_run rm R Q T_Circ_findSharpThree (f + 1) 101 kc ks loc st h = wps rm (eg_run rm R Q T_Circ_findSharpThree f) Q c_Circ_findSharpThree_101 kc ks loc st h := rfl
theorem j_Circ_findSharpThree_107 {R : Nat → Nat → Nat → eg_Lo → List Value → List eg_E → Prop} {f pc0 : Nat} : eg_run rm R Q T_Circ_findSharpThree (f + 1) 107 kc ks loc st h = wps rm (eg_run rm R Q T_Circ_findSharpThree f) Q c_Circ_findSharpThree_107 kc ks loc st h := rfl
theorem j_Circ_findSharpThree_2 {R : Nat → Nat → Nat → eg_Lo → List Value → List eg_E → Prop} {f pc0 : Nat} : eg_run rm R Q T_Circ_findSharpThree (f + 1) 2 kc ks loc st h = R 2 kc ks loc st h := rfl
theorem j_Circ_findSharpThree_17 {R : Nat → Nat → Nat → eg_Lo → List Value → List eg_E → Prop} {f pc0 : Nat} : eg_run rm R Q T_Circ_findSharpThree (f + 1) 17 kc ks loc st h = R 17 kc ks loc st h := rfl
theorem j_Circ_findSharpThree_32 {R : Nat → Nat → Nat → eg_Lo → List Value → List eg_E → Prop} {f pc0 : Nat} : eg_run rm R Q T_Circ_findSharpThree (f + 1) 32 kc ks loc st h = R 32 kc ks loc st h := rfl
end
theorem y_Circ_findSharpThree_0 : eg_seq m_Circ_findSharpThree 0 c_Circ_findSharpThree_0 = true := by decide +kernel
theorem y_Circ_findSharpThree_2 : eg_seq m_Circ_findSharpThree 2 c_Circ_findSharpThree_2 = true := by decide +kernel
theorem y_Circ_findSharpThree_17 : eg_seq m_Circ_findSharpThree 17 c_Circ_findSharpThree_17 = true := by decide +kernel
theorem y_Circ_findSharpThree_32 : eg_seq m_Circ_findSharpThree 32 c_Circ_findSharpThree_32 = true := by decide +kernel
theorem y_Circ_findSharpThree_89 : eg_seq m_Circ_findSharpThree 89 c_Circ_findSharpThree_89 = true := by decide +kernel
theorem y_Circ_findSharpThree_95 : eg_seq m_Circ_findSharpThree 95 c_Circ_findSharpThree_95 = true := by decide +kernel
theorem y_Circ_findSharpThree_101 : eg_seq m_Circ_findSharpThree 101 c_Circ_findSharpThree_101 = true := by decide +kernel
theorem y_Circ_findSharpThree_107 : eg_seq m_Circ_findSharpThree 107 c_Circ_findSharpThree_107 = true := by decide +kernel
theorem q_Circ_findSharpThree : ∀ q ∈ T_Circ_findSharpThree, eg_seq m_Circ_findSharpThree q.1 q.2 = true := by
  intro q hq
  simp only [T_Circ_findSharpThree, List.mem_cons, List.not_mem_nil, or_false] at hq
  rcases hq with rfl | rfl | rfl | rfl
  · exact y_Circ_findSharpThree_89
  · exact y_Circ_findSharpThree_95
  · exact y_Circ_findSharpThree_101
  · exact y_Circ_findSharpThree_107
theorem b_Circ_findSharpThree {as : List Value} {h : List eg_E} {Q : Option Value → List eg_E → Prop} (hf : (eg_fl as).length ≤ 4) (hw : wps (eg_rm m_Circ_findSharpThree) (eg_run (eg_rm m_Circ_findSharpThree) (eg_R m_Circ_findSharpThree Q (h.length + 0)) Q T_Circ_findSharpThree 6) Q c_Circ_findSharpThree_0 0 0 (eg_entry 4 as) [] h) : eg_Runs n_Circ_findSharpThree as h Q := eg_begin2 (d := m_Circ_findSharpThree) rfl (by decide) y_Circ_findSharpThree_0 q_Circ_findSharpThree hf hw
theorem p_Circ_findSharpThree_2 {Q : Option Value → List eg_E → Prop} {n0 kc ks : Nat} {loc : eg_Lo} {st : List Value} {h : List eg_E} (hw : wps (eg_rm m_Circ_findSharpThree) (eg_run (eg_rm m_Circ_findSharpThree) (eg_R m_Circ_findSharpThree Q n0) Q T_Circ_findSharpThree 6) Q c_Circ_findSharpThree_2 kc ks loc st h) : eg_R m_Circ_findSharpThree Q n0 2 kc ks loc st h := eg_go2 y_Circ_findSharpThree_2 q_Circ_findSharpThree hw
theorem p_Circ_findSharpThree_17 {Q : Option Value → List eg_E → Prop} {n0 kc ks : Nat} {loc : eg_Lo} {st : List Value} {h : List eg_E} (hw : wps (eg_rm m_Circ_findSharpThree) (eg_run (eg_rm m_Circ_findSharpThree) (eg_R m_Circ_findSharpThree Q n0) Q T_Circ_findSharpThree 6) Q c_Circ_findSharpThree_17 kc ks loc st h) : eg_R m_Circ_findSharpThree Q n0 17 kc ks loc st h := eg_go2 y_Circ_findSharpThree_17 q_Circ_findSharpThree hw
theorem p_Circ_findSharpThree_32 {Q : Option Value → List eg_E → Prop} {n0 kc ks : Nat} {loc : eg_Lo} {st : List Value} {h : List eg_E} (hw : wps (eg_rm m_Circ_findSharpThree) (eg_run (eg_rm m_Circ_findSharpThree) (eg_R m_Circ_findSharpThree Q n0) Q T_Circ_findSharpThree 6) Q c_Circ_findSharpThree_32 kc ks loc st h) : eg_R m_Circ_findSharpThree Q n0 32 kc ks loc st h := eg_go2 y_Circ_findSharpThree_32 q_Circ_findSharpThree hw
/-! ===== Circ_isSharp ===== -/
def c_Circ_isSharp_97 : List eg_I := .inl (97, 1, .ireturn, 0, 1) :: []
def c_Circ_isSharp_96 : List eg_I := .inl (96, 1, .iconst (0), 0, 0) :: c_Circ_isSharp_97
def c_Circ_isSharp_93 : List eg_I := .inl (93, 3, .goto (4), 97, 0) :: []
def c_Circ_isSharp_92 : List eg_I := .inl (92, 1, .iconst (1), 0, 0) :: c_Circ_isSharp_93
def c_Circ_isSharp_89 : List eg_I := .inl (89, 3, .ifCond .le (7), 96, 0) :: c_Circ_isSharp_92
def c_Circ_isSharp_88 : List eg_I := .inl (88, 1, .lcmp, 0, 0) :: c_Circ_isSharp_89
def c_Circ_isSharp_87 : List eg_I := .inl (87, 1, .sipush (0), 0, 0) :: c_Circ_isSharp_88
def c_Circ_isSharp_85 : List eg_I := .inl (85, 2, .lload 4, 0, 0) :: c_Circ_isSharp_87
def c_Circ_isSharp_83 : List eg_I := .inl (83, 2, .lstore 4, 0, 0) :: c_Circ_isSharp_85
def c_Circ_isSharp_82 : List eg_I := .inl (82, 1, .ladd, 0, 0) :: c_Circ_isSharp_83
def c_Circ_isSharp_81 : List eg_I := .inl (81, 1, .lmul, 0, 0) :: c_Circ_isSharp_82
def c_Circ_isSharp_80 : List eg_I := .inl (80, 1, .i2l, 0, 0) :: c_Circ_isSharp_81
def c_Circ_isSharp_79 : List eg_I := .inl (79, 1, .isub, 0, 0) :: c_Circ_isSharp_80
def c_Circ_isSharp_78 : List eg_I := .inl (78, 1, .iaload, 0, 0) :: c_Circ_isSharp_79
def c_Circ_isSharp_77 : List eg_I := .inl (77, 1, .iload 1, 0, 0) :: c_Circ_isSharp_78
def c_Circ_isSharp_74 : List eg_I := .inl (74, 3, .getfield 60, 10, 1) :: c_Circ_isSharp_77
def c_Circ_isSharp_71 : List eg_I := .inl (71, 3, .getfield 12, 1, 0) :: c_Circ_isSharp_74
def c_Circ_isSharp_70 : List eg_I := .inl (70, 1, .aload 0, 0, 0) :: c_Circ_isSharp_71
def c_Circ_isSharp_69 : List eg_I := .inl (69, 1, .iaload, 0, 0) :: c_Circ_isSharp_70
def c_Circ_isSharp_68 : List eg_I := .inl (68, 1, .iload 3, 0, 0) :: c_Circ_isSharp_69
def c_Circ_isSharp_65 : List eg_I := .inl (65, 3, .getfield 60, 10, 1) :: c_Circ_isSharp_68
def c_Circ_isSharp_62 : List eg_I := .inl (62, 3, .getfield 12, 1, 0) :: c_Circ_isSharp_65
def c_Circ_isSharp_61 : List eg_I := .inl (61, 1, .aload 0, 0, 0) :: c_Circ_isSharp_62
def c_Circ_isSharp_60 : List eg_I := .inl (60, 1, .i2l, 0, 0) :: c_Circ_isSharp_61
def c_Circ_isSharp_59 : List eg_I := .inl (59, 1, .isub, 0, 0) :: c_Circ_isSharp_60
def c_Circ_isSharp_58 : List eg_I := .inl (58, 1, .iaload, 0, 0) :: c_Circ_isSharp_59
def c_Circ_isSharp_57 : List eg_I := .inl (57, 1, .iload 1, 0, 0) :: c_Circ_isSharp_58
def c_Circ_isSharp_54 : List eg_I := .inl (54, 3, .getfield 60, 10, 1) :: c_Circ_isSharp_57
def c_Circ_isSharp_51 : List eg_I := .inl (51, 3, .getfield 12, 1, 0) :: c_Circ_isSharp_54
def c_Circ_isSharp_50 : List eg_I := .inl (50, 1, .aload 0, 0, 0) :: c_Circ_isSharp_51
def c_Circ_isSharp_49 : List eg_I := .inl (49, 1, .iaload, 0, 0) :: c_Circ_isSharp_50
def c_Circ_isSharp_48 : List eg_I := .inl (48, 1, .iload 2, 0, 0) :: c_Circ_isSharp_49
def c_Circ_isSharp_45 : List eg_I := .inl (45, 3, .getfield 60, 10, 1) :: c_Circ_isSharp_48
def c_Circ_isSharp_42 : List eg_I := .inl (42, 3, .getfield 12, 1, 0) :: c_Circ_isSharp_45
def c_Circ_isSharp_41 : List eg_I := .inl (41, 1, .aload 0, 0, 0) :: c_Circ_isSharp_42
def c_Circ_isSharp_40 : List eg_I := .inl (40, 1, .lmul, 0, 0) :: c_Circ_isSharp_41
def c_Circ_isSharp_39 : List eg_I := .inl (39, 1, .i2l, 0, 0) :: c_Circ_isSharp_40
def c_Circ_isSharp_38 : List eg_I := .inl (38, 1, .isub, 0, 0) :: c_Circ_isSharp_39
def c_Circ_isSharp_37 : List eg_I := .inl (37, 1, .iaload, 0, 0) :: c_Circ_isSharp_38
def c_Circ_isSharp_36 : List eg_I := .inl (36, 1, .iload 1, 0, 0) :: c_Circ_isSharp_37
def c_Circ_isSharp_33 : List eg_I := .inl (33, 3, .getfield 57, 10, 0) :: c_Circ_isSharp_36
def c_Circ_isSharp_30 : List eg_I := .inl (30, 3, .getfield 12, 1, 0) :: c_Circ_isSharp_33
def c_Circ_isSharp_29 : List eg_I := .inl (29, 1, .aload 0, 0, 0) :: c_Circ_isSharp_30
def c_Circ_isSharp_28 : List eg_I := .inl (28, 1, .iaload, 0, 0) :: c_Circ_isSharp_29
def c_Circ_isSharp_27 : List eg_I := .inl (27, 1, .iload 3, 0, 0) :: c_Circ_isSharp_28
def c_Circ_isSharp_24 : List eg_I := .inl (24, 3, .getfield 57, 10, 0) :: c_Circ_isSharp_27
def c_Circ_isSharp_21 : List eg_I := .inl (21, 3, .getfield 12, 1, 0) :: c_Circ_isSharp_24
def c_Circ_isSharp_20 : List eg_I := .inl (20, 1, .aload 0, 0, 0) :: c_Circ_isSharp_21
def c_Circ_isSharp_19 : List eg_I := .inl (19, 1, .i2l, 0, 0) :: c_Circ_isSharp_20
def c_Circ_isSharp_18 : List eg_I := .inl (18, 1, .isub, 0, 0) :: c_Circ_isSharp_19
def c_Circ_isSharp_17 : List eg_I := .inl (17, 1, .iaload, 0, 0) :: c_Circ_isSharp_18
def c_Circ_isSharp_16 : List eg_I := .inl (16, 1, .iload 1, 0, 0) :: c_Circ_isSharp_17
def c_Circ_isSharp_13 : List eg_I := .inl (13, 3, .getfield 57, 10, 0) :: c_Circ_isSharp_16
def c_Circ_isSharp_10 : List eg_I := .inl (10, 3, .getfield 12, 1, 0) :: c_Circ_isSharp_13
def c_Circ_isSharp_9 : List eg_I := .inl (9, 1, .aload 0, 0, 0) :: c_Circ_isSharp_10
def c_Circ_isSharp_8 : List eg_I := .inl (8, 1, .iaload, 0, 0) :: c_Circ_isSharp_9
def c_Circ_isSharp_7 : List eg_I := .inl (7, 1, .iload 2, 0, 0) :: c_Circ_isSharp_8
def c_Circ_isSharp_4 : List eg_I := .inl (4, 3, .getfield 57, 10, 0) :: c_Circ_isSharp_7
def c_Circ_isSharp_1 : List eg_I := .inl (1, 3, .getfield 12, 1, 0) :: c_Circ_isSharp_4
def c_Circ_isSharp_0 : List eg_I := .inl (0, 1, .aload 0, 0, 0) :: c_Circ_isSharp_1
section
variable {rm : Room} {K : Nat → Nat → Nat → eg_Lo → List Value → List eg_E → Prop} {Q : Option Value → List eg_E → Prop} {kc ks : Nat} {loc : eg_Lo} {st : List Value} {h : List eg_E}
theorem s_Circ_isSharp_0 {x : Nat} {l : eg_Lo} : wps rm K Q c_Circ_isSharp_0 kc ks (some (.ref x) :: l) (st) h = wps rm K Q c_Circ_isSharp_1 kc ks (some (.ref x) :: l) (.ref x :: st) h := gk_aload rfl
theorem s_Circ_isSharp_1 {x : Nat} : wps rm K Q c_Circ_isSharp_1 kc ks loc (.ref (x + 1) :: st) h = eg_gf h x 1 0 (fun v => wps rm K Q c_Circ_isSharp_4 kc ks loc (v :: st) h) := gk_gf
theorem s_Circ_isSharp_4 {x : Nat} : wps rm K Q c_Circ_isSharp_4 kc ks loc (.ref (x + 1) :: st) h = eg_gf h x 10 0 (fun v => wps rm K Q c_Circ_isSharp_7 kc ks loc (v :: st) h) := gk_gf
theorem s_Circ_isSharp_7 {x : Int32} {l0 l1 : Option Value} {l : eg_Lo} : wps rm K Q c_Circ_isSharp_7 kc ks (l0 :: l1 :: some (.int x) :: l) (st) h = wps rm K Q c_Circ_isSharp_8 kc ks (l0 :: l1 :: some (.int x) :: l) (.int x :: st) h := gk_iload rfl
theorem s_Circ_isSharp_8 {x : Nat} {i : Int32} : wps rm K Q c_Circ_isSharp_8 kc ks loc (.int i :: .ref (x + 1) :: st) h = eg_ia h x i (fun v => wps rm K Q c_Circ_isSharp_9 kc ks loc (.int v :: st) h) := gk_iaload
theorem s_Circ_isSharp_9 {x : Nat} {l : eg_Lo} : wps rm K Q c_Circ_isSharp_9 kc ks (some (.ref x) :: l) (st) h = wps rm K Q c_Circ_isSharp_10 kc ks (some (.ref x) :: l) (.ref x :: st) h := gk_aload rfl
theorem s_Circ_isSharp_10 {x : Nat} : wps rm K Q c_Circ_isSharp_10 kc ks loc (.ref (x + 1) :: st) h = eg_gf h x 1 0 (fun v => wps rm K Q c_Circ_isSharp_13 kc ks loc (v :: st) h) := gk_gf
theorem s_Circ_isSharp_13 {x : Nat} : wps rm K Q c_Circ_isSharp_13 kc ks loc (.ref (x + 1) :: st) h = eg_gf h x 10 0 (fun v => wps rm K Q c_Circ_isSharp_16 kc ks loc (v :: st) h) := gk_gf
theorem s_Circ_isSharp_16 {x : Int32} {l0 : Option Value} {l : eg_Lo} : wps rm K Q c_Circ_isSharp_16 kc ks (l0 :: some (.int x) :: l) (st) h = wps rm K Q c_Circ_isSharp_17 kc ks (l0 :: some (.int x) :: l) (.int x :: st) h := gk_iload rfl
theorem s_Circ_isSharp_17 {x : Nat} {i : Int32} : wps rm K Q c_Circ_isSharp_17 kc ks loc (.int i :: .ref (x + 1) :: st) h = eg_ia h x i (fun v => wps rm K Q c_Circ_isSharp_18 kc ks loc (.int v :: st) h) := gk_iaload
theorem s_Circ_isSharp_18 {x y : Int32} : wps rm K Q c_Circ_isSharp_18 kc ks loc (.int y :: .int x :: st) h = wps rm K Q c_Circ_isSharp_19 kc ks loc (.int (x - y) :: st) h := gk_isub
theorem s_Circ_isSharp_19 {x : Int32} : wps rm K Q c_Circ_isSharp_19 kc ks loc (.int x :: st) h = wps rm K Q c_Circ_isSharp_20 kc ks loc (.long (x.toInt64) :: st) h := gk_i2l
theorem s_Circ_isSharp_20 {x : Nat} {l : eg_Lo} : wps rm K Q c_Circ_isSharp_20 kc ks (some (.ref x) :: l) (st) h = wps rm K Q c_Circ_isSharp_21 kc ks (some (.ref x) :: l) (.ref x :: st) h := gk_aload rfl
theorem s_Circ_isSharp_21 {x : Nat} : wps rm K Q c_Circ_isSharp_21 kc ks loc (.ref (x + 1) :: st) h = eg_gf h x 1 0 (fun v => wps rm K Q c_Circ_isSharp_24 kc ks loc (v :: st) h) := gk_gf
theorem s_Circ_isSharp_24 {x : Nat} : wps rm K Q c_Circ_isSharp_24 kc ks loc (.ref (x + 1) :: st) h = eg_gf h x 10 0 (fun v => wps rm K Q c_Circ_isSharp_27 kc ks loc (v :: st) h) := gk_gf
theorem s_Circ_isSharp_27 {x : Int32} {l0 l1 l2 : Option Value} {l : eg_Lo} : wps rm K Q c_Circ_isSharp_27 kc ks (l0 :: l1 :: l2 :: some (.int x) :: l) (st) h = wps rm K Q c_Circ_isSharp_28 kc ks (l0 :: l1 :: l2 :: some (.int x) :: l) (.int x :: st) h := gk_iload rfl
theorem s_Circ_isSharp_28 {x : Nat} {i : Int32} : wps rm K Q c_Circ_isSharp_28 kc ks loc (.int i :: .ref (x + 1) :: st) h = eg_ia h x i (fun v => wps rm K Q c_Circ_isSharp_29 kc ks loc (.int v :: st) h) := gk_iaload
theorem s_Circ_isSharp_29 {x : Nat} {l : eg_Lo} : wps rm K Q c_Circ_isSharp_29 kc ks (some (.ref x) :: l) (st) h = wps rm K Q c_Circ_isSharp_30 kc ks (some (.ref x) :: l) (.ref x :: st) h := gk_aload rfl
theorem s_Circ_isSharp_30 {x : Nat} : wps rm K Q c_Circ_isSharp_30 kc ks loc (.ref (x + 1) :: st) h = eg_gf h x 1 0 (fun v => wps rm K Q c_Circ_isSharp_33 kc ks loc (v :: st) h) := gk_gf
theorem s_Circ_isSharp_33 {x : Nat} : wps rm K Q c_Circ_isSharp_33 kc ks loc (.ref (x + 1) :: st) h = eg_gf h x 10 0 (fun v => wps rm K Q c_Circ_isSharp_36 kc ks loc (v :: st) h) := gk_gf
theorem s_Circ_isSharp_36 {x : Int32} {l0 : Option Value} {l : eg_Lo} : wps rm K Q c_Circ_isSharp_36 kc ks (l0 :: some (.int x) :: l) (st) h = wps rm K Q c_Circ_isSharp_37 kc ks (l0 :: some (.int x) :: l) (.int x :: st) h := gk_iload rfl
theorem s_Circ_isSharp_37 {x : Nat} {i : Int32} : wps rm K Q c_Circ_isSharp_37 kc ks loc (.int i :: .ref (x + 1) :: st) h = eg_ia h x i (fun v => wps rm K Q c_Circ_isSharp_38 kc ks loc (.int v :: st) h) := gk_iaload
theorem s_Circ_isSharp_38 {x y : Int32} : wps rm K Q c_Circ_isSharp_38 kc ks loc (.int y :: .int x :: st) h = wps rm K Q c_Circ_isSharp_39 kc ks loc (.int (x - y) :: st) h := gk_isub
theorem s_Circ_isSharp_39 {x : Int32} : wps rm K Q c_Circ_isSharp_39 kc ks loc (.int x :: st) h = wps rm K Q c_Circ_isSharp_40 kc ks loc (.long (x.toInt64) :: st) h := gk_i2l
theorem s_Circ_isSharp_40 {x y : Int64} : wps rm K Q c_Circ_isSharp_40 kc ks loc (.long y :: .long x :: st) h = wps rm K Q c_Circ_isSharp_41 kc ks loc (.long (x * y) :: st) h := gk_lmul
theorem s_Circ_isSharp_41 {x : Nat} {l : eg_Lo} : wps rm K Q c_Circ_isSharp_41 kc ks (some (.ref x) :: l) (st) h = wps rm K Q c_Circ_isSharp_42 kc ks (some (.ref x) :: l) (.ref x :: st) h := gk_aload rfl
theorem s_Circ_isSharp_42 {x : Nat} : wps rm K Q c_Circ_isSharp_42 kc ks loc (.ref (x + 1) :: st) h = eg_gf h x 1 0 (fun v => wps rm K Q c_Circ_isSharp_45 kc ks loc (v :: st) h) := gk_gf
theorem s_Circ_isSharp_45 {x : Nat} : wps rm K Q c_Circ_isSharp_45 kc ks loc (.ref (x + 1) :: st) h = eg_gf h x 10 1 (fun v => wps rm K Q c_Circ_isSharp_48 kc ks loc (v :: st) h) := gk_gf
theorem s_Circ_isSharp_48 {x : Int32} {l0 l1 : Option Value} {l : eg_Lo} : wps rm K Q c_Circ_isSharp_48 kc ks (l0 :: l1 :: some (.int x) :: l) (st) h = wps rm K Q c_Circ_isSharp_49 kc ks (l0 :: l1 :: some (.int x) :: l) (.int x :: st) h := gk_iload rfl
theorem s_Circ_isSharp_49 {x : Nat} {i : Int32} : wps rm K Q c_Circ_isSharp_49 kc ks loc (.int i :: .ref (x + 1) :: st) h = eg_ia h x i (fun v => wps rm K Q c_Circ_isSharp_50 kc ks loc (.int v :: st) h) := gk_iaload
theorem s_Circ_isSharp_50 {x : Nat} {l : eg_Lo} : wps rm K Q c_Circ_isSharp_50 kc ks (some (.ref x) :: l) (st) h = wps rm K Q c_Circ_isSharp_51 kc ks (some (.ref x) :: l) (.ref x :: st) h := gk_aload rfl
theorem s_Circ_isSharp_51 {x : Nat} : wps rm K Q c_Circ_isSharp_51 kc ks loc (.ref (x + 1) :: st) h = eg_gf h x 1 0 (fun v => wps rm K Q c_Circ_isSharp_54 kc ks loc (v :: st) h) := gk_gf
theorem s_Circ_isSharp_54 {x : Nat} : wps rm K Q c_Circ_isSharp_54 kc ks loc (.ref (x + 1) :: st) h = eg_gf h x 10 1 (fun v => wps rm K Q c_Circ_isSharp_57 kc ks loc (v :: st) h) := gk_gf
theorem s_Circ_isSharp_57 {x : Int32} {l0 : Option Value} {l : eg_Lo} : wps rm K Q c_Circ_isSharp_57 kc ks (l0 :: some (.int x) :: l) (st) h = wps rm K Q c_Circ_isSharp_58 kc ks (l0 :: some (.int x) :: l) (.int x :: st) h := gk_iload rfl
theorem s_Circ_isSharp_58 {x : Nat} {i : Int32} : wps rm K Q c_Circ_isSharp_58 kc ks loc (.int i :: .ref (x + 1) :: st) h = eg_ia h x i (fun v => wps rm K Q c_Circ_isSharp_59 kc ks loc (.int v :: st) h) := gk_iaload
theorem s_Circ_isSharp_59 {x y : Int32} : wps rm K Q c_Circ_isSharp_59 kc ks loc (.int y :: .int x :: st) h = wps rm K Q c_Circ_isSharp_60 kc ks loc (.int (x - y) :: st) h := gk_isub
theorem s_Circ_isSharp_60 {x : Int32} : wps rm K Q c_Circ_isSharp_60 kc ks loc (.int x :: st) h = wps rm K Q c_Circ_isSharp_61 kc ks loc (.long (x.toInt64) :: st) h := gk_i2l
theorem s_Circ_isSharp_61 {x : Nat} {l : eg_Lo} : wps rm K Q c_Circ_isSharp_61 kc ks (some (.ref x) :: l) (st) h = wps rm K Q c_Circ_isSharp_62 kc ks (some (.ref x) :: l) (.ref x :: st) h := gk_aload rfl
theorem s_Circ_isSharp_62 {x : Nat} : wps rm K Q c_Circ_isSharp_62 kc ks loc (.ref (x + 1) :: st) h = eg_gf h x 1 0 (fun v => wps rm K Q c_Circ_isSharp_65 kc ks loc (v :: st) h) := gk_gf
theorem s_Circ_isSharp_65 {x : Nat} : wps rm K Q c_Circ_isSharp_65 kc ks loc (.ref (x + 1) :: st) h = eg_gf h x 10 1 (fun v => wps rm K Q c_Circ_isSharp_68 kc ks loc (v :: st) h) := gk_gf
theorem s_Circ_isSharp_68 {x : Int32} {l0 l1 l2 : Option Value} {l : eg_Lo} : wps rm K Q c_Circ_isSharp_68 kc ks (l0 :: l1 :: l2 :: some (.int x) :: l) (st) h = wps rm K Q c_Circ_isSharp_69 kc ks (l0 :: l1 :: l2 :: some (.int x) :: l) (.int x :: st) h := gk_iload rfl
theorem s_Circ_isSharp_69 {x : Nat} {i : Int32} : wps rm K Q c_Circ_isSharp_69 kc ks loc (.int i :: .ref (x + 1) :: st) h = eg_ia h x i (fun v => wps rm K Q c_Circ_isSharp_70 kc ks loc (.int v :: st) h) := gk_iaload
theorem s_Circ_isSharp_70 {x : Nat} {l : eg_Lo} : wps rm K Q c_Circ_isSharp_70 kc ks (some (.ref x) :: l) (st) h = wps rm K Q c_Circ_isSharp_71 kc ks (some (.ref x) :: l) (.ref x :: st) h := gk_aload rfl
theorem s_Circ_isSharp_71 {x : Nat} : wps rm K Q c_Circ_isSharp_71 kc ks loc (.ref (x + 1) :: st) h = eg_gf h x 1 0 (fun v => wps rm K Q c_Circ_isSharp_74 kc ks loc (v :: st) h) := gk_gf
theorem s_Circ_isSharp_74 {x : Nat} : wps rm K Q c_Circ_isSharp_74 kc ks loc (.ref (x + 1) :: st) h = eg_gf h x 10 1 (fun v => wps rm K Q c_Circ_isSharp_77 kc ks loc (v :: st) h) := gk_gf
theorem s_Circ_isSharp_77 {x : Int32} {l0 : Option Value} {l : eg_Lo} : wps rm K Q c_Circ_isSharp_77 kc ks (l0 :: some (.int x) :: l) (st) h = wps rm K Q c_Circ_isSharp_78 kc ks (l0 :: some (.int x) :: l) (.int x :: st) h := gk_iload rfl
theorem s_Circ_isSharp_78 {x : Nat} {i : Int32} : wps rm K Q c_Circ_isSharp_78 kc ks loc (.int i :: .ref (x + 1) :: st) h = eg_ia h x i (fun v => wps rm K Q c_Circ_isSharp_79 kc ks loc (.int v :: st) h) := gk_iaload
theorem s_Circ_isSharp_79 {x y : Int32} : wps rm K Q c_Circ_isSharp_79 kc ks loc (.int y :: .int x :: st) h = wps rm K Q c_Circ_isSharp_80 kc ks loc (.int (x - y) :: st) h := gk_isub
theorem s_Circ_isSharp_80 {x : Int32} : wps rm K Q c_Circ_isSharp_80 kc ks loc (.int x :: st) h = wps rm K Q c_Circ_isSharp_81 kc ks loc (.long (x.toInt64) :: st) h := gk_i2l
theorem s_Circ_isSharp_81 {x y : Int64} : wps rm K Q c_Circ_isSharp_81 kc ks loc (.long y :: .long x :: st) h = wps rm K Q c_Circ_isSharp_82 kc ks loc (.long (x * y) :: st) h := gk_lmul
theorem s_Circ_isSharp_82 {x y : Int64} : wps rm K Q c_Circ_isSharp_82 kc ks loc (.long y :: .long x :: st) h = wps rm K Q c_Circ_isSharp_83 kc ks loc (.long (x + y) :: st) h := gk_ladd
theorem s_Circ_isSharp_83 {x : Int64} : wps rm K Q c_Circ_isSharp_83 kc ks loc (.long x :: st) h = wps rm K Q c_Circ_isSharp_85 kc ks (eg_set2 loc 4 (.long x)) (st) h := gk_lstore
theorem s_Circ_isSharp_85 {x : Int64} {l0 l1 l2 l3 : Option Value} {l : eg_Lo} : wps rm K Q c_Circ_isSharp_85 kc ks (l0 :: l1 :: l2 :: l3 :: some (.long x) :: l) (st) h = wps rm K Q c_Circ_isSharp_87 kc ks (l0 :: l1 :: l2 :: l3 :: some (.long x) :: l) (.long x :: st) h := gk_lload rfl
theorem s_Circ_isSharp_87  : wps rm K Q c_Circ_isSharp_87 kc ks loc (st) h = wps rm K Q c_Circ_isSharp_88 kc ks loc (.long (0) :: st) h := gk_lc (by decide)
theorem s_Circ_isSharp_88 {x y : Int64} : wps rm K Q c_Circ_isSharp_88 kc ks loc (.long y :: .long x :: st) h = wps rm K Q c_Circ_isSharp_89 kc ks loc (.int (lg_cmp x y) :: st) h := gk_lcmp
theorem s_Circ_isSharp_89 {x : Int32} : wps rm K Q c_Circ_isSharp_89 kc ks loc (.int x :: st) h = ((x ≤ 0 → K 96 kc ks loc st h) ∧ (¬ x ≤ 0 → wps rm K Q c_Circ_isSharp_92 kc ks loc (st) h)) := gk_if1_le
theorem s_Circ_isSharp_92  : wps rm K Q c_Circ_isSharp_92 kc ks loc (st) h = wps rm K Q c_Circ_isSharp_93 kc ks loc (.int (1) :: st) h := gk_ic (by decide)
theorem s_Circ_isSharp_93  : wps rm K Q c_Circ_isSharp_93 kc ks loc (st) h = K 97 kc ks loc st h := gk_goto
theorem s_Circ_isSharp_96  : wps rm K Q c_Circ_isSharp_96 kc ks loc (st) h = wps rm K Q c_Circ_isSharp_97 kc ks loc (.int (0) :: st) h := gk_ic (by decide)
theorem s_Circ_isSharp_97 {x : Int32} : wps rm K Q c_Circ_isSharp_97 kc ks loc ([.int x]) h = (kc = rm.cells ∧ ((1 : Nat) = 1 → x = 0 ∨ x = 1) ∧ Q (some (.int x)) h) := gk_iret
def T_Circ_isSharp : List (Nat × List eg_I) := [(96, c_Circ_isSharp_96), (97, c_Circ_isSharp_97)]
theorem j_Circ_isSharp_96 {R : Nat → Nat → Nat → eg_Lo → List Value → List eg_E → Prop} {f pc0 : Nat} : eg_run rm R Q T_Circ_isSharp (f + 1) 96 kc ks loc st h = wps rm (eg_run rm R Q T_Circ_isSharp f) Q c_Circ_isSharp_96 kc ks loc st h := rfl
theorem j_Circ_isSharp_97 {R : Nat → Nat → Nat → eg_Lo → List Value → List eg_E → Prop} {f pc0 : Nat} : eg_run rm R Q T_Circ_isSharp (f + 1) 97 kc ks loc st h = wps rm (eg_run rm R Q T_Circ_isSharp f) Q c_Circ_isSharp_97 kc ks loc st h := rfl
end
theorem y_Circ_isSharp_0 : eg_seq m_Circ_isSharp 0 c_Circ_isSharp_0 = true := by decide +kernel
theorem y_Circ_isSharp_96 : eg_seq m_Circ_isSharp 96 c_Circ_isSharp_96 = true := by decide +kernel
theorem q_Circ_isSharp : ∀ q ∈ T_Circ_isSharp, eg_seq m_Circ_isSharp q.1 q.2 = true := by
  intro q hq
  simp only [T_Circ_isSharp, List.mem_cons, List.not_mem_nil, or_false] at hq
  rcases hq with rfl | rfl
  · exact y_Circ_isSharp_96
  · exact (eg_seq_drop y_Circ_isSharp_96 1 : eg_seq m_Circ_isSharp 97 c_Circ_isSharp_97 = true)
theorem b_Circ_isSharp {as : List Value} {h : List eg_E} {Q : Option Value → List eg_E → Prop} (hf : (eg_fl as).length ≤ 6) (hw : wps (eg_rm m_Circ_isSharp) (eg_run (eg_rm m_Circ_isSharp) (eg_R m_Circ_isSharp Q (h.length + 0)) Q T_Circ_isSharp 4) Q c_Circ_isSharp_0 0 0 (eg_entry 6 as) [] h) : eg_Runs n_Circ_isSharp as h Q := eg_begin2 (d := m_Circ_isSharp) rfl (by decide) y_Circ_isSharp_0 q_Circ_isSharp hf hw
/-! ===== Circ_isNewPlace ===== -/
def z_Circ_isNewPlace_2 : List eg_I := [.inl (2, 0, .nop, 0, 0)]
def c_Circ_isNewPlace_28 : List eg_I := .inl (28, 1, .ireturn, 0, 1) :: []
def c_Circ_isNewPlace_27 : List eg_I := .inl (27, 1, .iconst (1), 0, 0) :: c_Circ_isNewPlace_28
def c_Circ_isNewPlace_24 : List eg_I := .inl (24, 3, .goto (-22), 2, 0) :: []
def c_Circ_isNewPlace_21 : List eg_I := .inl (21, 3, .iinc 2 (1), 0, 0) :: c_Circ_isNewPlace_24
def c_Circ_isNewPlace_20 : List eg_I := .inl (20, 1, .ireturn, 0, 1) :: []
def c_Circ_isNewPlace_19 : List eg_I := .inl (19, 1, .iconst (0), 0, 0) :: c_Circ_isNewPlace_20
def c_Circ_isNewPlace_16 : List eg_I := .inl (16, 3, .ifCond .eq (5), 21, 0) :: c_Circ_isNewPlace_19
def c_Circ_isNewPlace_13 : List eg_I := .inr (13, 1, 36, n_Tou_isOnePlace, 2, 10, 0, 0) :: c_Circ_isNewPlace_16
def c_Circ_isNewPlace_12 : List eg_I := .inl (12, 1, .iload 1, 0, 0) :: c_Circ_isNewPlace_13
def c_Circ_isNewPlace_11 : List eg_I := .inl (11, 1, .iload 2, 0, 0) :: c_Circ_isNewPlace_12
def c_Circ_isNewPlace_8 : List eg_I := .inl (8, 3, .getfield 12, 1, 0) :: c_Circ_isNewPlace_11
def c_Circ_isNewPlace_7 : List eg_I := .inl (7, 1, .aload 0, 0, 0) :: c_Circ_isNewPlace_8
def c_Circ_isNewPlace_4 : List eg_I := .inl (4, 3, .if_icmp .ge (23), 27, 0) :: c_Circ_isNewPlace_7
def c_Circ_isNewPlace_3 : List eg_I := .inl (3, 1, .iload 1, 0, 0) :: c_Circ_isNewPlace_4
def c_Circ_isNewPlace_2 : List eg_I := .inl (2, 1, .iload 2, 0, 0) :: c_Circ_isNewPlace_3
def c_Circ_isNewPlace_1 : List eg_I := .inl (1, 1, .istore 2, 0, 0) :: z_Circ_isNewPlace_2
def c_Circ_isNewPlace_0 : List eg_I := .inl (0, 1, .iconst (0), 0, 0) :: c_Circ_isNewPlace_1
section
variable {rm : Room} {K : Nat → Nat → Nat → eg_Lo → List Value → List eg_E → Prop} {Q : Option Value → List eg_E → Prop} {kc ks : Nat} {loc : eg_Lo} {st : List Value} {h : List eg_E}
theorem s_Circ_isNewPlace_0  : wps rm K Q c_Circ_isNewPlace_0 kc ks loc (st) h = wps rm K Q c_Circ_isNewPlace_1 kc ks loc (.int (0) :: st) h := gk_ic (by decide)
theorem s_Circ_isNewPlace_1 {x : Int32} : wps rm K Q c_Circ_isNewPlace_1 kc ks loc (.int x :: st) h = wps rm K Q z_Circ_isNewPlace_2 kc ks (eg_set1 loc 2 (.int x)) (st) h := gk_istore
theorem s_Circ_isNewPlace_2 {x : Int32} {l0 l1 : Option Value} {l : eg_Lo} : wps rm K Q c_Circ_isNewPlace_2 kc ks (l0 :: l1 :: some (.int x) :: l) (st) h = wps rm K Q c_Circ_isNewPlace_3 kc ks (l0 :: l1 :: some (.int x) :: l) (.int x :: st) h := gk_iload rfl
theorem s_Circ_isNewPlace_3 {x : Int32} {l0 : Option Value} {l : eg_Lo} : wps rm K Q c_Circ_isNewPlace_3 kc ks (l0 :: some (.int x) :: l) (st) h = wps rm K Q c_Circ_isNewPlace_4 kc ks (l0 :: some (.int x) :: l) (.int x :: st) h := gk_iload rfl
theorem s_Circ_isNewPlace_4 {x y : Int32} : wps rm K Q c_Circ_isNewPlace_4 kc ks loc (.int y :: .int x :: st) h = ((y ≤ x → K 27 kc ks loc st h) ∧ (¬ y ≤ x → wps rm K Q c_Circ_isNewPlace_7 kc ks loc (st) h)) := gk_if2_ge
theorem s_Circ_isNewPlace_7 {x : Nat} {l : eg_Lo} : wps rm K Q c_Circ_isNewPlace_7 kc ks (some (.ref x) :: l) (st) h = wps rm K Q c_Circ_isNewPlace_8 kc ks (some (.ref x) :: l) (.ref x :: st) h := gk_aload rfl
theorem s_Circ_isNewPlace_8 {x : Nat} : wps rm K Q c_Circ_isNewPlace_8 kc ks loc (.ref (x + 1) :: st) h = eg_gf h x 1 0 (fun v => wps rm K Q c_Circ_isNewPlace_11 kc ks loc (v :: st) h) := gk_gf
theorem s_Circ_isNewPlace_11 {x : Int32} {l0 l1 : Option Value} {l : eg_Lo} : wps rm K Q c_Circ_isNewPlace_11 kc ks (l0 :: l1 :: some (.int x) :: l) (st) h = wps rm K Q c_Circ_isNewPlace_12 kc ks (l0 :: l1 :: some (.int x) :: l) (.int x :: st) h := gk_iload rfl
theorem s_Circ_isNewPlace_12 {x : Int32} {l0 : Option Value} {l : eg_Lo} : wps rm K Q c_Circ_isNewPlace_12 kc ks (l0 :: some (.int x) :: l) (st) h = wps rm K Q c_Circ_isNewPlace_13 kc ks (l0 :: some (.int x) :: l) (.int x :: st) h := gk_iload rfl
theorem s_Circ_isNewPlace_13  {a1 : Value} {a2 : Value} {x : Nat} : wps rm K Q c_Circ_isNewPlace_13 kc ks loc (a2 :: a1 :: .ref (x + 1) :: st) h = (eg_cls h x 10 ∧ st.length ≤ 4 ∧ eg_Cs n_Tou_isOnePlace (.ref (x + 1) :: [a1, a2]) h (fun v h9 => wps rm K Q c_Circ_isNewPlace_16 kc ks loc (v.toList ++ st) h9)) := eg_c1_2
theorem s_Circ_isNewPlace_16 {x : Int32} : wps rm K Q c_Circ_isNewPlace_16 kc ks loc (.int x :: st) h = ((x = 0 → K 21 kc ks loc st h) ∧ (¬ x = 0 → wps rm K Q c_Circ_isNewPlace_19 kc ks loc (st) h)) := gk_if1_eq
theorem s_Circ_isNewPlace_19  : wps rm K Q c_Circ_isNewPlace_19 kc ks loc (st) h = wps rm K Q c_Circ_isNewPlace_20 kc ks loc (.int (0) :: st) h := gk_ic (by decide)
theorem s_Circ_isNewPlace_20 {x : Int32} : wps rm K Q c_Circ_isNewPlace_20 kc ks loc ([.int x]) h = (kc = rm.cells ∧ ((1 : Nat) = 1 → x = 0 ∨ x = 1) ∧ Q (some (.int x)) h) := gk_iret
theorem s_Circ_isNewPlace_21 {x : Int32} {l0 l1 : Option Value} {lz : eg_Lo} : wps rm K Q c_Circ_isNewPlace_21 kc ks (l0 :: l1 :: some (.int x) :: lz) (st) h = wps rm K Q c_Circ_isNewPlace_24 kc ks (eg_set1 (l0 :: l1 :: some (.int x) :: lz) 2 (.int (x + (1)))) (st) h := gk_iinc rfl (by decide)
theorem s_Circ_isNewPlace_24  : wps rm K Q c_Circ_isNewPlace_24 kc ks loc (st) h = K 2 kc ks loc st h := gk_goto
theorem s_Circ_isNewPlace_27  : wps rm K Q c_Circ_isNewPlace_27 kc ks loc (st) h = wps rm K Q c_Circ_isNewPlace_28 kc ks loc (.int (1) :: st) h := gk_ic (by decide)
theorem s_Circ_isNewPlace_28 {x : Int32} : wps rm K Q c_Circ_isNewPlace_28 kc ks loc ([.int x]) h = (kc = rm.cells ∧ ((1 : Nat) = 1 → x = 0 ∨ x = 1) ∧ Q (some (.int x)) h) := gk_iret
theorem sz_Circ_isNewPlace_2 : wps rm K Q z_Circ_isNewPlace_2 kc ks loc st h = K 2 kc ks loc st h := gk_nop
def T_Circ_isNewPlace : List (Nat × List eg_I) := [(21, c_Circ_isNewPlace_21), (27, c_Circ_isNewPlace_27)]
theorem j_Circ_isNewPlace_21 {R : Nat → Nat → Nat → eg_Lo → List Value → List eg_E → Prop} {f pc0 : Nat} : eg_run rm R Q T_Circ_isNewPlace (f + 1) 21 kc ks loc st h = wps rm (eg_run rm R Q T_Circ_isNewPlace f) Q c_Circ_isNewPlace_21 kc ks loc st h := rfl
theorem j_Circ_isNewPlace_27 {R : Nat → Nat → Nat → eg_Lo → List Value → List eg_E → Prop} {f pc0 : Nat} : eg_run rm R Q T_Circ_isNewPlace (f + 1) 27 kc ks loc st h = wps rm (eg_run rm R Q T_Circ_isNewPlace f) Q c_Circ_isNewPlace_27 kc ks loc st h := rfl
theorem j_Circ_isNewPlace_2 {R : Nat → Nat → Nat → eg_Lo → List Value → List eg_E → Prop} {f pc0 : Nat} : eg_run rm R Q T_Circ_isNewPlace (f + 1) 2 kc ks loc st h = R 2 kc ks loc st h := rfl
end
theorem y_Circ_isNewPlace_0 : eg_seq m_Circ_isNewPlace 0 c_Circ_isNewPlace_0 = true := by decide +kernel
theorem y_Circ_isNewPlace_2 : eg_seq m_Circ_isNewPlace 2 c_Circ_isNewPlace_2 = true := by decide +kernel
theorem y_Circ_isNewPlace_21 : eg_seq m_Circ_isNewPlace 21 c_Circ_isNewPlace_21 = true := by decide +kernel
theorem y_Circ_isNewPlace_27 : eg_seq m_Circ_isNewPlace 27 c_Circ_isNewPlace_27 = true := by decide +kernel
theorem q_Circ_isNewPlace : ∀ q ∈ T_Circ_isNewPlace, eg_seq m_Circ_isNewPlace q.1 q.2 = true := by
  intro q hq
  simp only [T_Circ_isNewPlace, List.mem_cons, List.not_mem_nil, or_false] at hq
  rcases hq with rfl | rfl
  · exact y_Circ_isNewPlace_21
  · exact y_Circ_isNewPlace_27
theorem b_Circ_isNewPlace {as : List Value} {h : List eg_E} {Q : Option Value → List eg_E → Prop} (hf : (eg_fl as).length ≤ 3) (hw : wps (eg_rm m_Circ_isNewPlace) (eg_run (eg_rm m_Circ_isNewPlace) (eg_R m_Circ_isNewPlace Q (h.length + 0)) Q T_Circ_isNewPlace 4) Q c_Circ_isNewPlace_0 0 0 (eg_entry 3 as) [] h) : eg_Runs n_Circ_isNewPlace as h Q := eg_begin2 (d := m_Circ_isNewPlace) rfl (by decide) y_Circ_isNewPlace_0 q_Circ_isNewPlace hf hw
theorem p_Circ_isNewPlace_2 {Q : Option Value → List eg_E → Prop} {n0 kc ks : Nat} {loc : eg_Lo} {st : List Value} {h : List eg_E} (hw : wps (eg_rm m_Circ_isNewPlace) (eg_run (eg_rm m_Circ_isNewPlace) (eg_R m_Circ_isNewPlace Q n0) Q T_Circ_isNewPlace 4) Q c_Circ_isNewPlace_2 kc ks loc st h) : eg_R m_Circ_isNewPlace Q n0 2 kc ks loc st h := eg_go2 y_Circ_isNewPlace_2 q_Circ_isNewPlace hw
/-! ===== Circ_setCircle ===== -/
def c_Circ_setCircle_22 : List eg_I := .inl (22, 1, .return_, 0, 0) :: []
def c_Circ_setCircle_19 : List eg_I := .inl (19, 3, .putfield 98, 1, 4) :: c_Circ_setCircle_22
def c_Circ_setCircle_17 : List eg_I := .inl (17, 2, .lload 6, 0, 0) :: c_Circ_setCircle_19
def c_Circ_setCircle_16 : List eg_I := .inl (16, 1, .aload 0, 0, 0) :: c_Circ_setCircle_17
def c_Circ_setCircle_13 : List eg_I := .inl (13, 3, .putfield 95, 1, 3) :: c_Circ_setCircle_16
def c_Circ_setCircle_11 : List eg_I := .inl (11, 2, .lload 4, 0, 0) :: c_Circ_setCircle_13
def c_Circ_setCircle_10 : List eg_I := .inl (10, 1, .aload 0, 0, 0) :: c_Circ_setCircle_11
def c_Circ_setCircle_7 : List eg_I := .inl (7, 3, .putfield 91, 1, 2) :: c_Circ_setCircle_10
def c_Circ_setCircle_6 : List eg_I := .inl (6, 1, .lload 2, 0, 0) :: c_Circ_setCircle_7
def c_Circ_setCircle_5 : List eg_I := .inl (5, 1, .aload 0, 0, 0) :: c_Circ_setCircle_6
def c_Circ_setCircle_2 : List eg_I := .inl (2, 3, .putfield 88, 1, 1) :: c_Circ_setCircle_5
def c_Circ_setCircle_1 : List eg_I := .inl (1, 1, .iload 1, 0, 0) :: c_Circ_setCircle_2
def c_Circ_setCircle_0 : List eg_I := .inl (0, 1, .aload 0, 0, 0) :: c_Circ_setCircle_1
section
variable {rm : Room} {K : Nat → Nat → Nat → eg_Lo → List Value → List eg_E → Prop} {Q : Option Value → List eg_E → Prop} {kc ks : Nat} {loc : eg_Lo} {st : List Value} {h : List eg_E}
theorem s_Circ_setCircle_0 {x : Nat} {l : eg_Lo} : wps rm K Q c_Circ_setCircle_0 kc ks (some (.ref x) :: l) (st) h = wps rm K Q c_Circ_setCircle_1 kc ks (some (.ref x) :: l) (.ref x :: st) h := gk_aload rfl
theorem s_Circ_setCircle_1 {x : Int32} {l0 : Option Value} {l : eg_Lo} : wps rm K Q c_Circ_setCircle_1 kc ks (l0 :: some (.int x) :: l) (st) h = wps rm K Q c_Circ_setCircle_2 kc ks (l0 :: some (.int x) :: l) (.int x :: st) h := gk_iload rfl
theorem s_Circ_setCircle_2 {x : Nat} {v : Value} : wps rm K Q c_Circ_setCircle_2 kc ks loc (v :: .ref (x + 1) :: st) h = eg_pf h x 1 1 v (fun h9 => wps rm K Q c_Circ_setCircle_5 kc ks loc (st) h9) := gk_pf
theorem s_Circ_setCircle_5 {x : Nat} {l : eg_Lo} : wps rm K Q c_Circ_setCircle_5 kc ks (some (.ref x) :: l) (st) h = wps rm K Q c_Circ_setCircle_6 kc ks (some (.ref x) :: l) (.ref x :: st) h := gk_aload rfl
theorem s_Circ_setCircle_6 {x : Int64} {l0 l1 : Option Value} {l : eg_Lo} : wps rm K Q c_Circ_setCircle_6 kc ks (l0 :: l1 :: some (.long x) :: l) (st) h = wps rm K Q c_Circ_setCircle_7 kc ks (l0 :: l1 :: some (.long x) :: l) (.long x :: st) h := gk_lload rfl
theorem s_Circ_setCircle_7 {x : Nat} {v : Value} : wps rm K Q c_Circ_setCircle_7 kc ks loc (v :: .ref (x + 1) :: st) h = eg_pf h x 1 2 v (fun h9 => wps rm K Q c_Circ_setCircle_10 kc ks loc (st) h9) := gk_pf
theorem s_Circ_setCircle_10 {x : Nat} {l : eg_Lo} : wps rm K Q c_Circ_setCircle_10 kc ks (some (.ref x) :: l) (st) h = wps rm K Q c_Circ_setCircle_11 kc ks (some (.ref x) :: l) (.ref x :: st) h := gk_aload rfl
theorem s_Circ_setCircle_11 {x : Int64} {l0 l1 l2 l3 : Option Value} {l : eg_Lo} : wps rm K Q c_Circ_setCircle_11 kc ks (l0 :: l1 :: l2 :: l3 :: some (.long x) :: l) (st) h = wps rm K Q c_Circ_setCircle_13 kc ks (l0 :: l1 :: l2 :: l3 :: some (.long x) :: l) (.long x :: st) h := gk_lload rfl
theorem s_Circ_setCircle_13 {x : Nat} {v : Value} : wps rm K Q c_Circ_setCircle_13 kc ks loc (v :: .ref (x + 1) :: st) h = eg_pf h x 1 3 v (fun h9 => wps rm K Q c_Circ_setCircle_16 kc ks loc (st) h9) := gk_pf
theorem s_Circ_setCircle_16 {x : Nat} {l : eg_Lo} : wps rm K Q c_Circ_setCircle_16 kc ks (some (.ref x) :: l) (st) h = wps rm K Q c_Circ_setCircle_17 kc ks (some (.ref x) :: l) (.ref x :: st) h := gk_aload rfl
theorem s_Circ_setCircle_17 {x : Int64} {l0 l1 l2 l3 l4 l5 : Option Value} {l : eg_Lo} : wps rm K Q c_Circ_setCircle_17 kc ks (l0 :: l1 :: l2 :: l3 :: l4 :: l5 :: some (.long x) :: l) (st) h = wps rm K Q c_Circ_setCircle_19 kc ks (l0 :: l1 :: l2 :: l3 :: l4 :: l5 :: some (.long x) :: l) (.long x :: st) h := gk_lload rfl
theorem s_Circ_setCircle_19 {x : Nat} {v : Value} : wps rm K Q c_Circ_setCircle_19 kc ks loc (v :: .ref (x + 1) :: st) h = eg_pf h x 1 4 v (fun h9 => wps rm K Q c_Circ_setCircle_22 kc ks loc (st) h9) := gk_pf
theorem s_Circ_setCircle_22  : wps rm K Q c_Circ_setCircle_22 kc ks loc ([]) h = (kc = rm.cells ∧ Q none h) := gk_vret
def T_Circ_setCircle : List (Nat × List eg_I) := []
end
theorem y_Circ_setCircle_0 : eg_seq m_Circ_setCircle 0 c_Circ_setCircle_0 = true := by decide +kernel
theorem q_Circ_setCircle : ∀ q ∈ T_Circ_setCircle, eg_seq m_Circ_setCircle q.1 q.2 = true := by
  intro q hq
  cases hq
theorem b_Circ_setCircle {as : List Value} {h : List eg_E} {Q : Option Value → List eg_E → Prop} (hf : (eg_fl as).length ≤ 8) (hw : wps (eg_rm m_Circ_setCircle) (eg_run (eg_rm m_Circ_setCircle) (eg_R m_Circ_setCircle Q (h.length + 0)) Q T_Circ_setCircle 2) Q c_Circ_setCircle_0 0 0 (eg_entry 8 as) [] h) : eg_Runs n_Circ_setCircle as h Q := eg_begin2 (d := m_Circ_setCircle) rfl (by decide) y_Circ_setCircle_0 q_Circ_setCircle hf hw
/-! ===== Circ_setCircleOfThree ===== -/
def c_Circ_setCircleOfThree_185 : List eg_I := .inl (185, 1, .return_, 0, 0) :: []
def c_Circ_setCircleOfThree_182 : List eg_I := .inr (182, 1, 40, n_Circ_setCircle, 4, 1, 0, 0) :: c_Circ_setCircleOfThree_185
def c_Circ_setCircleOfThree_181 : List eg_I := .inl (181, 1, .lmul, 0, 0) :: c_Circ_setCircleOfThree_182
def c_Circ_setCircleOfThree_179 : List eg_I := .inl (179, 2, .lload 16, 0, 0) :: c_Circ_setCircleOfThree_181
def c_Circ_setCircleOfThree_178 : List eg_I := .inl (178, 1, .lmul, 0, 0) :: c_Circ_setCircleOfThree_179
def c_Circ_setCircleOfThree_175 : List eg_I := .inl (175, 3, .sipush (2), 63, 0) :: c_Circ_setCircleOfThree_178
def c_Circ_setCircleOfThree_173 : List eg_I := .inl (173, 2, .lload 18, 0, 0) :: c_Circ_setCircleOfThree_175
def c_Circ_setCircleOfThree_172 : List eg_I := .inl (172, 1, .lmul, 0, 0) :: c_Circ_setCircleOfThree_173
def c_Circ_setCircleOfThree_171 : List eg_I := .inl (171, 1, .lsub, 0, 0) :: c_Circ_setCircleOfThree_172
def c_Circ_setCircleOfThree_170 : List eg_I := .inl (170, 1, .lmul, 0, 0) :: c_Circ_setCircleOfThree_171
def c_Circ_setCircleOfThree_168 : List eg_I := .inl (168, 2, .lload 12, 0, 0) :: c_Circ_setCircleOfThree_170
def c_Circ_setCircleOfThree_166 : List eg_I := .inl (166, 2, .lload 8, 0, 0) :: c_Circ_setCircleOfThree_168
def c_Circ_setCircleOfThree_165 : List eg_I := .inl (165, 1, .lmul, 0, 0) :: c_Circ_setCircleOfThree_166
def c_Circ_setCircleOfThree_163 : List eg_I := .inl (163, 2, .lload 14, 0, 0) :: c_Circ_setCircleOfThree_165
def c_Circ_setCircleOfThree_161 : List eg_I := .inl (161, 2, .lload 4, 0, 0) :: c_Circ_setCircleOfThree_163
def c_Circ_setCircleOfThree_159 : List eg_I := .inl (159, 2, .lload 18, 0, 0) :: c_Circ_setCircleOfThree_161
def c_Circ_setCircleOfThree_158 : List eg_I := .inl (158, 1, .lmul, 0, 0) :: c_Circ_setCircleOfThree_159
def c_Circ_setCircleOfThree_157 : List eg_I := .inl (157, 1, .lsub, 0, 0) :: c_Circ_setCircleOfThree_158
def c_Circ_setCircleOfThree_156 : List eg_I := .inl (156, 1, .lmul, 0, 0) :: c_Circ_setCircleOfThree_157
def c_Circ_setCircleOfThree_154 : List eg_I := .inl (154, 2, .lload 14, 0, 0) :: c_Circ_setCircleOfThree_156
def c_Circ_setCircleOfThree_152 : List eg_I := .inl (152, 2, .lload 6, 0, 0) :: c_Circ_setCircleOfThree_154
def c_Circ_setCircleOfThree_151 : List eg_I := .inl (151, 1, .lmul, 0, 0) :: c_Circ_setCircleOfThree_152
def c_Circ_setCircleOfThree_149 : List eg_I := .inl (149, 2, .lload 12, 0, 0) :: c_Circ_setCircleOfThree_151
def c_Circ_setCircleOfThree_147 : List eg_I := .inl (147, 2, .lload 10, 0, 0) :: c_Circ_setCircleOfThree_149
def c_Circ_setCircleOfThree_145 : List eg_I := .inl (145, 2, .lload 18, 0, 0) :: c_Circ_setCircleOfThree_147
def c_Circ_setCircleOfThree_144 : List eg_I := .inl (144, 1, .iload 1, 0, 0) :: c_Circ_setCircleOfThree_145
def c_Circ_setCircleOfThree_143 : List eg_I := .inl (143, 1, .aload 0, 0, 0) :: c_Circ_setCircleOfThree_144
def c_Circ_setCircleOfThree_141 : List eg_I := .inl (141, 2, .lstore 18, 0, 0) :: c_Circ_setCircleOfThree_143
def c_Circ_setCircleOfThree_140 : List eg_I := .inl (140, 1, .sipush (1), 0, 0) :: c_Circ_setCircleOfThree_141
def c_Circ_setCircleOfThree_137 : List eg_I := .inl (137, 3, .goto (4), 141, 0) :: []
def c_Circ_setCircleOfThree_134 : List eg_I := .inl (134, 3, .sipush (-1), 101, 0) :: c_Circ_setCircleOfThree_137
def c_Circ_setCircleOfThree_131 : List eg_I := .inl (131, 3, .ifCond .ge (9), 140, 0) :: c_Circ_setCircleOfThree_134
def c_Circ_setCircleOfThree_130 : List eg_I := .inl (130, 1, .lcmp, 0, 0) :: c_Circ_setCircleOfThree_131
def c_Circ_setCircleOfThree_129 : List eg_I := .inl (129, 1, .sipush (0), 0, 0) :: c_Circ_setCircleOfThree_130
def c_Circ_setCircleOfThree_127 : List eg_I := .inl (127, 2, .lload 16, 0, 0) :: c_Circ_setCircleOfThree_129
def c_Circ_setCircleOfThree_125 : List eg_I := .inl (125, 2, .lstore 16, 0, 0) :: c_Circ_setCircleOfThree_127
def c_Circ_setCircleOfThree_124 : List eg_I := .inl (124, 1, .lsub, 0, 0) :: c_Circ_setCircleOfThree_125
def c_Circ_setCircleOfThree_123 : List eg_I := .inl (123, 1, .lmul, 0, 0) :: c_Circ_setCircleOfThree_124
def c_Circ_setCircleOfThree_121 : List eg_I := .inl (121, 2, .lload 8, 0, 0) :: c_Circ_setCircleOfThree_123
def c_Circ_setCircleOfThree_119 : List eg_I := .inl (119, 2, .lload 6, 0, 0) :: c_Circ_setCircleOfThree_121
def c_Circ_setCircleOfThree_118 : List eg_I := .inl (118, 1, .lmul, 0, 0) :: c_Circ_setCircleOfThree_119
def c_Circ_setCircleOfThree_116 : List eg_I := .inl (116, 2, .lload 10, 0, 0) :: c_Circ_setCircleOfThree_118
def c_Circ_setCircleOfThree_114 : List eg_I := .inl (114, 2, .lload 4, 0, 0) :: c_Circ_setCircleOfThree_116
def c_Circ_setCircleOfThree_112 : List eg_I := .inl (112, 2, .lstore 14, 0, 0) :: c_Circ_setCircleOfThree_114
def c_Circ_setCircleOfThree_111 : List eg_I := .inl (111, 1, .ladd, 0, 0) :: c_Circ_setCircleOfThree_112
def c_Circ_setCircleOfThree_110 : List eg_I := .inl (110, 1, .lmul, 0, 0) :: c_Circ_setCircleOfThree_111
def c_Circ_setCircleOfThree_108 : List eg_I := .inl (108, 2, .lload 10, 0, 0) :: c_Circ_setCircleOfThree_110
def c_Circ_setCircleOfThree_106 : List eg_I := .inl (106, 2, .lload 10, 0, 0) :: c_Circ_setCircleOfThree_108
def c_Circ_setCircleOfThree_105 : List eg_I := .inl (105, 1, .lmul, 0, 0) :: c_Circ_setCircleOfThree_106
def c_Circ_setCircleOfThree_103 : List eg_I := .inl (103, 2, .lload 8, 0, 0) :: c_Circ_setCircleOfThree_105
def c_Circ_setCircleOfThree_101 : List eg_I := .inl (101, 2, .lload 8, 0, 0) :: c_Circ_setCircleOfThree_103
def c_Circ_setCircleOfThree_99 : List eg_I := .inl (99, 2, .lstore 12, 0, 0) :: c_Circ_setCircleOfThree_101
def c_Circ_setCircleOfThree_98 : List eg_I := .inl (98, 1, .ladd, 0, 0) :: c_Circ_setCircleOfThree_99
def c_Circ_setCircleOfThree_97 : List eg_I := .inl (97, 1, .lmul, 0, 0) :: c_Circ_setCircleOfThree_98
def c_Circ_setCircleOfThree_95 : List eg_I := .inl (95, 2, .lload 6, 0, 0) :: c_Circ_setCircleOfThree_97
def c_Circ_setCircleOfThree_93 : List eg_I := .inl (93, 2, .lload 6, 0, 0) :: c_Circ_setCircleOfThree_95
def c_Circ_setCircleOfThree_92 : List eg_I := .inl (92, 1, .lmul, 0, 0) :: c_Circ_setCircleOfThree_93
def c_Circ_setCircleOfThree_90 : List eg_I := .inl (90, 2, .lload 4, 0, 0) :: c_Circ_setCircleOfThree_92
def c_Circ_setCircleOfThree_88 : List eg_I := .inl (88, 2, .lload 4, 0, 0) :: c_Circ_setCircleOfThree_90
def c_Circ_setCircleOfThree_86 : List eg_I := .inl (86, 2, .lstore 10, 0, 0) :: c_Circ_setCircleOfThree_88
def c_Circ_setCircleOfThree_85 : List eg_I := .inl (85, 1, .i2l, 0, 0) :: c_Circ_setCircleOfThree_86
def c_Circ_setCircleOfThree_84 : List eg_I := .inl (84, 1, .isub, 0, 0) :: c_Circ_setCircleOfThree_85
def c_Circ_setCircleOfThree_83 : List eg_I := .inl (83, 1, .iaload, 0, 0) :: c_Circ_setCircleOfThree_84
def c_Circ_setCircleOfThree_82 : List eg_I := .inl (82, 1, .iload 1, 0, 0) :: c_Circ_setCircleOfThree_83
def c_Circ_setCircleOfThree_79 : List eg_I := .inl (79, 3, .getfield 60, 10, 1) :: c_Circ_setCircleOfThree_82
def c_Circ_setCircleOfThree_76 : List eg_I := .inl (76, 3, .getfield 12, 1, 0) :: c_Circ_setCircleOfThree_79
def c_Circ_setCircleOfThree_75 : List eg_I := .inl (75, 1, .aload 0, 0, 0) :: c_Circ_setCircleOfThree_76
def c_Circ_setCircleOfThree_74 : List eg_I := .inl (74, 1, .iaload, 0, 0) :: c_Circ_setCircleOfThree_75
def c_Circ_setCircleOfThree_73 : List eg_I := .inl (73, 1, .iload 3, 0, 0) :: c_Circ_setCircleOfThree_74
def c_Circ_setCircleOfThree_70 : List eg_I := .inl (70, 3, .getfield 60, 10, 1) :: c_Circ_setCircleOfThree_73
def c_Circ_setCircleOfThree_67 : List eg_I := .inl (67, 3, .getfield 12, 1, 0) :: c_Circ_setCircleOfThree_70
def c_Circ_setCircleOfThree_66 : List eg_I := .inl (66, 1, .aload 0, 0, 0) :: c_Circ_setCircleOfThree_67
def c_Circ_setCircleOfThree_64 : List eg_I := .inl (64, 2, .lstore 8, 0, 0) :: c_Circ_setCircleOfThree_66
def c_Circ_setCircleOfThree_63 : List eg_I := .inl (63, 1, .i2l, 0, 0) :: c_Circ_setCircleOfThree_64
def c_Circ_setCircleOfThree_62 : List eg_I := .inl (62, 1, .isub, 0, 0) :: c_Circ_setCircleOfThree_63
def c_Circ_setCircleOfThree_61 : List eg_I := .inl (61, 1, .iaload, 0, 0) :: c_Circ_setCircleOfThree_62
def c_Circ_setCircleOfThree_60 : List eg_I := .inl (60, 1, .iload 1, 0, 0) :: c_Circ_setCircleOfThree_61
def c_Circ_setCircleOfThree_57 : List eg_I := .inl (57, 3, .getfield 57, 10, 0) :: c_Circ_setCircleOfThree_60
def c_Circ_setCircleOfThree_54 : List eg_I := .inl (54, 3, .getfield 12, 1, 0) :: c_Circ_setCircleOfThree_57
def c_Circ_setCircleOfThree_53 : List eg_I := .inl (53, 1, .aload 0, 0, 0) :: c_Circ_setCircleOfThree_54
def c_Circ_setCircleOfThree_52 : List eg_I := .inl (52, 1, .iaload, 0, 0) :: c_Circ_setCircleOfThree_53
def c_Circ_setCircleOfThree_51 : List eg_I := .inl (51, 1, .iload 3, 0, 0) :: c_Circ_setCircleOfThree_52
def c_Circ_setCircleOfThree_48 : List eg_I := .inl (48, 3, .getfield 57, 10, 0) :: c_Circ_setCircleOfThree_51
def c_Circ_setCircleOfThree_45 : List eg_I := .inl (45, 3, .getfield 12, 1, 0) :: c_Circ_setCircleOfThree_48
def c_Circ_setCircleOfThree_44 : List eg_I := .inl (44, 1, .aload 0, 0, 0) :: c_Circ_setCircleOfThree_45
def c_Circ_setCircleOfThree_42 : List eg_I := .inl (42, 2, .lstore 6, 0, 0) :: c_Circ_setCircleOfThree_44
def c_Circ_setCircleOfThree_41 : List eg_I := .inl (41, 1, .i2l, 0, 0) :: c_Circ_setCircleOfThree_42
def c_Circ_setCircleOfThree_40 : List eg_I := .inl (40, 1, .isub, 0, 0) :: c_Circ_setCircleOfThree_41
def c_Circ_setCircleOfThree_39 : List eg_I := .inl (39, 1, .iaload, 0, 0) :: c_Circ_setCircleOfThree_40
def c_Circ_setCircleOfThree_38 : List eg_I := .inl (38, 1, .iload 1, 0, 0) :: c_Circ_setCircleOfThree_39
def c_Circ_setCircleOfThree_35 : List eg_I := .inl (35, 3, .getfield 60, 10, 1) :: c_Circ_setCircleOfThree_38
def c_Circ_setCircleOfThree_32 : List eg_I := .inl (32, 3, .getfield 12, 1, 0) :: c_Circ_setCircleOfThree_35
def c_Circ_setCircleOfThree_31 : List eg_I := .inl (31, 1, .aload 0, 0, 0) :: c_Circ_setCircleOfThree_32
def c_Circ_setCircleOfThree_30 : List eg_I := .inl (30, 1, .iaload, 0, 0) :: c_Circ_setCircleOfThree_31
def c_Circ_setCircleOfThree_29 : List eg_I := .inl (29, 1, .iload 2, 0, 0) :: c_Circ_setCircleOfThree_30
def c_Circ_setCircleOfThree_26 : List eg_I := .inl (26, 3, .getfield 60, 10, 1) :: c_Circ_setCircleOfThree_29
def c_Circ_setCircleOfThree_23 : List eg_I := .inl (23, 3, .getfield 12, 1, 0) :: c_Circ_setCircleOfThree_26
def c_Circ_setCircleOfThree_22 : List eg_I := .inl (22, 1, .aload 0, 0, 0) :: c_Circ_setCircleOfThree_23
def c_Circ_setCircleOfThree_20 : List eg_I := .inl (20, 2, .lstore 4, 0, 0) :: c_Circ_setCircleOfThree_22
def c_Circ_setCircleOfThree_19 : List eg_I := .inl (19, 1, .i2l, 0, 0) :: c_Circ_setCircleOfThree_20
def c_Circ_setCircleOfThree_18 : List eg_I := .inl (18, 1, .isub, 0, 0) :: c_Circ_setCircleOfThree_19
def c_Circ_setCircleOfThree_17 : List eg_I := .inl (17, 1, .iaload, 0, 0) :: c_Circ_setCircleOfThree_18
def c_Circ_setCircleOfThree_16 : List eg_I := .inl (16, 1, .iload 1, 0, 0) :: c_Circ_setCircleOfThree_17
def c_Circ_setCircleOfThree_13 : List eg_I := .inl (13, 3, .getfield 57, 10, 0) :: c_Circ_setCircleOfThree_16
def c_Circ_setCircleOfThree_10 : List eg_I := .inl (10, 3, .getfield 12, 1, 0) :: c_Circ_setCircleOfThree_13
def c_Circ_setCircleOfThree_9 : List eg_I := .inl (9, 1, .aload 0, 0, 0) :: c_Circ_setCircleOfThree_10
def c_Circ_setCircleOfThree_8 : List eg_I := .inl (8, 1, .iaload, 0, 0) :: c_Circ_setCircleOfThree_9
def c_Circ_setCircleOfThree_7 : List eg_I := .inl (7, 1, .iload 2, 0, 0) :: c_Circ_setCircleOfThree_8
def c_Circ_setCircleOfThree_4 : List eg_I := .inl (4, 3, .getfield 57, 10, 0) :: c_Circ_setCircleOfThree_7
def c_Circ_setCircleOfThree_1 : List eg_I := .inl (1, 3, .getfield 12, 1, 0) :: c_Circ_setCircleOfThree_4
def c_Circ_setCircleOfThree_0 : List eg_I := .inl (0, 1, .aload 0, 0, 0) :: c_Circ_setCircleOfThree_1
section
variable {rm : Room} {K : Nat → Nat → Nat → eg_Lo → List Value → List eg_E → Prop} {Q : Option Value → List eg_E → Prop} {kc ks : Nat} {loc : eg_Lo} {st : List Value} {h : List eg_E}
theorem s_Circ_setCircleOfThree_0 {x : Nat} {l : eg_Lo} : wps rm K Q c_Circ_setCircleOfThree_0 kc ks (some (.ref x) :: l) (st) h = wps rm K Q c_Circ_setCircleOfThree_1 kc ks (some (.ref x) :: l) (.ref x :: st) h := gk_aload rfl
theorem s_Circ_setCircleOfThree_1 {x : Nat} : wps rm K Q c_Circ_setCircleOfThree_1 kc ks loc (.ref (x + 1) :: st) h = eg_gf h x 1 0 (fun v => wps rm K Q c_Circ_setCircleOfThree_4 kc ks loc (v :: st) h) := gk_gf
theorem s_Circ_setCircleOfThree_4 {x : Nat} : wps rm K Q c_Circ_setCircleOfThree_4 kc ks loc (.ref (x + 1) :: st) h = eg_gf h x 10 0 (fun v => wps rm K Q c_Circ_setCircleOfThree_7 kc ks loc (v :: st) h) := gk_gf
theorem s_Circ_setCircleOfThree_7 {x : Int32} {l0 l1 : Option Value} {l : eg_Lo} : wps rm K Q c_Circ_setCircleOfThree_7 kc ks (l0 :: l1 :: some (.int x) :: l) (st) h = wps rm K Q c_Circ_setCircleOfThree_8 kc ks (l0 :: l1 :: some (.int x) :: l) (.int x :: st) h := gk_iload rfl
theorem s_Circ_setCircleOfThree_8 {x : Nat} {i : Int32} : wps rm K Q c_Circ_setCircleOfThree_8 kc ks loc (.int i :: .ref (x + 1) :: st) h = eg_ia h x i (fun v => wps rm K Q c_Circ_setCircleOfThree_9 kc ks loc (.int v :: st) h) := gk_iaload
theorem s_Circ_setCircleOfThree_9 {x : Nat} {l : eg_Lo} : wps rm K Q c_Circ_setCircleOfThree_9 kc ks (some (.ref x) :: l) (st) h = wps rm K Q c_Circ_setCircleOfThree_10 kc ks (some (.ref x) :: l) (.ref x :: st) h := gk_aload rfl
theorem s_Circ_setCircleOfThree_10 {x : Nat} : wps rm K Q c_Circ_setCircleOfThree_10 kc ks loc (.ref (x + 1) :: st) h = eg_gf h x 1 0 (fun v => wps rm K Q c_Circ_setCircleOfThree_13 kc ks loc (v :: st) h) := gk_gf
theorem s_Circ_setCircleOfThree_13 {x : Nat} : wps rm K Q c_Circ_setCircleOfThree_13 kc ks loc (.ref (x + 1) :: st) h = eg_gf h x 10 0 (fun v => wps rm K Q c_Circ_setCircleOfThree_16 kc ks loc (v :: st) h) := gk_gf
theorem s_Circ_setCircleOfThree_16 {x : Int32} {l0 : Option Value} {l : eg_Lo} : wps rm K Q c_Circ_setCircleOfThree_16 kc ks (l0 :: some (.int x) :: l) (st) h = wps rm K Q c_Circ_setCircleOfThree_17 kc ks (l0 :: some (.int x) :: l) (.int x :: st) h := gk_iload rfl
theorem s_Circ_setCircleOfThree_17 {x : Nat} {i : Int32} : wps rm K Q c_Circ_setCircleOfThree_17 kc ks loc (.int i :: .ref (x + 1) :: st) h = eg_ia h x i (fun v => wps rm K Q c_Circ_setCircleOfThree_18 kc ks loc (.int v :: st) h) := gk_iaload
theorem s_Circ_setCircleOfThree_18 {x y : Int32} : wps rm K Q c_Circ_setCircleOfThree_18 kc ks loc (.int y :: .int x :: st) h = wps rm K Q c_Circ_setCircleOfThree_19 kc ks loc (.int (x - y) :: st) h := gk_isub
theorem s_Circ_setCircleOfThree_19 {x : Int32} : wps rm K Q c_Circ_setCircleOfThree_19 kc ks loc (.int x :: st) h = wps rm K Q c_Circ_setCircleOfThree_20 kc ks loc (.long (x.toInt64) :: st) h := gk_i2l
theorem s_Circ_setCircleOfThree_20 {x : Int64} : wps rm K Q c_Circ_setCircleOfThree_20 kc ks loc (.long x :: st) h = wps rm K Q c_Circ_setCircleOfThree_22 kc ks (eg_set2 loc 4 (.long x)) (st) h := gk_lstore
theorem s_Circ_setCircleOfThree_22 {x : Nat} {l : eg_Lo} : wps rm K Q c_Circ_setCircleOfThree_22 kc ks (some (.ref x) :: l) (st) h = wps rm K Q c_Circ_setCircleOfThree_23 kc ks (some (.ref x) :: l) (.ref x :: st) h := gk_aload rfl
theorem s_Circ_setCircleOfThree_23 {x : Nat} : wps rm K Q c_Circ_setCircleOfThree_23 kc ks loc (.ref (x + 1) :: st) h = eg_gf h x 1 0 (fun v => wps rm K Q c_Circ_setCircleOfThree_26 kc ks loc (v :: st) h) := gk_gf
theorem s_Circ_setCircleOfThree_26 {x : Nat} : wps rm K Q c_Circ_setCircleOfThree_26 kc ks loc (.ref (x + 1) :: st) h = eg_gf h x 10 1 (fun v => wps rm K Q c_Circ_setCircleOfThree_29 kc ks loc (v :: st) h) := gk_gf
theorem s_Circ_setCircleOfThree_29 {x : Int32} {l0 l1 : Option Value} {l : eg_Lo} : wps rm K Q c_Circ_setCircleOfThree_29 kc ks (l0 :: l1 :: some (.int x) :: l) (st) h = wps rm K Q c_Circ_setCircleOfThree_30 kc ks (l0 :: l1 :: some (.int x) :: l) (.int x :: st) h := gk_iload rfl
theorem s_Circ_setCircleOfThree_30 {x : Nat} {i : Int32} : wps rm K Q c_Circ_setCircleOfThree_30 kc ks loc (.int i :: .ref (x + 1) :: st) h = eg_ia h x i (fun v => wps rm K Q c_Circ_setCircleOfThree_31 kc ks loc (.int v :: st) h) := gk_iaload
theorem s_Circ_setCircleOfThree_31 {x : Nat} {l : eg_Lo} : wps rm K Q c_Circ_setCircleOfThree_31 kc ks (some (.ref x) :: l) (st) h = wps rm K Q c_Circ_setCircleOfThree_32 kc ks (some (.ref x) :: l) (.ref x :: st) h := gk_aload rfl
theorem s_Circ_setCircleOfThree_32 {x : Nat} : wps rm K Q c_Circ_setCircleOfThree_32 kc ks loc (.ref (x + 1) :: st) h = eg_gf h x 1 0 (fun v => wps rm K Q c_Circ_setCircleOfThree_35 kc ks loc (v :: st) h) := gk_gf
theorem s_Circ_setCircleOfThree_35 {x : Nat} : wps rm K Q c_Circ_setCircleOfThree_35 kc ks loc (.ref (x + 1) :: st) h = eg_gf h x 10 1 (fun v => wps rm K Q c_Circ_setCircleOfThree_38 kc ks loc (v :: st) h) := gk_gf
theorem s_Circ_setCircleOfThree_38 {x : Int32} {l0 : Option Value} {l : eg_Lo} : wps rm K Q c_Circ_setCircleOfThree_38 kc ks (l0 :: some (.int x) :: l) (st) h = wps rm K Q c_Circ_setCircleOfThree_39 kc ks (l0 :: some (.int x) :: l) (.int x :: st) h := gk_iload rfl
theorem s_Circ_setCircleOfThree_39 {x : Nat} {i : Int32} : wps rm K Q c_Circ_setCircleOfThree_39 kc ks loc (.int i :: .ref (x + 1) :: st) h = eg_ia h x i (fun v => wps rm K Q c_Circ_setCircleOfThree_40 kc ks loc (.int v :: st) h) := gk_iaload
theorem s_Circ_setCircleOfThree_40 {x y : Int32} : wps rm K Q c_Circ_setCircleOfThree_40 kc ks loc (.int y :: .int x :: st) h = wps rm K Q c_Circ_setCircleOfThree_41 kc ks loc (.int (x - y) :: st) h := gk_isub
theorem s_Circ_setCircleOfThree_41 {x : Int32} : wps rm K Q c_Circ_setCircleOfThree_41 kc ks loc (.int x :: st) h = wps rm K Q c_Circ_setCircleOfThree_42 kc ks loc (.long (x.toInt64) :: st) h := gk_i2l
theorem s_Circ_setCircleOfThree_42 {x : Int64} : wps rm K Q c_Circ_setCircleOfThree_42 kc ks loc (.long x :: st) h = wps rm K Q c_Circ_setCircleOfThree_44 kc ks (eg_set2 loc 6 (.long x)) (st) h := gk_lstore
theorem s_Circ_setCircleOfThree_44 {x : Nat} {l : eg_Lo} : wps rm K Q c_Circ_setCircleOfThree_44 kc ks (some (.ref x) :: l) (st) h = wps rm K Q c_Circ_setCircleOfThree_45 kc ks (some (.ref x) :: l) (.ref x :: st) h := gk_aload rfl
theorem s_Circ_setCircleOfThree_45 {x : Nat} : wps rm K Q c_Circ_setCircleOfThree_45 kc ks loc (.ref (x + 1) :: st) h = eg_gf h x 1 0 (fun v => wps rm K Q c_Circ_setCircleOfThree_48 kc ks loc (v :: st) h) := gk_gf
theorem s_Circ_setCircleOfThree_48 {x : Nat} : wps rm K Q c_Circ_setCircleOfThree_48 kc ks loc (.ref (x + 1) :: st) h = eg_gf h x 10 0 (fun v => wps rm K Q c_Circ_setCircleOfThree_51 kc ks loc (v :: st) h) := gk_gf
theorem s_Circ_setCircleOfThree_51 {x : Int32} {l0 l1 l2 : Option Value} {l : eg_Lo} : wps rm K Q c_Circ_setCircleOfThree_51 kc ks (l0 :: l1 :: l2 :: some (.int x) :: l) (st) h = wps rm K Q c_Circ_setCircleOfThree_52 kc ks (l0 :: l1 :: l2 :: some (.int x) :: l) (.int x :: st) h := gk_iload rfl
theorem s_Circ_setCircleOfThree_52 {x : Nat} {i : Int32} : wps rm K Q c_Circ_setCircleOfThree_52 kc ks loc (.int i :: .ref (x + 1) :: st) h = eg_ia h x i (fun v => wps rm K Q c_Circ_setCircleOfThree_53 kc ks loc (.int v :: st) h) := gk_iaload
theorem s_Circ_setCircleOfThree_53 {x : Nat} {l : eg_Lo} : wps rm K Q c_Circ_setCircleOfThree_53 kc ks (some (.ref x) :: l) (st) h = wps rm K Q c_Circ_setCircleOfThree_54 kc ks (some (.ref x) :: l) (.ref x :: st) h := gk_aload rfl
theorem s_Circ_setCircleOfThree_54 {x : Nat} : wps rm K Q c_Circ_setCircleOfThree_54 kc ks loc (.ref (x + 1) :: st) h = eg_gf h x 1 0 (fun v => wps rm K Q c_Circ_setCircleOfThree_57 kc ks loc (v :: st) h) := gk_gf
theorem s_Circ_setCircleOfThree_57 {x : Nat} : wps rm K Q c_Circ_setCircleOfThree_57 kc ks loc (.ref (x + 1) :: st) h = eg_gf h x 10 0 (fun v => wps rm K Q c_Circ_setCircleOfThree_60 kc ks loc (v :: st) h) := gk_gf
theorem s_Circ_setCircleOfThree_60 {x : Int32} {l0 : Option Value} {l : eg_Lo} : wps rm K Q c_Circ_setCircleOfThree_60 kc ks (l0 :: some (.int x) :: l) (st) h = wps rm K Q c_Circ_setCircleOfThree_61 kc ks (l0 :: some (.int x) :: l) (.int x :: st) h := gk_iload rfl
theorem s_Circ_setCircleOfThree_61 {x : Nat} {i : Int32} : wps rm K Q c_Circ_setCircleOfThree_61 kc ks loc (.int i :: .ref (x + 1) :: st) h = eg_ia h x i (fun v => wps rm K Q c_Circ_setCircleOfThree_62 kc ks loc (.int v :: st) h) := gk_iaload
theorem s_Circ_setCircleOfThree_62 {x y : Int32} : wps rm K Q c_Circ_setCircleOfThree_62 kc ks loc (.int y :: .int x :: st) h = wps rm K Q c_Circ_setCircleOfThree_63 kc ks loc (.int (x - y) :: st) h := gk_isub
theorem s_Circ_setCircleOfThree_63 {x : Int32} : wps rm K Q c_Circ_setCircleOfThree_63 kc ks loc (.int x :: st) h = wps rm K Q c_Circ_setCircleOfThree_64 kc ks loc (.long (x.toInt64) :: st) h := gk_i2l
theorem s_Circ_setCircleOfThree_64 {x : Int64} : wps rm K Q c_Circ_setCircleOfThree_64 kc ks loc (.long x :: st) h = wps rm K Q c_Circ_setCircleOfThree_66 kc ks (eg_set2 loc 8 (.long x)) (st) h := gk_lstore
theorem s_Circ_setCircleOfThree_66 {x : Nat} {l : eg_Lo} : wps rm K Q c_Circ_setCircleOfThree_66 kc ks (some (.ref x) :: l) (st) h = wps rm K Q c_Circ_setCircleOfThree_67 kc ks (some (.ref x) :: l) (.ref x :: st) h := gk_aload rfl
theorem s_Circ_setCircleOfThree_67 {x : Nat} : wps rm K Q c_Circ_setCircleOfThree_67 kc ks loc (.ref (x + 1) :: st) h = eg_gf h x 1 0 (fun v => wps rm K Q c_Circ_setCircleOfThree_70 kc ks loc (v :: st) h) := gk_gf
theorem s_Circ_setCircleOfThree_70 {x : Nat} : wps rm K Q c_Circ_setCircleOfThree_70 kc ks loc (.ref (x + 1) :: st) h = eg_gf h x 10 1 (fun v => wps rm K Q c_Circ_setCircleOfThree_73 kc ks loc (v :: st) h) := gk_gf
theorem s_Circ_setCircleOfThree_73 {x : Int32} {l0 l1 l2 : Option Value} {l : eg_Lo} : wps rm K Q c_Circ_setCircleOfThree_73 kc ks (l0 :: l1 :: l2 :: some (.int x) :: l) (st) h = wps rm K Q c_Circ_setCircleOfThree_74 kc ks (l0 :: l1 :: l2 :: some (.int x) :: l) (.int x :: st) h := gk_iload rfl
theorem s_Circ_setCircleOfThree_74 {x : Nat} {i : Int32} : wps rm K Q c_Circ_setCircleOfThree_74 kc ks loc (.int i :: .ref (x + 1) :: st) h = eg_ia h x i (fun v => wps rm K Q c_Circ_setCircleOfThree_75 kc ks loc (.int v :: st) h) := gk_iaload
theorem s_Circ_setCircleOfThree_75 {x : Nat} {l : eg_Lo} : wps rm K Q c_Circ_setCircleOfThree_75 kc ks (some (.ref x) :: l) (st) h = wps rm K Q c_Circ_setCircleOfThree_76 kc ks (some (.ref x) :: l) (.ref x :: st) h := gk_aload rfl
theorem s_Circ_setCircleOfThree_76 {x : Nat} : wps rm K Q c_Circ_setCircleOfThree_76 kc ks loc (.ref (x + 1) :: st) h = eg_gf h x 1 0 (fun v => wps rm K Q c_Circ_setCircleOfThree_79 kc ks loc (v :: st) h) := gk_gf
theorem s_Circ_setCircleOfThree_79 {x : Nat} : wps rm K Q c_Circ_setCircleOfThree_79 kc ks loc (.ref (x + 1) :: st) h = eg_gf h x 10 1 (fun v => wps rm K Q c_Circ_setCircleOfThree_82 kc ks loc (v :: st) h) := gk_gf
theorem s_Circ_setCircleOfThree_82 {x : Int32} {l0 : Option Value} {l : eg_Lo} : wps rm K Q c_Circ_setCircleOfThree_82 kc ks (l0 :: some (.int x) :: l) (st) h = wps rm K Q c_Circ_setCircleOfThree_83 kc ks (l0 :: some (.int x) :: l) (.int x :: st) h := gk_iload rfl
theorem s_Circ_setCircleOfThree_83 {x : Nat} {i : Int32} : wps rm K Q c_Circ_setCircleOfThree_83 kc ks loc (.int i :: .ref (x + 1) :: st) h = eg_ia h x i (fun v => wps rm K Q c_Circ_setCircleOfThree_84 kc ks loc (.int v :: st) h) := gk_iaload
theorem s_Circ_setCircleOfThree_84 {x y : Int32} : wps rm K Q c_Circ_setCircleOfThree_84 kc ks loc (.int y :: .int x :: st) h = wps rm K Q c_Circ_setCircleOfThree_85 kc ks loc (.int (x - y) :: st) h := gk_isub
theorem s_Circ_setCircleOfThree_85 {x : Int32} : wps rm K Q c_Circ_setCircleOfThree_85 kc ks loc (.int x :: st) h = wps rm K Q c_Circ_setCircleOfThree_86 kc ks loc (.long (x.toInt64) :: st) h := gk_i2l
theorem s_Circ_setCircleOfThree_86 {x : Int64} : wps rm K Q c_Circ_setCircleOfThree_86 kc ks loc (.long x :: st) h = wps rm K Q c_Circ_setCircleOfThree_88 kc ks (eg_set2 loc 10 (.long x)) (st) h := gk_lstore
theorem s_Circ_setCircleOfThree_88 {x : Int64} {l0 l1 l2 l3 : Option Value} {l : eg_Lo} : wps rm K Q c_Circ_setCircleOfThree_88 kc ks (l0 :: l1 :: l2 :: l3 :: some (.long x) :: l) (st) h = wps rm K Q c_Circ_setCircleOfThree_90 kc ks (l0 :: l1 :: l2 :: l3 :: some (.long x) :: l) (.long x :: st) h := gk_lload rfl
theorem s_Circ_setCircleOfThree_90 {x : Int64} {l0 l1 l2 l3 : Option Value} {l : eg_Lo} : wps rm K Q c_Circ_setCircleOfThree_90 kc ks (l0 :: l1 :: l2 :: l3 :: some (.long x) :: l) (st) h = wps rm K Q c_Circ_setCircleOfThree_92 kc ks (l0 :: l1 :: l2 :: l3 :: some (.long x) :: l) (.long x :: st) h := gk_lload rfl
theorem s_Circ_setCircleOfThree_92 {x y : Int64} : wps rm K Q c_Circ_setCircleOfThree_92 kc ks loc (.long y :: .long x :: st) h = wps rm K Q c_Circ_setCircleOfThree_93 kc ks loc (.long (x * y) :: st) h := gk_lmul
theorem s_Circ_setCircleOfThree_93 {x : Int64} {l0 l1 l2 l3 l4 l5 : Option Value} {l : eg_Lo} : wps rm K Q c_Circ_setCircleOfThree_93 kc ks (l0 :: l1 :: l2 :: l3 :: l4 :: l5 :: some (.long x) :: l) (st) h = wps rm K Q c_Circ_setCircleOfThree_95 kc ks (l0 :: l1 :: l2 :: l3 :: l4 :: l5 :: some (.long x) :: l) (.long x :: st) h := gk_lload rfl
theorem s_Circ_setCircleOfThree_95 {x : Int64} {l0 l1 l2 l3 l4 l5 : Option Value} {l : eg_Lo} : wps rm K Q c_Circ_setCircleOfThree_95 kc ks (l0 :: l1 :: l2 :: l3 :: l4 :: l5 :: some (.long x) :: l) (st) h = wps rm K Q c_Circ_setCircleOfThree_97 kc ks (l0 :: l1 :: l2 :: l3 :: l4 :: l5 :: some (.long x) :: l) (.long x :: st) h := gk_lload rfl
theorem s_Circ_setCircleOfThree_97 {x y : Int64} : wps rm K Q c_Circ_setCircleOfThree_97 kc ks loc (.long y :: .long x :: st) h = wps rm K Q c_Circ_setCircleOfThree_98 kc ks loc (.long (x * y) :: st) h := gk_lmul
theorem s_Circ_setCircleOfThree_98 {x y : Int64} : wps rm K Q c_Circ_setCircleOfThree_98 kc ks loc (.long y :: .long x :: st) h = wps rm K Q c_Circ_setCircleOfThree_99 kc ks loc (.long (x + y) :: st) h := gk_ladd
theorem s_Circ_setCircleOfThree_99 {x : Int64} : wps rm K Q c_Circ_setCircleOfThree_99 kc ks loc (.long x :: st) h = wps rm K Q c_Circ_setCircleOfThree_101 kc ks (eg_set2 loc 12 (.long x)) (st) h := gk_lstore
theorem s_Circ_setCircleOfThree_101 {x : Int64} {l0 l1 l2 l3 l4 l5 l6 l7 : Option Value} {l : eg_Lo} : wps rm K Q c_Circ_setCircleOfThree_101 kc ks (l0 :: l1 :: l2 :: l3 :: l4 :: l5 :: l6 :: l7 :: some (.long x) :: l) (st) h = wps rm K Q c_Circ_setCircleOfThree_103 kc ks (l0 :: l1 :: l2 :: l3 :: l4 :: l5 :: l6 :: l7 :: some (.long x) :: l) (.long x :: st) h := gk_lload rfl
theorem s_Circ_setCircleOfThree_103 {x : Int64} {l0 l1 l2 l3 l4 l5 l6 l7 : Option Value} {l : eg_Lo} : wps rm K Q c_Circ_setCircleOfThree_103 kc ks (l0 :: l1 :: l2 :: l3 :: l4 :: l5 :: l6 :: l7 :: some (.long x) :: l) (st) h = wps rm K Q c_Circ_setCircleOfThree_105 kc ks (l0 :: l1 :: l2 :: l3 :: l4 :: l5 :: l6 :: l7 :: some (.long x) :: l) (.long x :: st) h := gk_lload rfl
theorem s_Circ_setCircleOfThree_105 {x y : Int64} : wps rm K Q c_Circ_setCircleOfThree_105 kc ks loc (.long y :: .long x :: st) h = wps rm K Q c_Circ_setCircleOfThree_106 kc ks loc (.long (x * y) :: st) h := gk_lmul
theorem s_Circ_setCircleOfThree_106 {x : Int64} {l0 l1 l2 l3 l4 l5 l6 l7 l8 l9 : Option Value} {l : eg_Lo} : wps rm K Q c_Circ_setCircleOfThree_106 kc ks (l0 :: l1 :: l2 :: l3 :: l4 :: l5 :: l6 :: l7 :: l8 :: l9 :: some (.long x) :: l) (st) h = wps rm K Q c_Circ_setCircleOfThree_108 kc ks (l0 :: l1 :: l2 :: l3 :: l4 :: l5 :: l6 :: l7 :: l8 :: l9 :: some (.long x) :: l) (.long x :: st) h := gk_lload rfl
theorem s_Circ_setCircleOfThree_108 {x : Int64} {l0 l1 l2 l3 l4 l5 l6 l7 l8 l9 : Option Value} {l : eg_Lo} : wps rm K Q c_Circ_setCircleOfThree_108 kc ks (l0 :: l1 :: l2 :: l3 :: l4 :: l5 :: l6 :: l7 :: l8 :: l9 :: some (.long x) :: l) (st) h = wps rm K Q c_Circ_setCircleOfThree_110 kc ks (l0 :: l1 :: l2 :: l3 :: l4 :: l5 :: l6 :: l7 :: l8 :: l9 :: some (.long x) :: l) (.long x :: st) h := gk_lload rfl
theorem s_Circ_setCircleOfThree_110 {x y : Int64} : wps rm K Q c_Circ_setCircleOfThree_110 kc ks loc (.long y :: .long x :: st) h = wps rm K Q c_Circ_setCircleOfThree_111 kc ks loc (.long (x * y) :: st) h := gk_lmul
theorem s_Circ_setCircleOfThree_111 {x y : Int64} : wps rm K Q c_Circ_setCircleOfThree_111 kc ks loc (.long y :: .long x :: st) h = wps rm K Q c_Circ_setCircleOfThree_112 kc ks loc (.long (x + y) :: st) h := gk_ladd
theorem s_Circ_setCircleOfThree_112 {x : Int64} : wps rm K Q c_Circ_setCircleOfThree_112 kc ks loc (.long x :: st) h = wps rm K Q c_Circ_setCircleOfThree_114 kc ks (eg_set2 loc 14 (.long x)) (st) h := gk_lstore
theorem s_Circ_setCircleOfThree_114 {x : Int64} {l0 l1 l2 l3 : Option Value} {l : eg_Lo} : wps rm K Q c_Circ_setCircleOfThree_114 kc ks (l0 :: l1 :: l2 :: l3 :: some (.long x) :: l) (st) h = wps rm K Q c_Circ_setCircleOfThree_116 kc ks (l0 :: l1 :: l2 :: l3 :: some (.long x) :: l) (.long x :: st) h := gk_lload rfl
theorem s_Circ_setCircleOfThree_116 {x : Int64} {l0 l1 l2 l3 l4 l5 l6 l7 l8 l9 : Option Value} {l : eg_Lo} : wps rm K Q c_Circ_setCircleOfThree_116 kc ks (l0 :: l1 :: l2 :: l3 :: l4 :: l5 :: l6 :: l7 :: l8 :: l9 :: some (.long x) :: l) (st) h = wps rm K Q c_Circ_setCircleOfThree_118 kc ks (l0 :: l1 :: l2 :: l3 :: l4 :: l5 :: l6 :: l7 :: l8 :: l9 :: some (.long x) :: l) (.long x :: st) h := gk_lload rfl
theorem s_Circ_setCircleOfThree_118 {x y : Int64} : wps rm K Q c_Circ_setCircleOfThree_118 kc ks loc (.long y :: .long x :: st) h = wps rm K Q c_Circ_setCircleOfThree_119 kc ks loc (.long (x * y) :: st) h := gk_lmul
theorem s_Circ_setCircleOfThree_119 {x : Int64} {l0 l1 l2 l3 l4 l5 : Option Value} {l : eg_Lo} : wps rm K Q c_Circ_setCircleOfThree_119 kc ks (l0 :: l1 :: l2 :: l3 :: l4 :: l5 :: some (.long x) :: l) (st) h = wps rm K Q c_Circ_setCircleOfThree_121 kc ks (l0 :: l1 :: l2 :: l3 :: l4 :: l5 :: some (.long x) :: l) (.long x :: st) h := gk_lload rfl
theorem s_Circ_setCircleOfThree_121 {x : Int64} {l0 l1 l2 l3 l4 l5 l6 l7 : Option Value} {l : eg_Lo} : wps rm K Q c_Circ_setCircleOfThree_121 kc ks (l0 :: l1 :: l2 :: l3 :: l4 :: l5 :: l6 :: l7 :: some (.long x) :: l) (st) h = wps rm K Q c_Circ_setCircleOfThree_123 kc ks (l0 :: l1 :: l2 :: l3 :: l4 :: l5 :: l6 :: l7 :: some (.long x) :: l) (.long x :: st) h := gk_lload rfl
theorem s_Circ_setCircleOfThree_123 {x y : Int64} : wps rm K Q c_Circ_setCircleOfThree_123 kc ks loc (.long y :: .long x :: st) h = wps rm K Q c_Circ_setCircleOfThree_124 kc ks loc (.long (x * y) :: st) h := gk_lmul
theorem s_Circ_setCircleOfThree_124 {x y : Int64} : wps rm K Q c_Circ_setCircleOfThree_124 kc ks loc (.long y :: .long x :: st) h = wps rm K Q c_Circ_setCircleOfThree_125 kc ks loc (.long (x - y) :: st) h := gk_lsub
theorem s_Circ_setCircleOfThree_125 {x : Int64} : wps rm K Q c_Circ_setCircleOfThree_125 kc ks loc (.long x :: st) h = wps rm K Q c_Circ_setCircleOfThree_127 kc ks (eg_set2 loc 16 (.long x)) (st) h := gk_lstore
theorem s_Circ_setCircleOfThree_127 {x : Int64} {l0 l1 l2 l3 l4 l5 l6 l7 l8 l9 l10 l11 l12 l13 l14 l15 : Option Value} {l : eg_Lo} : wps rm K Q c_Circ_setCircleOfThree_127 kc ks (l0 :: l1 :: l2 :: l3 :: l4 :: l5 :: l6 :: l7 :: l8 :: l9 :: l10 :: l11 :: l12 :: l13 :: l14 :: l15 :: some (.long x) :: l) (st) h = wps rm K Q c_Circ_setCircleOfThree_129 kc ks (l0 :: l1 :: l2 :: l3 :: l4 :: l5 :: l6 :: l7 :: l8 :: l9 :: l10 :: l11 :: l12 :: l13 :: l14 :: l15 :: some (.long x) :: l) (.long x :: st) h := gk_lload rfl
theorem s_Circ_setCircleOfThree_129  : wps rm K Q c_Circ_setCircleOfThree_129 kc ks loc (st) h = wps rm K Q c_Circ_setCircleOfThree_130 kc ks loc (.long (0) :: st) h := gk_lc (by decide)
theorem s_Circ_setCircleOfThree_130 {x y : Int64} : wps rm K Q c_Circ_setCircleOfThree_130 kc ks loc (.long y :: .long x :: st) h = wps rm K Q c_Circ_setCircleOfThree_131 kc ks loc (.int (lg_cmp x y) :: st) h := gk_lcmp
theorem s_Circ_setCircleOfThree_131 {x : Int32} : wps rm K Q c_Circ_setCircleOfThree_131 kc ks loc (.int x :: st) h = ((0 ≤ x → K 140 kc ks loc st h) ∧ (¬ 0 ≤ x → wps rm K Q c_Circ_setCircleOfThree_134 kc ks loc (st) h)) := gk_if1_ge
theorem s_Circ_setCircleOfThree_134  : wps rm K Q c_Circ_setCircleOfThree_134 kc ks loc (st) h = wps rm K Q c_Circ_setCircleOfThree_137 kc ks loc (.long (-1) :: st) h := gk_lc (by decide)
theorem s_Circ_setCircleOfThree_137  : wps rm K Q c_Circ_setCircleOfThree_137 kc ks loc (st) h = K 141 kc ks loc st h := gk_goto
theorem s_Circ_setCircleOfThree_140  : wps rm K Q c_Circ_setCircleOfThree_140 kc ks loc (st) h = wps rm K Q c_Circ_setCircleOfThree_141 kc ks loc (.long (1) :: st) h := gk_lc (by decide)
theorem s_Circ_setCircleOfThree_141 {x : Int64} : wps rm K Q c_Circ_setCircleOfThree_141 kc ks loc (.long x :: st) h = wps rm K Q c_Circ_setCircleOfThree_143 kc ks (eg_set2 loc 18 (.long x)) (st) h := gk_lstore
theorem s_Circ_setCircleOfThree_143 {x : Nat} {l : eg_Lo} : wps rm K Q c_Circ_setCircleOfThree_143 kc ks (some (.ref x) :: l) (st) h = wps rm K Q c_Circ_setCircleOfThree_144 kc ks (some (.ref x) :: l) (.ref x :: st) h := gk_aload rfl
theorem s_Circ_setCircleOfThree_144 {x : Int32} {l0 : Option Value} {l : eg_Lo} : wps rm K Q c_Circ_setCircleOfThree_144 kc ks (l0 :: some (.int x) :: l) (st) h = wps rm K Q c_Circ_setCircleOfThree_145 kc ks (l0 :: some (.int x) :: l) (.int x :: st) h := gk_iload rfl
theorem s_Circ_setCircleOfThree_145 {x : Int64} {l0 l1 l2 l3 l4 l5 l6 l7 l8 l9 l10 l11 l12 l13 l14 l15 l16 l17 : Option Value} {l : eg_Lo} : wps rm K Q c_Circ_setCircleOfThree_145 kc ks (l0 :: l1 :: l2 :: l3 :: l4 :: l5 :: l6 :: l7 :: l8 :: l9 :: l10 :: l11 :: l12 :: l13 :: l14 :: l15 :: l16 :: l17 :: some (.long x) :: l) (st) h = wps rm K Q c_Circ_setCircleOfThree_147 kc ks (l0 :: l1 :: l2 :: l3 :: l4 :: l5 :: l6 :: l7 :: l8 :: l9 :: l10 :: l11 :: l12 :: l13 :: l14 :: l15 :: l16 :: l17 :: some (.long x) :: l) (.long x :: st) h := gk_lload rfl
theorem s_Circ_setCircleOfThree_147 {x : Int64} {l0 l1 l2 l3 l4 l5 l6 l7 l8 l9 : Option Value} {l : eg_Lo} : wps rm K Q c_Circ_setCircleOfThree_147 kc ks (l0 :: l1 :: l2 :: l3 :: l4 :: l5 :: l6 :: l7 :: l8 :: l9 :: some (.long x) :: l) (st) h = wps rm K Q c_Circ_setCircleOfThree_149 kc ks (l0 :: l1 :: l2 :: l3 :: l4 :: l5 :: l6 :: l7 :: l8 :: l9 :: some (.long x) :: l) (.long x :: st) h := gk_lload rfl
theorem s_Circ_setCircleOfThree_149 {x : Int64} {l0 l1 l2 l3 l4 l5 l6 l7 l8 l9 l10 l11 : Option Value} {l : eg_Lo} : wps rm K Q c_Circ_setCircleOfThree_149 kc ks (l0 :: l1 :: l2 :: l3 :: l4 :: l5 :: l6 :: l7 :: l8 :: l9 :: l10 :: l11 :: some (.long x) :: l) (st) h = wps rm K Q c_Circ_setCircleOfThree_151 kc ks (l0 :: l1 :: l2 :: l3 :: l4 :: l5 :: l6 :: l7 :: l8 :: l9 :: l10 :: l11 :: some (.long x) :: l) (.long x :: st) h := gk_lload rfl
theorem s_Circ_setCircleOfThree_151 {x y : Int64} : wps rm K Q c_Circ_setCircleOfThree_151 kc ks loc (.long y :: .long x :: st) h = wps rm K Q c_Circ_setCircleOfThree_152 kc ks loc (.long (x * y) :: st) h := gk_lmul
theorem s_Circ_setCircleOfThree_152 {x : Int64} {l0 l1 l2 l3 l4 l5 : Option Value} {l : eg_Lo} : wps rm K Q c_Circ_setCircleOfThree_152 kc ks (l0 :: l1 :: l2 :: l3 :: l4 :: l5 :: some (.long x) :: l) (st) h = wps rm K Q c_Circ_setCircleOfThree_154 kc ks (l0 :: l1 :: l2 :: l3 :: l4 :: l5 :: some (.long x) :: l) (.long x :: st) h := gk_lload rfl
theorem s_Circ_setCircleOfThree_154 {x : Int64} {l0 l1 l2 l3 l4 l5 l6 l7 l8 l9 l10 l11 l12 l13 : Option Value} {l : eg_Lo} : wps rm K Q c_Circ_setCircleOfThree_154 kc ks (l0 :: l1 :: l2 :: l3 :: l4 :: l5 :: l6 :: l7 :: l8 :: l9 :: l10 :: l11 :: l12 :: l13 :: some (.long x) :: l) (st) h = wps rm K Q c_Circ_setCircleOfThree_156 kc ks (l0 :: l1 :: l2 :: l3 :: l4 :: l5 :: l6 :: l7 :: l8 :: l9 :: l10 :: l11 :: l12 :: l13 :: some (.long x) :: l) (.long x :: st) h := gk_lload rfl
theorem s_Circ_setCircleOfThree_156 {x y : Int64} : wps rm K Q c_Circ_setCircleOfThree_156 kc ks loc (.long y :: .long x :: st) h = wps rm K Q c_Circ_setCircleOfThree_157 kc ks loc (.long (x * y) :: st) h := gk_lmul
theorem s_Circ_setCircleOfThree_157 {x y : Int64} : wps rm K Q c_Circ_setCircleOfThree_157 kc ks loc (.long y :: .long x :: st) h = wps rm K Q c_Circ_setCircleOfThree_158 kc ks loc (.long (x - y) :: st) h := gk_lsub
theorem s_Circ_setCircleOfThree_158 {x y : Int64} : wps rm K Q c_Circ_setCircleOfThree_158 kc ks loc (.long y :: .long x :: st) h = wps rm K Q c_Circ_setCircleOfThree_159 kc ks loc (.long (x * y) :: st) h := gk_lmul
theorem s_Circ_setCircleOfThree_159 {x : Int64} {l0 l1 l2 l3 l4 l5 l6 l7 l8 l9 l10 l11 l12 l13 l14 l15 l16 l17 : Option Value} {l : eg_Lo} : wps rm K Q c_Circ_setCircleOfThree_159 kc ks (l0 :: l1 :: l2 :: l3 :: l4 :: l5 :: l6 :: l7 :: l8 :: l9 :: l10 :: l11 :: l12 :: l13 :: l14 :: l15 :: l16 :: l17 :: some (.long x) :: l) (st) h = wps rm K Q c_Circ_setCircleOfThree_161 kc ks (l0 :: l1 :: l2 :: l3 :: l4 :: l5 :: l6 :: l7 :: l8 :: l9 :: l10 :: l11 :: l12 :: l13 :: l14 :: l15 :: l16 :: l17 :: some (.long x) :: l) (.long x :: st) h := gk_lload rfl
theorem s_Circ_setCircleOfThree_161 {x : Int64} {l0 l1 l2 l3 : Option Value} {l : eg_Lo} : wps rm K Q c_Circ_setCircleOfThree_161 kc ks (l0 :: l1 :: l2 :: l3 :: some (.long x) :: l) (st) h = wps rm K Q c_Circ_setCircleOfThree_163 kc ks (l0 :: l1 :: l2 :: l3 :: some (.long x) :: l) (.long x :: st) h := gk_lload rfl
theorem s_Circ_setCircleOfThree_163 {x : Int64} {l0 l1 l2 l3 l4 l5 l6 l7 l8 l9 l10 l11 l12 l13 : Option Value} {l : eg_Lo} : wps rm K Q c_Circ_setCircleOfThree_163 kc ks (l0 :: l1 :: l2 :: l3 :: l4 :: l5 :: l6 :: l7 :: l8 :: l9 :: l10 :: l11 :: l12 :: l13 :: some (.long x) :: l) (st) h = wps rm K Q c_Circ_setCircleOfThree_165 kc ks (l0 :: l1 :: l2 :: l3 :: l4 :: l5 :: l6 :: l7 :: l8 :: l9 :: l10 :: l11 :: l12 :: l13 :: some (.long x) :: l) (.long x :: st) h := gk_lload rfl
theorem s_Circ_setCircleOfThree_165 {x y : Int64} : wps rm K Q c_Circ_setCircleOfThree_165 kc ks loc (.long y :: .long x :: st) h = wps rm K Q c_Circ_setCircleOfThree_166 kc ks loc (.long (x * y) :: st) h := gk_lmul
theorem s_Circ_setCircleOfThree_166 {x : Int64} {l0 l1 l2 l3 l4 l5 l6 l7 : Option Value} {l : eg_Lo} : wps rm K Q c_Circ_setCircleOfThree_166 kc ks (l0 :: l1 :: l2 :: l3 :: l4 :: l5 :: l6 :: l7 :: some (.long x) :: l) (st) h = wps rm K Q c_Circ_setCircleOfThree_168 kc ks (l0 :: l1 :: l2 :: l3 :: l4 :: l5 :: l6 :: l7 :: some (.long x) :: l) (.long x :: st) h := gk_lload rfl
theorem s_Circ_setCircleOfThree_168 {x : Int64} {l0 l1 l2 l3 l4 l5 l6 l7 l8 l9 l10 l11 : Option Value} {l : eg_Lo} : wps rm K Q c_Circ_setCircleOfThree_168 kc ks (l0 :: l1 :: l2 :: l3 :: l4 :: l5 :: l6 :: l7 :: l8 :: l9 :: l10 :: l11 :: some (.long x) :: l) (st) h = wps rm K Q c_Circ_setCircleOfThree_170 kc ks (l0 :: l1 :: l2 :: l3 :: l4 :: l5 :: l6 :: l7 :: l8 :: l9 :: l10 :: l11 :: some (.long x) :: l) (.long x :: st) h := gk_lload rfl
theorem s_Circ_setCircleOfThree_170 {x y : Int64} : wps rm K Q c_Circ_setCircleOfThree_170 kc ks loc (.long y :: .long x :: st) h = wps rm K Q c_Circ_setCircleOfThree_171 kc ks loc (.long (x * y) :: st) h := gk_lmul
theorem s_Circ_setCircleOfThree_171 {x y : Int64} : wps rm K Q c_Circ_setCircleOfThree_171 kc ks loc (.long y :: .long x :: st) h = wps rm K Q c_Circ_setCircleOfThree_172 kc ks loc (.long (x - y) :: st) h := gk_lsub
theorem s_Circ_setCircleOfThree_172 {x y : Int64} : wps rm K Q c_Circ_setCircleOfThree_172 kc ks loc (.long y :: .long x :: st) h = wps rm K Q c_Circ_setCircleOfThree_173 kc ks loc (.long (x * y) :: st) h := gk_lmul
theorem s_Circ_setCircleOfThree_173 {x : Int64} {l0 l1 l2 l3 l4 l5 l6 l7 l8 l9 l10 l11 l12 l13 l14 l15 l16 l17 : Option Value} {l : eg_Lo} : wps rm K Q c_Circ_setCircleOfThree_173 kc ks (l0 :: l1 :: l2 :: l3 :: l4 :: l5 :: l6 :: l7 :: l8 :: l9 :: l10 :: l11 :: l12 :: l13 :: l14 :: l15 :: l16 :: l17 :: some (.long x) :: l) (st) h = wps rm K Q c_Circ_setCircleOfThree_175 kc ks (l0 :: l1 :: l2 :: l3 :: l4 :: l5 :: l6 :: l7 :: l8 :: l9 :: l10 :: l11 :: l12 :: l13 :: l14 :: l15 :: l16 :: l17 :: some (.long x) :: l) (.long x :: st) h := gk_lload rfl
theorem s_Circ_setCircleOfThree_175  : wps rm K Q c_Circ_setCircleOfThree_175 kc ks loc (st) h = wps rm K Q c_Circ_setCircleOfThree_178 kc ks loc (.long (2) :: st) h := gk_lc (by decide)
theorem s_Circ_setCircleOfThree_178 {x y : Int64} : wps rm K Q c_Circ_setCircleOfThree_178 kc ks loc (.long y :: .long x :: st) h = wps rm K Q c_Circ_setCircleOfThree_179 kc ks loc (.long (x * y) :: st) h := gk_lmul
theorem s_Circ_setCircleOfThree_179 {x : Int64} {l0 l1 l2 l3 l4 l5 l6 l7 l8 l9 l10 l11 l12 l13 l14 l15 : Option Value} {l : eg_Lo} : wps rm K Q c_Circ_setCircleOfThree_179 kc ks (l0 :: l1 :: l2 :: l3 :: l4 :: l5 :: l6 :: l7 :: l8 :: l9 :: l10 :: l11 :: l12 :: l13 :: l14 :: l15 :: some (.long x) :: l) (st) h = wps rm K Q c_Circ_setCircleOfThree_181 kc ks (l0 :: l1 :: l2 :: l3 :: l4 :: l5 :: l6 :: l7 :: l8 :: l9 :: l10 :: l11 :: l12 :: l13 :: l14 :: l15 :: some (.long x) :: l) (.long x :: st) h := gk_lload rfl
theorem s_Circ_setCircleOfThree_181 {x y : Int64} : wps rm K Q c_Circ_setCircleOfThree_181 kc ks loc (.long y :: .long x :: st) h = wps rm K Q c_Circ_setCircleOfThree_182 kc ks loc (.long (x * y) :: st) h := gk_lmul
theorem s_Circ_setCircleOfThree_182  {a1 : Value} {a2 : Value} {a3 : Value} {a4 : Value} {x : Nat} : wps rm K Q c_Circ_setCircleOfThree_182 kc ks loc (a4 :: a3 :: a2 :: a1 :: .ref (x + 1) :: st) h = (eg_cls h x 1 ∧ st.length ≤ 4 ∧ eg_Cs n_Circ_setCircle (.ref (x + 1) :: [a1, a2, a3, a4]) h (fun v h9 => wps rm K Q c_Circ_setCircleOfThree_185 kc ks loc (v.toList ++ st) h9)) := eg_c1_4
theorem s_Circ_setCircleOfThree_185  : wps rm K Q c_Circ_setCircleOfThree_185 kc ks loc ([]) h = (kc = rm.cells ∧ Q none h) := gk_vret
def T_Circ_setCircleOfThree : List (Nat × List eg_I) := [(140, c_Circ_setCircleOfThree_140), (141, c_Circ_setCircleOfThree_141)]
theorem j_Circ_setCircleOfThree_140 {R : Nat → Nat → Nat → eg_Lo → List Value → List eg_E → Prop} {f pc0 : Nat} : eg_run rm R Q T_Circ_setCircleOfThree (f + 1) 140 kc ks loc st h = wps rm (eg_run rm R Q T_Circ_setCircleOfThree f) Q c_Circ_setCircleOfThree_140 kc ks loc st h := rfl
theorem j_Circ_setCircleOfThree_141 {R : Nat → Nat → Nat → eg_Lo → List Value → List eg_E → Prop} {f pc0 : Nat} : eg_run rm R Q T_Circ_setCircleOfThree (f + 1) 141 kc ks loc st h = wps rm (eg_run rm R Q T_Circ_setCircleOfThree f) Q c_Circ_setCircleOfThree_141 kc ks loc st h := rfl
end
theorem y_Circ_setCircleOfThree_0 : eg_seq m_Circ_setCircleOfThree 0 c_Circ_setCircleOfThree_0 = true := by decide +kernel
theorem y_Circ_setCircleOfThree_140 : eg_seq m_Circ_setCircleOfThree 140 c_Circ_setCircleOfThree_140 = true := by decide +kernel
theorem q_Circ_setCircleOfThree : ∀ q ∈ T_Circ_setCircleOfThree, eg_seq m_Circ_setCircleOfThree q.1 q.2 = true := by
  intro q hq
  simp only [T_Circ_setCircleOfThree, List.mem_cons, List.not_mem_nil, or_false] at hq
  rcases hq with rfl | rfl
  · exact y_Circ_setCircleOfThree_140
  · exact (eg_seq_drop y_Circ_setCircleOfThree_140 1 : eg_seq m_Circ_setCircleOfThree 141 c_Circ_setCircleOfThree_141 = true)
theorem b_Circ_setCircleOfThree {as : List Value} {h : List eg_E} {Q : Option Value → List eg_E → Prop} (hf : (eg_fl as).length ≤ 20) (hw : wps (eg_rm m_Circ_setCircleOfThree) (eg_run (eg_rm m_Circ_setCircleOfThree) (eg_R m_Circ_setCircleOfThree Q (h.length + 0)) Q T_Circ_setCircleOfThree 4) Q c_Circ_setCircleOfThree_0 0 0 (eg_entry 20 as) [] h) : eg_Runs n_Circ_setCircleOfThree as h Q := eg_begin2 (d := m_Circ_setCircleOfThree) rfl (by decide) y_Circ_setCircleOfThree_0 q_Circ_setCircleOfThree hf hw
/-! ===== Circ_outside ===== -/
def c_Circ_outside_82 : List eg_I := .inl (82, 1, .lreturn, 0, 0) :: []
def c_Circ_outside_81 : List eg_I := .inl (81, 1, .lsub, 0, 0) :: c_Circ_outside_82
def c_Circ_outside_80 : List eg_I := .inl (80, 1, .lmul, 0, 0) :: c_Circ_outside_81
def c_Circ_outside_79 : List eg_I := .inl (79, 1, .ladd, 0, 0) :: c_Circ_outside_80
def c_Circ_outside_78 : List eg_I := .inl (78, 1, .lmul, 0, 0) :: c_Circ_outside_79
def c_Circ_outside_75 : List eg_I := .inl (75, 3, .getfield 95, 1, 3) :: c_Circ_outside_78
def c_Circ_outside_74 : List eg_I := .inl (74, 1, .aload 0, 0, 0) :: c_Circ_outside_75
def c_Circ_outside_72 : List eg_I := .inl (72, 2, .lload 4, 0, 0) :: c_Circ_outside_74
def c_Circ_outside_71 : List eg_I := .inl (71, 1, .lmul, 0, 0) :: c_Circ_outside_72
def c_Circ_outside_68 : List eg_I := .inl (68, 3, .getfield 91, 1, 2) :: c_Circ_outside_71
def c_Circ_outside_67 : List eg_I := .inl (67, 1, .aload 0, 0, 0) :: c_Circ_outside_68
def c_Circ_outside_66 : List eg_I := .inl (66, 1, .lload 2, 0, 0) :: c_Circ_outside_67
def c_Circ_outside_63 : List eg_I := .inl (63, 3, .sipush (2), 63, 0) :: c_Circ_outside_66
def c_Circ_outside_62 : List eg_I := .inl (62, 1, .lmul, 0, 0) :: c_Circ_outside_63
def c_Circ_outside_61 : List eg_I := .inl (61, 1, .ladd, 0, 0) :: c_Circ_outside_62
def c_Circ_outside_60 : List eg_I := .inl (60, 1, .lmul, 0, 0) :: c_Circ_outside_61
def c_Circ_outside_58 : List eg_I := .inl (58, 2, .lload 4, 0, 0) :: c_Circ_outside_60
def c_Circ_outside_56 : List eg_I := .inl (56, 2, .lload 4, 0, 0) :: c_Circ_outside_58
def c_Circ_outside_55 : List eg_I := .inl (55, 1, .lmul, 0, 0) :: c_Circ_outside_56
def c_Circ_outside_54 : List eg_I := .inl (54, 1, .lload 2, 0, 0) :: c_Circ_outside_55
def c_Circ_outside_53 : List eg_I := .inl (53, 1, .lload 2, 0, 0) :: c_Circ_outside_54
def c_Circ_outside_50 : List eg_I := .inl (50, 3, .getfield 98, 1, 4) :: c_Circ_outside_53
def c_Circ_outside_49 : List eg_I := .inl (49, 1, .aload 0, 0, 0) :: c_Circ_outside_50
def c_Circ_outside_47 : List eg_I := .inl (47, 2, .lstore 4, 0, 0) :: c_Circ_outside_49
def c_Circ_outside_46 : List eg_I := .inl (46, 1, .i2l, 0, 0) :: c_Circ_outside_47
def c_Circ_outside_45 : List eg_I := .inl (45, 1, .isub, 0, 0) :: c_Circ_outside_46
def c_Circ_outside_44 : List eg_I := .inl (44, 1, .iaload, 0, 0) :: c_Circ_outside_45
def c_Circ_outside_41 : List eg_I := .inl (41, 3, .getfield 88, 1, 1) :: c_Circ_outside_44
def c_Circ_outside_40 : List eg_I := .inl (40, 1, .aload 0, 0, 0) :: c_Circ_outside_41
def c_Circ_outside_37 : List eg_I := .inl (37, 3, .getfield 60, 10, 1) :: c_Circ_outside_40
def c_Circ_outside_34 : List eg_I := .inl (34, 3, .getfield 12, 1, 0) :: c_Circ_outside_37
def c_Circ_outside_33 : List eg_I := .inl (33, 1, .aload 0, 0, 0) :: c_Circ_outside_34
def c_Circ_outside_32 : List eg_I := .inl (32, 1, .iaload, 0, 0) :: c_Circ_outside_33
def c_Circ_outside_31 : List eg_I := .inl (31, 1, .iload 1, 0, 0) :: c_Circ_outside_32
def c_Circ_outside_28 : List eg_I := .inl (28, 3, .getfield 60, 10, 1) :: c_Circ_outside_31
def c_Circ_outside_25 : List eg_I := .inl (25, 3, .getfield 12, 1, 0) :: c_Circ_outside_28
def c_Circ_outside_24 : List eg_I := .inl (24, 1, .aload 0, 0, 0) :: c_Circ_outside_25
def c_Circ_outside_23 : List eg_I := .inl (23, 1, .lstore 2, 0, 0) :: c_Circ_outside_24
def c_Circ_outside_22 : List eg_I := .inl (22, 1, .i2l, 0, 0) :: c_Circ_outside_23
def c_Circ_outside_21 : List eg_I := .inl (21, 1, .isub, 0, 0) :: c_Circ_outside_22
def c_Circ_outside_20 : List eg_I := .inl (20, 1, .iaload, 0, 0) :: c_Circ_outside_21
def c_Circ_outside_17 : List eg_I := .inl (17, 3, .getfield 88, 1, 1) :: c_Circ_outside_20
def c_Circ_outside_16 : List eg_I := .inl (16, 1, .aload 0, 0, 0) :: c_Circ_outside_17
def c_Circ_outside_13 : List eg_I := .inl (13, 3, .getfield 57, 10, 0) :: c_Circ_outside_16
def c_Circ_outside_10 : List eg_I := .inl (10, 3, .getfield 12, 1, 0) :: c_Circ_outside_13
def c_Circ_outside_9 : List eg_I := .inl (9, 1, .aload 0, 0, 0) :: c_Circ_outside_10
def c_Circ_outside_8 : List eg_I := .inl (8, 1, .iaload, 0, 0) :: c_Circ_outside_9
def c_Circ_outside_7 : List eg_I := .inl (7, 1, .iload 1, 0, 0) :: c_Circ_outside_8
def c_Circ_outside_4 : List eg_I := .inl (4, 3, .getfield 57, 10, 0) :: c_Circ_outside_7
def c_Circ_outside_1 : List eg_I := .inl (1, 3, .getfield 12, 1, 0) :: c_Circ_outside_4
def c_Circ_outside_0 : List eg_I := .inl (0, 1, .aload 0, 0, 0) :: c_Circ_outside_1
section
variable {rm : Room} {K : Nat → Nat → Nat → eg_Lo → List Value → List eg_E → Prop} {Q : Option Value → List eg_E → Prop} {kc ks : Nat} {loc : eg_Lo} {st : List Value} {h : List eg_E}
theorem s_Circ_outside_0 {x : Nat} {l : eg_Lo} : wps rm K Q c_Circ_outside_0 kc ks (some (.ref x) :: l) (st) h = wps rm K Q c_Circ_outside_1 kc ks (some (.ref x) :: l) (.ref x :: st) h := gk_aload rfl
theorem s_Circ_outside_1 {x : Nat} : wps rm K Q c_Circ_outside_1 kc ks loc (.ref (x + 1) :: st) h = eg_gf h x 1 0 (fun v => wps rm K Q c_Circ_outside_4 kc ks loc (v :: st) h) := gk_gf
theorem s_Circ_outside_4 {x : Nat} : wps rm K Q c_Circ_outside_4 kc ks loc (.ref (x + 1) :: st) h = eg_gf h x 10 0 (fun v => wps rm K Q c_Circ_outside_7 kc ks loc (v :: st) h) := gk_gf
theorem s_Circ_outside_7 {x : Int32} {l0 : Option Value} {l : eg_Lo} : wps rm K Q c_Circ_outside_7 kc ks (l0 :: some (.int x) :: l) (st) h = wps rm K Q c_Circ_outside_8 kc ks (l0 :: some (.int x) :: l) (.int x :: st) h := gk_iload rfl
theorem s_Circ_outside_8 {x : Nat} {i : Int32} : wps rm K Q c_Circ_outside_8 kc ks loc (.int i :: .ref (x + 1) :: st) h = eg_ia h x i (fun v => wps rm K Q c_Circ_outside_9 kc ks loc (.int v :: st) h) := gk_iaload
theorem s_Circ_outside_9 {x : Nat} {l : eg_Lo} : wps rm K Q c_Circ_outside_9 kc ks (some (.ref x) :: l) (st) h = wps rm K Q c_Circ_outside_10 kc ks (some (.ref x) :: l) (.ref x :: st) h := gk_aload rfl
theorem s_Circ_outside_10 {x : Nat} : wps rm K Q c_Circ_outside_10 kc ks loc (.ref (x + 1) :: st) h = eg_gf h x 1 0 (fun v => wps rm K Q c_Circ_outside_13 kc ks loc (v :: st) h) := gk_gf
theorem s_Circ_outside_13 {x : Nat} : wps rm K Q c_Circ_outside_13 kc ks loc (.ref (x + 1) :: st) h = eg_gf h x 10 0 (fun v => wps rm K Q c_Circ_outside_16 kc ks loc (v :: st) h) := gk_gf
theorem s_Circ_outside_16 {x : Nat} {l : eg_Lo} : wps rm K Q c_Circ_outside_16 kc ks (some (.ref x) :: l) (st) h = wps rm K Q c_Circ_outside_17 kc ks (some (.ref x) :: l) (.ref x :: st) h := gk_aload rfl
theorem s_Circ_outside_17 {x : Nat} : wps rm K Q c_Circ_outside_17 kc ks loc (.ref (x + 1) :: st) h = eg_gf h x 1 1 (fun v => wps rm K Q c_Circ_outside_20 kc ks loc (v :: st) h) := gk_gf
theorem s_Circ_outside_20 {x : Nat} {i : Int32} : wps rm K Q c_Circ_outside_20 kc ks loc (.int i :: .ref (x + 1) :: st) h = eg_ia h x i (fun v => wps rm K Q c_Circ_outside_21 kc ks loc (.int v :: st) h) := gk_iaload
theorem s_Circ_outside_21 {x y : Int32} : wps rm K Q c_Circ_outside_21 kc ks loc (.int y :: .int x :: st) h = wps rm K Q c_Circ_outside_22 kc ks loc (.int (x - y) :: st) h := gk_isub
theorem s_Circ_outside_22 {x : Int32} : wps rm K Q c_Circ_outside_22 kc ks loc (.int x :: st) h = wps rm K Q c_Circ_outside_23 kc ks loc (.long (x.toInt64) :: st) h := gk_i2l
theorem s_Circ_outside_23 {x : Int64} : wps rm K Q c_Circ_outside_23 kc ks loc (.long x :: st) h = wps rm K Q c_Circ_outside_24 kc ks (eg_set2 loc 2 (.long x)) (st) h := gk_lstore
theorem s_Circ_outside_24 {x : Nat} {l : eg_Lo} : wps rm K Q c_Circ_outside_24 kc ks (some (.ref x) :: l) (st) h = wps rm K Q c_Circ_outside_25 kc ks (some (.ref x) :: l) (.ref x :: st) h := gk_aload rfl
theorem s_Circ_outside_25 {x : Nat} : wps rm K Q c_Circ_outside_25 kc ks loc (.ref (x + 1) :: st) h = eg_gf h x 1 0 (fun v => wps rm K Q c_Circ_outside_28 kc ks loc (v :: st) h) := gk_gf
theorem s_Circ_outside_28 {x : Nat} : wps rm K Q c_Circ_outside_28 kc ks loc (.ref (x + 1) :: st) h = eg_gf h x 10 1 (fun v => wps rm K Q c_Circ_outside_31 kc ks loc (v :: st) h) := gk_gf
theorem s_Circ_outside_31 {x : Int32} {l0 : Option Value} {l : eg_Lo} : wps rm K Q c_Circ_outside_31 kc ks (l0 :: some (.int x) :: l) (st) h = wps rm K Q c_Circ_outside_32 kc ks (l0 :: some (.int x) :: l) (.int x :: st) h := gk_iload rfl
theorem s_Circ_outside_32 {x : Nat} {i : Int32} : wps rm K Q c_Circ_outside_32 kc ks loc (.int i :: .ref (x + 1) :: st) h = eg_ia h x i (fun v => wps rm K Q c_Circ_outside_33 kc ks loc (.int v :: st) h) := gk_iaload
theorem s_Circ_outside_33 {x : Nat} {l : eg_Lo} : wps rm K Q c_Circ_outside_33 kc ks (some (.ref x) :: l) (st) h = wps rm K Q c_Circ_outside_34 kc ks (some (.ref x) :: l) (.ref x :: st) h := gk_aload rfl
theorem s_Circ_outside_34 {x : Nat} : wps rm K Q c_Circ_outside_34 kc ks loc (.ref (x + 1) :: st) h = eg_gf h x 1 0 (fun v => wps rm K Q c_Circ_outside_37 kc ks loc (v :: st) h) := gk_gf
theorem s_Circ_outside_37 {x : Nat} : wps rm K Q c_Circ_outside_37 kc ks loc (.ref (x + 1) :: st) h = eg_gf h x 10 1 (fun v => wps rm K Q c_Circ_outside_40 kc ks loc (v :: st) h) := gk_gf
theorem s_Circ_outside_40 {x : Nat} {l : eg_Lo} : wps rm K Q c_Circ_outside_40 kc ks (some (.ref x) :: l) (st) h = wps rm K Q c_Circ_outside_41 kc ks (some (.ref x) :: l) (.ref x :: st) h := gk_aload rfl
theorem s_Circ_outside_41 {x : Nat} : wps rm K Q c_Circ_outside_41 kc ks loc (.ref (x + 1) :: st) h = eg_gf h x 1 1 (fun v => wps rm K Q c_Circ_outside_44 kc ks loc (v :: st) h) := gk_gf
theorem s_Circ_outside_44 {x : Nat} {i : Int32} : wps rm K Q c_Circ_outside_44 kc ks loc (.int i :: .ref (x + 1) :: st) h = eg_ia h x i (fun v => wps rm K Q c_Circ_outside_45 kc ks loc (.int v :: st) h) := gk_iaload
theorem s_Circ_outside_45 {x y : Int32} : wps rm K Q c_Circ_outside_45 kc ks loc (.int y :: .int x :: st) h = wps rm K Q c_Circ_outside_46 kc ks loc (.int (x - y) :: st) h := gk_isub
theorem s_Circ_outside_46 {x : Int32} : wps rm K Q c_Circ_outside_46 kc ks loc (.int x :: st) h = wps rm K Q c_Circ_outside_47 kc ks loc (.long (x.toInt64) :: st) h := gk_i2l
theorem s_Circ_outside_47 {x : Int64} : wps rm K Q c_Circ_outside_47 kc ks loc (.long x :: st) h = wps rm K Q c_Circ_outside_49 kc ks (eg_set2 loc 4 (.long x)) (st) h := gk_lstore
theorem s_Circ_outside_49 {x : Nat} {l : eg_Lo} : wps rm K Q c_Circ_outside_49 kc ks (some (.ref x) :: l) (st) h = wps rm K Q c_Circ_outside_50 kc ks (some (.ref x) :: l) (.ref x :: st) h := gk_aload rfl
theorem s_Circ_outside_50 {x : Nat} : wps rm K Q c_Circ_outside_50 kc ks loc (.ref (x + 1) :: st) h = eg_gf h x 1 4 (fun v => wps rm K Q c_Circ_outside_53 kc ks loc (v :: st) h) := gk_gf
theorem s_Circ_outside_53 {x : Int64} {l0 l1 : Option Value} {l : eg_Lo} : wps rm K Q c_Circ_outside_53 kc ks (l0 :: l1 :: some (.long x) :: l) (st) h = wps rm K Q c_Circ_outside_54 kc ks (l0 :: l1 :: some (.long x) :: l) (.long x :: st) h := gk_lload rfl
theorem s_Circ_outside_54 {x : Int64} {l0 l1 : Option Value} {l : eg_Lo} : wps rm K Q c_Circ_outside_54 kc ks (l0 :: l1 :: some (.long x) :: l) (st) h = wps rm K Q c_Circ_outside_55 kc ks (l0 :: l1 :: some (.long x) :: l) (.long x :: st) h := gk_lload rfl
theorem s_Circ_outside_55 {x y : Int64} : wps rm K Q c_Circ_outside_55 kc ks loc (.long y :: .long x :: st) h = wps rm K Q c_Circ_outside_56 kc ks loc (.long (x * y) :: st) h := gk_lmul
theorem s_Circ_outside_56 {x : Int64} {l0 l1 l2 l3 : Option Value} {l : eg_Lo} : wps rm K Q c_Circ_outside_56 kc ks (l0 :: l1 :: l2 :: l3 :: some (.long x) :: l) (st) h = wps rm K Q c_Circ_outside_58 kc ks (l0 :: l1 :: l2 :: l3 :: some (.long x) :: l) (.long x :: st) h := gk_lload rfl
theorem s_Circ_outside_58 {x : Int64} {l0 l1 l2 l3 : Option Value} {l : eg_Lo} : wps rm K Q c_Circ_outside_58 kc ks (l0 :: l1 :: l2 :: l3 :: some (.long x) :: l) (st) h = wps rm K Q c_Circ_outside_60 kc ks (l0 :: l1 :: l2 :: l3 :: some (.long x) :: l) (.long x :: st) h := gk_lload rfl
theorem s_Circ_outside_60 {x y : Int64} : wps rm K Q c_Circ_outside_60 kc ks loc (.long y :: .long x :: st) h = wps rm K Q c_Circ_outside_61 kc ks loc (.long (x * y) :: st) h := gk_lmul
theorem s_Circ_outside_61 {x y : Int64} : wps rm K Q c_Circ_outside_61 kc ks loc (.long y :: .long x :: st) h = wps rm K Q c_Circ_outside_62 kc ks loc (.long (x + y) :: st) h := gk_ladd
theorem s_Circ_outside_62 {x y : Int64} : wps rm K Q c_Circ_outside_62 kc ks loc (.long y :: .long x :: st) h = wps rm K Q c_Circ_outside_63 kc ks loc (.long (x * y) :: st) h := gk_lmul
theorem s_Circ_outside_63  : wps rm K Q c_Circ_outside_63 kc ks loc (st) h = wps rm K Q c_Circ_outside_66 kc ks loc (.long (2) :: st) h := gk_lc (by decide)
theorem s_Circ_outside_66 {x : Int64} {l0 l1 : Option Value} {l : eg_Lo} : wps rm K Q c_Circ_outside_66 kc ks (l0 :: l1 :: some (.long x) :: l) (st) h = wps rm K Q c_Circ_outside_67 kc ks (l0 :: l1 :: some (.long x) :: l) (.long x :: st) h := gk_lload rfl
theorem s_Circ_outside_67 {x : Nat} {l : eg_Lo} : wps rm K Q c_Circ_outside_67 kc ks (some (.ref x) :: l) (st) h = wps rm K Q c_Circ_outside_68 kc ks (some (.ref x) :: l) (.ref x :: st) h := gk_aload rfl
theorem s_Circ_outside_68 {x : Nat} : wps rm K Q c_Circ_outside_68 kc ks loc (.ref (x + 1) :: st) h = eg_gf h x 1 2 (fun v => wps rm K Q c_Circ_outside_71 kc ks loc (v :: st) h) := gk_gf
theorem s_Circ_outside_71 {x y : Int64} : wps rm K Q c_Circ_outside_71 kc ks loc (.long y :: .long x :: st) h = wps rm K Q c_Circ_outside_72 kc ks loc (.long (x * y) :: st) h := gk_lmul
theorem s_Circ_outside_72 {x : Int64} {l0 l1 l2 l3 : Option Value} {l : eg_Lo} : wps rm K Q c_Circ_outside_72 kc ks (l0 :: l1 :: l2 :: l3 :: some (.long x) :: l) (st) h = wps rm K Q c_Circ_outside_74 kc ks (l0 :: l1 :: l2 :: l3 :: some (.long x) :: l) (.long x :: st) h := gk_lload rfl
theorem s_Circ_outside_74 {x : Nat} {l : eg_Lo} : wps rm K Q c_Circ_outside_74 kc ks (some (.ref x) :: l) (st) h = wps rm K Q c_Circ_outside_75 kc ks (some (.ref x) :: l) (.ref x :: st) h := gk_aload rfl
theorem s_Circ_outside_75 {x : Nat} : wps rm K Q c_Circ_outside_75 kc ks loc (.ref (x + 1) :: st) h = eg_gf h x 1 3 (fun v => wps rm K Q c_Circ_outside_78 kc ks loc (v :: st) h) := gk_gf
theorem s_Circ_outside_78 {x y : Int64} : wps rm K Q c_Circ_outside_78 kc ks loc (.long y :: .long x :: st) h = wps rm K Q c_Circ_outside_79 kc ks loc (.long (x * y) :: st) h := gk_lmul
theorem s_Circ_outside_79 {x y : Int64} : wps rm K Q c_Circ_outside_79 kc ks loc (.long y :: .long x :: st) h = wps rm K Q c_Circ_outside_80 kc ks loc (.long (x + y) :: st) h := gk_ladd
theorem s_Circ_outside_80 {x y : Int64} : wps rm K Q c_Circ_outside_80 kc ks loc (.long y :: .long x :: st) h = wps rm K Q c_Circ_outside_81 kc ks loc (.long (x * y) :: st) h := gk_lmul
theorem s_Circ_outside_81 {x y : Int64} : wps rm K Q c_Circ_outside_81 kc ks loc (.long y :: .long x :: st) h = wps rm K Q c_Circ_outside_82 kc ks loc (.long (x - y) :: st) h := gk_lsub
theorem s_Circ_outside_82 {x : Int64} : wps rm K Q c_Circ_outside_82 kc ks loc ([.long x]) h = (kc = rm.cells ∧ Q (some (.long x)) h) := gk_lret
def T_Circ_outside : List (Nat × List eg_I) := []
end
theorem y_Circ_outside_0 : eg_seq m_Circ_outside 0 c_Circ_outside_0 = true := by decide +kernel
theorem q_Circ_outside : ∀ q ∈ T_Circ_outside, eg_seq m_Circ_outside q.1 q.2 = true := by
  intro q hq
  cases hq
theorem b_Circ_outside {as : List Value} {h : List eg_E} {Q : Option Value → List eg_E → Prop} (hf : (eg_fl as).length ≤ 6) (hw : wps (eg_rm m_Circ_outside) (eg_run (eg_rm m_Circ_outside) (eg_R m_Circ_outside Q (h.length + 0)) Q T_Circ_outside 2) Q c_Circ_outside_0 0 0 (eg_entry 6 as) [] h) : eg_Runs n_Circ_outside as h Q := eg_begin2 (d := m_Circ_outside) rfl (by decide) y_Circ_outside_0 q_Circ_outside hf hw
