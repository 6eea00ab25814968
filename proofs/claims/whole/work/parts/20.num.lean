/-! NUMBERS: common measures, fractions compared -/
theorem nu_half {a b : Nat} (h0 : 0 < a % b) (hb : 0 < b) : 2 * (b % (a % b)) < b := by
  have h1 : a % b < b := Nat.mod_lt _ hb
  have h2 : b % (a % b) < a % b := Nat.mod_lt _ h0
  have h3 := Nat.div_add_mod b (a % b)
  have h4 : 1 ≤ b / (a % b) := Nat.div_pos (Nat.le_of_lt h1) h0
  have h5 : (a % b) * 1 ≤ (a % b) * (b / (a % b)) := Nat.mul_le_mul_left _ h4
  omega
theorem nu_gcd (a b : Nat) : Nat.gcd a b = Nat.gcd b (a % b) := by
  rw [Nat.gcd_comm a b, Nat.gcd_rec b a, Nat.gcd_comm]
theorem isl_ne {a b c d : Nat} (hb : 0 < b) (hd : 0 < d) (h : ¬ a / b = c / d) : a * d < c * b ↔ a / b < c / d := by
  have h1 := Nat.div_add_mod a b
  have h2 := Nat.div_add_mod c d
  have h3 := Nat.mod_lt a hb
  have h4 := Nat.mod_lt c hd
  generalize a / b = q at *
  generalize c / d = r at *
  generalize a % b = x at *
  generalize c % d = y at *
  subst h1 h2
  constructor
  · intro hlt
    rcases Nat.lt_or_ge q r with g | g
    · exact g
    · exfalso
      have g2 : r + 1 ≤ q := by omega
      have g3 : b * d * (r + 1) ≤ b * d * q := Nat.mul_le_mul_left _ g2
      have g4 : b * y ≤ b * d := Nat.mul_le_mul_left _ (Nat.le_of_lt h4)
      have e1 : (b * q + x) * d = b * d * q + x * d := by grind
      have e2 : (d * r + y) * b = b * d * r + b * y := by grind
      have e3 : b * d * (r + 1) = b * d * r + b * d := by grind
      have g5 : 0 ≤ x * d := Nat.zero_le _
      omega
  · intro hlt
    have g2 : q + 1 ≤ r := hlt
    have g3 : b * d * (q + 1) ≤ b * d * r := Nat.mul_le_mul_left _ g2
    have g4 : x * d < b * d := Nat.mul_lt_mul_of_pos_right h3 hd
    have e1 : (b * q + x) * d = b * d * q + x * d := by grind
    have e2 : (d * r + y) * b = b * d * r + b * y := by grind
    have e3 : b * d * (q + 1) = b * d * q + b * d := by grind
    have g5 : 0 ≤ b * y := Nat.zero_le _
    omega
theorem isl_eq {a b c d : Nat} (h : a / b = c / d) : a * d < c * b ↔ d * (a % b) < b * (c % d) := by
  have h1 := Nat.div_add_mod a b
  have h2 := Nat.div_add_mod c d
  rw [← h] at h2
  generalize a / b = q at *
  generalize a % b = x at *
  generalize c % d = y at *
  subst h1 h2
  have e1 : (b * q + x) * d = b * d * q + d * x := by grind
  have e2 : (d * q + y) * b = b * d * q + b * y := by grind
  omega
theorem isl_0 {a b c d : Nat} (hb : 0 < b) (hd : 0 < d) (h : a / b = c / d) (h0 : a % b = 0 ∨ c % d = 0) : a * d < c * b ↔ a % b < c % d := by
  rw [isl_eq h]
  rcases h0 with h0 | h0
  · rw [h0, Nat.mul_zero]
    exact ⟨fun q => Nat.pos_of_mul_pos_left q, fun q => Nat.mul_pos hb q⟩
  · rw [h0, Nat.mul_zero]
    exact ⟨fun q => absurd q (Nat.not_lt_zero _), fun q => absurd q (Nat.not_lt_zero _)⟩
theorem nu_lt {a b n : Nat} (hb : 0 < b) (h : b ≤ n) : a % b < n := Nat.lt_of_lt_of_le (Nat.mod_lt _ hb) h
theorem lN_0 : lN 0 = 0 := rfl
theorem lN_ne {b : Nat} (h0 : 0 < b) (hb : b < 2 ^ 63) : ¬ lN b = 0 := fun q => by
  have := (pk_lEQ hb (b := 0) (by decide)).mp q
  omega
section Num
variable {Q : Option Value → List eg_E → Prop} {h t : List eg_E} {S T : eg_S} {n0 : Nat}
theorem lp_M_common {v0 v2 : Int64} : ∀ (b a : Nat) (o8 : Option Value), a < 2 ^ 63 → b < 2 ^ 63 → Q (some (.long (lN (Nat.gcd a b)))) h → eg_R m_M_common Q n0 28 0 0 [some (.long v0), none, some (.long v2), none, some (.long (lN a)), none, some (.long (lN b)), none, o8, none] [] h := by
  intro b
  induction b using Nat.strongRecOn with
  | ind b ih =>
    intro a o8 ha hb hQ
    refine x_M_common_28 ?_
    by_cases c : b = 0
    · subst c
      rw [Nat.gcd_zero_right] at hQ
      simp only [s_M_common_0, s_M_common_1, s_M_common_2, s_M_common_3, s_M_common_6, s_M_common_7, s_M_common_8, s_M_common_11, s_M_common_12, s_M_common_14, s_M_common_15, s_M_common_16, s_M_common_17, s_M_common_20, s_M_common_21, s_M_common_22, s_M_common_25, s_M_common_26, s_M_common_28, s_M_common_30, s_M_common_31, s_M_common_32, s_M_common_35, s_M_common_37, s_M_common_39, s_M_common_40, s_M_common_42, s_M_common_44, s_M_common_46, s_M_common_48, s_M_common_50, s_M_common_53, s_M_common_55, sz_M_common_28, j_M_common_11, j_M_common_12, j_M_common_25, j_M_common_26, j_M_common_53, j_M_common_28, eg_t1_0, eg_t1_i, eg_t1_a, eg_t1_n, eg_t1_l, eg_t1_d, eg_t1_s, eg_t2_0, eg_t2_i, eg_t2_a, eg_t2_n, eg_t2_l, eg_t2_d, eg_t2_s, Option.toList_some, Option.toList_none, List.cons_append, List.nil_append, List.length_nil, List.length_cons, Nat.zero_le, true_and, and_true, true_implies, false_implies, implies_true, not_true_eq_false, not_false_eq_true, eg_bi_0, eg_bi_1, Decidable.not_or_self, Decidable.or_not_self, lg_cmp_ge, lg_cmp_le, lg_cmp_gt, lg_cmp_lt, lg_cmp_eq, or_true, true_or, eg_01, Nat.reduceAdd, Nat.reduceLeDiff, Nat.reduceMul, Nat.reduceEqDiff, rd_I, rd_I2, rd_L1, rd_L, rd_L2, rd_D1, rd_D2, rd_D, false_and, and_false, and_self, ↓reduceIte, if_true, if_false, eq_self, lN_0]
      exact hQ
    · have hp : 0 < b := by omega
      simp only [s_M_common_0, s_M_common_1, s_M_common_2, s_M_common_3, s_M_common_6, s_M_common_7, s_M_common_8, s_M_common_11, s_M_common_12, s_M_common_14, s_M_common_15, s_M_common_16, s_M_common_17, s_M_common_20, s_M_common_21, s_M_common_22, s_M_common_25, s_M_common_26, s_M_common_28, s_M_common_30, s_M_common_31, s_M_common_32, s_M_common_35, s_M_common_37, s_M_common_39, s_M_common_40, s_M_common_42, s_M_common_44, s_M_common_46, s_M_common_48, s_M_common_50, s_M_common_53, s_M_common_55, sz_M_common_28, j_M_common_11, j_M_common_12, j_M_common_25, j_M_common_26, j_M_common_53, j_M_common_28, eg_t1_0, eg_t1_i, eg_t1_a, eg_t1_n, eg_t1_l, eg_t1_d, eg_t1_s, eg_t2_0, eg_t2_i, eg_t2_a, eg_t2_n, eg_t2_l, eg_t2_d, eg_t2_s, Option.toList_some, Option.toList_none, List.cons_append, List.nil_append, List.length_nil, List.length_cons, Nat.zero_le, true_and, and_true, true_implies, false_implies, implies_true, not_true_eq_false, not_false_eq_true, eg_bi_0, eg_bi_1, Decidable.not_or_self, Decidable.or_not_self, lg_cmp_ge, lg_cmp_le, lg_cmp_gt, lg_cmp_lt, lg_cmp_eq, or_true, true_or, eg_01, Nat.reduceAdd, Nat.reduceLeDiff, Nat.reduceMul, Nat.reduceEqDiff, rd_I, rd_I2, rd_L1, rd_L, rd_L2, rd_D1, rd_D2, rd_D, false_and, and_false, and_self, ↓reduceIte, if_true, if_false, eq_self, lN_ne hp hb, pk_lRem ha hp hb]
      rw [nu_gcd] at hQ
      exact ih (a % b) (Nat.mod_lt _ hp) b _ hb (Nat.lt_trans (Nat.mod_lt _ hp) hb) hQ
theorem lN_abs {x : Int64} (hx : -9223372036854775808 < x.toInt) : (if 0 ≤ x then x else -x) = lN x.toInt.natAbs := by
  have h1 := Int64.toInt_lt x
  by_cases c : 0 ≤ x
  · rw [if_pos c]
    rw [Int64.le_iff_toInt_le] at c
    have h0 : (0 : Int64).toInt = 0 := rfl
    refine Int64.toInt_inj.mp ?_
    rw [pk_lT (by omega)]
    omega
  · rw [if_neg c]
    rw [Int64.le_iff_toInt_le] at c
    have h0 : (0 : Int64).toInt = 0 := rfl
    refine Int64.toInt_inj.mp ?_
    rw [pk_lT (by omega), Int64.toInt_neg, Int.bmod_eq_of_le] <;> omega
theorem p_M_common {x y : Int64} (hx : -9223372036854775808 < x.toInt) (hy : -9223372036854775808 < y.toInt) (hQ : Q (some (.long (lN (Nat.gcd x.toInt.natAbs y.toInt.natAbs)))) h) : eg_Runs n_M_common [.long x, .long y] h Q := by
  have bx : x.toInt.natAbs < 2 ^ 63 := by have := Int64.toInt_lt x; omega
  have bY : y.toInt.natAbs < 2 ^ 63 := by have := Int64.toInt_lt y; omega
  have ex := lN_abs hx
  have ey := lN_abs hy
  have fin : ∀ {v0 v2 : Int64} {o8 : Option Value} {n0 : Nat}, eg_R m_M_common Q n0 28 0 0 [some (.long v0), none, some (.long v2), none, some (.long (if 0 ≤ x then x else -x)), none, some (.long (if 0 ≤ y then y else -y)), none, o8, none] [] h := by
    intro v0 v2 o8 n0
    rw [ex, ey]
    exact lp_M_common _ _ _ bx bY hQ
  refine e_M_common ?_
  by_cases cx : 0 ≤ x
  · rw [if_pos cx] at fin
    by_cases cy : 0 ≤ y
    · rw [if_pos cy] at fin
      simp only [s_M_common_0, s_M_common_1, s_M_common_2, s_M_common_3, s_M_common_6, s_M_common_7, s_M_common_8, s_M_common_11, s_M_common_12, s_M_common_14, s_M_common_15, s_M_common_16, s_M_common_17, s_M_common_20, s_M_common_21, s_M_common_22, s_M_common_25, s_M_common_26, s_M_common_28, s_M_common_30, s_M_common_31, s_M_common_32, s_M_common_35, s_M_common_37, s_M_common_39, s_M_common_40, s_M_common_42, s_M_common_44, s_M_common_46, s_M_common_48, s_M_common_50, s_M_common_53, s_M_common_55, sz_M_common_28, j_M_common_11, j_M_common_12, j_M_common_25, j_M_common_26, j_M_common_53, j_M_common_28, eg_t1_0, eg_t1_i, eg_t1_a, eg_t1_n, eg_t1_l, eg_t1_d, eg_t1_s, eg_t2_0, eg_t2_i, eg_t2_a, eg_t2_n, eg_t2_l, eg_t2_d, eg_t2_s, Option.toList_some, Option.toList_none, List.cons_append, List.nil_append, List.length_nil, List.length_cons, Nat.zero_le, true_and, and_true, true_implies, false_implies, implies_true, not_true_eq_false, not_false_eq_true, eg_bi_0, eg_bi_1, Decidable.not_or_self, Decidable.or_not_self, lg_cmp_ge, lg_cmp_le, lg_cmp_gt, lg_cmp_lt, lg_cmp_eq, or_true, true_or, eg_01, Nat.reduceAdd, Nat.reduceLeDiff, Nat.reduceMul, Nat.reduceEqDiff, rd_I, rd_I2, rd_L1, rd_L, rd_L2, rd_D1, rd_D2, rd_D, false_and, and_false, and_self, ↓reduceIte, if_true, if_false, eq_self, cx, cy]
      exact fin
    · rw [if_neg cy] at fin
      simp only [s_M_common_0, s_M_common_1, s_M_common_2, s_M_common_3, s_M_common_6, s_M_common_7, s_M_common_8, s_M_common_11, s_M_common_12, s_M_common_14, s_M_common_15, s_M_common_16, s_M_common_17, s_M_common_20, s_M_common_21, s_M_common_22, s_M_common_25, s_M_common_26, s_M_common_28, s_M_common_30, s_M_common_31, s_M_common_32, s_M_common_35, s_M_common_37, s_M_common_39, s_M_common_40, s_M_common_42, s_M_common_44, s_M_common_46, s_M_common_48, s_M_common_50, s_M_common_53, s_M_common_55, sz_M_common_28, j_M_common_11, j_M_common_12, j_M_common_25, j_M_common_26, j_M_common_53, j_M_common_28, eg_t1_0, eg_t1_i, eg_t1_a, eg_t1_n, eg_t1_l, eg_t1_d, eg_t1_s, eg_t2_0, eg_t2_i, eg_t2_a, eg_t2_n, eg_t2_l, eg_t2_d, eg_t2_s, Option.toList_some, Option.toList_none, List.cons_append, List.nil_append, List.length_nil, List.length_cons, Nat.zero_le, true_and, and_true, true_implies, false_implies, implies_true, not_true_eq_false, not_false_eq_true, eg_bi_0, eg_bi_1, Decidable.not_or_self, Decidable.or_not_self, lg_cmp_ge, lg_cmp_le, lg_cmp_gt, lg_cmp_lt, lg_cmp_eq, or_true, true_or, eg_01, Nat.reduceAdd, Nat.reduceLeDiff, Nat.reduceMul, Nat.reduceEqDiff, rd_I, rd_I2, rd_L1, rd_L, rd_L2, rd_D1, rd_D2, rd_D, false_and, and_false, and_self, ↓reduceIte, if_true, if_false, eq_self, cx, cy]
      exact fin
  · rw [if_neg cx] at fin
    by_cases cy : 0 ≤ y
    · rw [if_pos cy] at fin
      simp only [s_M_common_0, s_M_common_1, s_M_common_2, s_M_common_3, s_M_common_6, s_M_common_7, s_M_common_8, s_M_common_11, s_M_common_12, s_M_common_14, s_M_common_15, s_M_common_16, s_M_common_17, s_M_common_20, s_M_common_21, s_M_common_22, s_M_common_25, s_M_common_26, s_M_common_28, s_M_common_30, s_M_common_31, s_M_common_32, s_M_common_35, s_M_common_37, s_M_common_39, s_M_common_40, s_M_common_42, s_M_common_44, s_M_common_46, s_M_common_48, s_M_common_50, s_M_common_53, s_M_common_55, sz_M_common_28, j_M_common_11, j_M_common_12, j_M_common_25, j_M_common_26, j_M_common_53, j_M_common_28, eg_t1_0, eg_t1_i, eg_t1_a, eg_t1_n, eg_t1_l, eg_t1_d, eg_t1_s, eg_t2_0, eg_t2_i, eg_t2_a, eg_t2_n, eg_t2_l, eg_t2_d, eg_t2_s, Option.toList_some, Option.toList_none, List.cons_append, List.nil_append, List.length_nil, List.length_cons, Nat.zero_le, true_and, and_true, true_implies, false_implies, implies_true, not_true_eq_false, not_false_eq_true, eg_bi_0, eg_bi_1, Decidable.not_or_self, Decidable.or_not_self, lg_cmp_ge, lg_cmp_le, lg_cmp_gt, lg_cmp_lt, lg_cmp_eq, or_true, true_or, eg_01, Nat.reduceAdd, Nat.reduceLeDiff, Nat.reduceMul, Nat.reduceEqDiff, rd_I, rd_I2, rd_L1, rd_L, rd_L2, rd_D1, rd_D2, rd_D, false_and, and_false, and_self, ↓reduceIte, if_true, if_false, eq_self, cx, cy]
      exact fin
    · rw [if_neg cy] at fin
      simp only [s_M_common_0, s_M_common_1, s_M_common_2, s_M_common_3, s_M_common_6, s_M_common_7, s_M_common_8, s_M_common_11, s_M_common_12, s_M_common_14, s_M_common_15, s_M_common_16, s_M_common_17, s_M_common_20, s_M_common_21, s_M_common_22, s_M_common_25, s_M_common_26, s_M_common_28, s_M_common_30, s_M_common_31, s_M_common_32, s_M_common_35, s_M_common_37, s_M_common_39, s_M_common_40, s_M_common_42, s_M_common_44, s_M_common_46, s_M_common_48, s_M_common_50, s_M_common_53, s_M_common_55, sz_M_common_28, j_M_common_11, j_M_common_12, j_M_common_25, j_M_common_26, j_M_common_53, j_M_common_28, eg_t1_0, eg_t1_i, eg_t1_a, eg_t1_n, eg_t1_l, eg_t1_d, eg_t1_s, eg_t2_0, eg_t2_i, eg_t2_a, eg_t2_n, eg_t2_l, eg_t2_d, eg_t2_s, Option.toList_some, Option.toList_none, List.cons_append, List.nil_append, List.length_nil, List.length_cons, Nat.zero_le, true_and, and_true, true_implies, false_implies, implies_true, not_true_eq_false, not_false_eq_true, eg_bi_0, eg_bi_1, Decidable.not_or_self, Decidable.or_not_self, lg_cmp_ge, lg_cmp_le, lg_cmp_gt, lg_cmp_lt, lg_cmp_eq, or_true, true_or, eg_01, Nat.reduceAdd, Nat.reduceLeDiff, Nat.reduceMul, Nat.reduceEqDiff, rd_I, rd_I2, rd_L1, rd_L, rd_L2, rd_D1, rd_D2, rd_D, false_and, and_false, and_self, ↓reduceIte, if_true, if_false, eq_self, cx, cy]
      exact fin
theorem cm_end {v0 v2 : Int64} {a s : Nat} {o9 : Option Value} (hs : s ≤ 100) (hQ : Q (some (.long (lN a))) h) : eg_R m_Frac_commonMeasure Q n0 15 0 0 [some (.long v0), none, some (.long v2), none, some (.long (lN a)), none, some (.long (lN 0)), none, some (.int (nI s)), o9, none] [] h := by
  refine x_Frac_commonMeasure_15 ?_
  by_cases c : (100 : Int32) ≤ nI s
  · simp only [s_Frac_commonMeasure_0, s_Frac_commonMeasure_1, s_Frac_commonMeasure_4, s_Frac_commonMeasure_6, s_Frac_commonMeasure_7, s_Frac_commonMeasure_10, s_Frac_commonMeasure_12, s_Frac_commonMeasure_13, s_Frac_commonMeasure_15, s_Frac_commonMeasure_17, s_Frac_commonMeasure_19, s_Frac_commonMeasure_22, s_Frac_commonMeasure_24, s_Frac_commonMeasure_25, s_Frac_commonMeasure_26, s_Frac_commonMeasure_29, s_Frac_commonMeasure_31, s_Frac_commonMeasure_33, s_Frac_commonMeasure_34, s_Frac_commonMeasure_36, s_Frac_commonMeasure_38, s_Frac_commonMeasure_40, s_Frac_commonMeasure_42, s_Frac_commonMeasure_44, s_Frac_commonMeasure_47, s_Frac_commonMeasure_50, s_Frac_commonMeasure_52, sz_Frac_commonMeasure_15, j_Frac_commonMeasure_50, j_Frac_commonMeasure_15, eg_t1_0, eg_t1_i, eg_t1_a, eg_t1_n, eg_t1_l, eg_t1_d, eg_t1_s, eg_t2_0, eg_t2_i, eg_t2_a, eg_t2_n, eg_t2_l, eg_t2_d, eg_t2_s, Option.toList_some, Option.toList_none, List.cons_append, List.nil_append, List.length_nil, List.length_cons, Nat.zero_le, true_and, and_true, true_implies, false_implies, implies_true, not_true_eq_false, not_false_eq_true, eg_bi_0, eg_bi_1, Decidable.not_or_self, Decidable.or_not_self, lg_cmp_ge, lg_cmp_le, lg_cmp_gt, lg_cmp_lt, lg_cmp_eq, or_true, true_or, eg_01, Nat.reduceAdd, Nat.reduceLeDiff, Nat.reduceMul, Nat.reduceEqDiff, rd_I, rd_I2, rd_L1, rd_L, rd_L2, rd_D1, rd_D2, rd_D, false_and, and_false, and_self, ↓reduceIte, if_true, if_false, eq_self, c]
    exact hQ
  · simp only [s_Frac_commonMeasure_0, s_Frac_commonMeasure_1, s_Frac_commonMeasure_4, s_Frac_commonMeasure_6, s_Frac_commonMeasure_7, s_Frac_commonMeasure_10, s_Frac_commonMeasure_12, s_Frac_commonMeasure_13, s_Frac_commonMeasure_15, s_Frac_commonMeasure_17, s_Frac_commonMeasure_19, s_Frac_commonMeasure_22, s_Frac_commonMeasure_24, s_Frac_commonMeasure_25, s_Frac_commonMeasure_26, s_Frac_commonMeasure_29, s_Frac_commonMeasure_31, s_Frac_commonMeasure_33, s_Frac_commonMeasure_34, s_Frac_commonMeasure_36, s_Frac_commonMeasure_38, s_Frac_commonMeasure_40, s_Frac_commonMeasure_42, s_Frac_commonMeasure_44, s_Frac_commonMeasure_47, s_Frac_commonMeasure_50, s_Frac_commonMeasure_52, sz_Frac_commonMeasure_15, j_Frac_commonMeasure_50, j_Frac_commonMeasure_15, eg_t1_0, eg_t1_i, eg_t1_a, eg_t1_n, eg_t1_l, eg_t1_d, eg_t1_s, eg_t2_0, eg_t2_i, eg_t2_a, eg_t2_n, eg_t2_l, eg_t2_d, eg_t2_s, Option.toList_some, Option.toList_none, List.cons_append, List.nil_append, List.length_nil, List.length_cons, Nat.zero_le, true_and, and_true, true_implies, false_implies, implies_true, not_true_eq_false, not_false_eq_true, eg_bi_0, eg_bi_1, Decidable.not_or_self, Decidable.or_not_self, lg_cmp_ge, lg_cmp_le, lg_cmp_gt, lg_cmp_lt, lg_cmp_eq, or_true, true_or, eg_01, Nat.reduceAdd, Nat.reduceLeDiff, Nat.reduceMul, Nat.reduceEqDiff, rd_I, rd_I2, rd_L1, rd_L, rd_L2, rd_D1, rd_D2, rd_D, false_and, and_false, and_self, ↓reduceIte, if_true, if_false, eq_self, c, lN_0]
    exact hQ
theorem cm_step {v0 v2 : Int64} {a b s : Nat} {o9 : Option Value} (ha : a < 2 ^ 63) (hb : b < 2 ^ 63) (hp : 0 < b) (hs : s < 100) (hn : eg_R m_Frac_commonMeasure Q n0 15 0 0 [some (.long v0), none, some (.long v2), none, some (.long (lN b)), none, some (.long (lN (a % b))), none, some (.int (nI (s + 1))), some (.long (lN (a % b))), none] [] h) : eg_R m_Frac_commonMeasure Q n0 15 0 0 [some (.long v0), none, some (.long v2), none, some (.long (lN a)), none, some (.long (lN b)), none, some (.int (nI s)), o9, none] [] h := by
  refine x_Frac_commonMeasure_15 ?_
  have c : ¬ (100 : Int32) ≤ nI s := nI_ge (b := 100) hs (by decide)
  simp only [s_Frac_commonMeasure_0, s_Frac_commonMeasure_1, s_Frac_commonMeasure_4, s_Frac_commonMeasure_6, s_Frac_commonMeasure_7, s_Frac_commonMeasure_10, s_Frac_commonMeasure_12, s_Frac_commonMeasure_13, s_Frac_commonMeasure_15, s_Frac_commonMeasure_17, s_Frac_commonMeasure_19, s_Frac_commonMeasure_22, s_Frac_commonMeasure_24, s_Frac_commonMeasure_25, s_Frac_commonMeasure_26, s_Frac_commonMeasure_29, s_Frac_commonMeasure_31, s_Frac_commonMeasure_33, s_Frac_commonMeasure_34, s_Frac_commonMeasure_36, s_Frac_commonMeasure_38, s_Frac_commonMeasure_40, s_Frac_commonMeasure_42, s_Frac_commonMeasure_44, s_Frac_commonMeasure_47, s_Frac_commonMeasure_50, s_Frac_commonMeasure_52, sz_Frac_commonMeasure_15, j_Frac_commonMeasure_50, j_Frac_commonMeasure_15, eg_t1_0, eg_t1_i, eg_t1_a, eg_t1_n, eg_t1_l, eg_t1_d, eg_t1_s, eg_t2_0, eg_t2_i, eg_t2_a, eg_t2_n, eg_t2_l, eg_t2_d, eg_t2_s, Option.toList_some, Option.toList_none, List.cons_append, List.nil_append, List.length_nil, List.length_cons, Nat.zero_le, true_and, and_true, true_implies, false_implies, implies_true, not_true_eq_false, not_false_eq_true, eg_bi_0, eg_bi_1, Decidable.not_or_self, Decidable.or_not_self, lg_cmp_ge, lg_cmp_le, lg_cmp_gt, lg_cmp_lt, lg_cmp_eq, or_true, true_or, eg_01, Nat.reduceAdd, Nat.reduceLeDiff, Nat.reduceMul, Nat.reduceEqDiff, rd_I, rd_I2, rd_L1, rd_L, rd_L2, rd_D1, rd_D2, rd_D, false_and, and_false, and_self, ↓reduceIte, if_true, if_false, eq_self, c, lN_ne hp hb, pk_lRem ha hp hb, nI_1]
  exact hn
theorem lp_cm {v0 v2 : Int64} : ∀ (k a b s : Nat) (o9 : Option Value), a < 2 ^ 63 → b < 2 ^ 63 → b < 2 ^ k → s + 2 * k ≤ 100 → Q (some (.long (lN (Nat.gcd a b)))) h → eg_R m_Frac_commonMeasure Q n0 15 0 0 [some (.long v0), none, some (.long v2), none, some (.long (lN a)), none, some (.long (lN b)), none, some (.int (nI s)), o9, none] [] h := by
  intro k
  induction k with
  | zero =>
    intro a b s o9 ha hb hk hs hQ
    have : b = 0 := by omega
    subst this
    rw [Nat.gcd_zero_right] at hQ
    exact cm_end (by omega) hQ
  | succ k ih =>
    intro a b s o9 ha hb hk hs hQ
    by_cases c : b = 0
    · subst c
      rw [Nat.gcd_zero_right] at hQ
      exact cm_end (by omega) hQ
    · have hp : 0 < b := by omega
      have hr : a % b < 2 ^ 63 := Nat.lt_trans (Nat.mod_lt _ hp) hb
      refine cm_step ha hb hp (by omega) ?_
      rw [nu_gcd] at hQ
      by_cases c2 : a % b = 0
      · rw [c2, Nat.gcd_zero_right] at hQ
        rw [c2]
        exact cm_end (by omega) hQ
      · have hp2 : 0 < a % b := by omega
        have hh := nu_half hp2 hp
        refine cm_step hb hr hp2 (by omega) ?_
        rw [nu_gcd] at hQ
        have hk2 : b % (a % b) < 2 ^ k := by rw [Nat.pow_succ] at hk; omega
        exact ih _ _ _ _ hr (by omega) hk2 (by omega) hQ
theorem p_Frac_commonMeasure {x y : Int64} (hx : -9223372036854775808 < x.toInt) (hy : y.toInt.natAbs < 2 ^ 50) (hQ : Q (some (.long (lN (Nat.gcd x.toInt.natAbs y.toInt.natAbs)))) h) : eg_Runs n_Frac_commonMeasure [.long x, .long y] h Q := by
  have bx : x.toInt.natAbs < 2 ^ 63 := by have := Int64.toInt_lt x; omega
  have bY : y.toInt.natAbs < 2 ^ 63 := by omega
  refine e_Frac_commonMeasure ?_
  simp only [s_Frac_commonMeasure_0, s_Frac_commonMeasure_1, s_Frac_commonMeasure_4, s_Frac_commonMeasure_6, s_Frac_commonMeasure_7, s_Frac_commonMeasure_10, s_Frac_commonMeasure_12, s_Frac_commonMeasure_13, s_Frac_commonMeasure_15, s_Frac_commonMeasure_17, s_Frac_commonMeasure_19, s_Frac_commonMeasure_22, s_Frac_commonMeasure_24, s_Frac_commonMeasure_25, s_Frac_commonMeasure_26, s_Frac_commonMeasure_29, s_Frac_commonMeasure_31, s_Frac_commonMeasure_33, s_Frac_commonMeasure_34, s_Frac_commonMeasure_36, s_Frac_commonMeasure_38, s_Frac_commonMeasure_40, s_Frac_commonMeasure_42, s_Frac_commonMeasure_44, s_Frac_commonMeasure_47, s_Frac_commonMeasure_50, s_Frac_commonMeasure_52, sz_Frac_commonMeasure_15, j_Frac_commonMeasure_50, j_Frac_commonMeasure_15, eg_t1_0, eg_t1_i, eg_t1_a, eg_t1_n, eg_t1_l, eg_t1_d, eg_t1_s, eg_t2_0, eg_t2_i, eg_t2_a, eg_t2_n, eg_t2_l, eg_t2_d, eg_t2_s, Option.toList_some, Option.toList_none, List.cons_append, List.nil_append, List.length_nil, List.length_cons, Nat.zero_le, true_and, and_true, true_implies, false_implies, implies_true, not_true_eq_false, not_false_eq_true, eg_bi_0, eg_bi_1, Decidable.not_or_self, Decidable.or_not_self, lg_cmp_ge, lg_cmp_le, lg_cmp_gt, lg_cmp_lt, lg_cmp_eq, or_true, true_or, eg_01, Nat.reduceAdd, Nat.reduceLeDiff, Nat.reduceMul, Nat.reduceEqDiff, rd_I, rd_I2, rd_L1, rd_L, rd_L2, rd_D1, rd_D2, rd_D, false_and, and_false, and_self, ↓reduceIte, if_true, if_false, eq_self, lN_abs hx, lN_abs (x := y) (by omega)]
  repeat ((first | refine eg_Cs_of (p_Math_abs_J ?_)); simp only [s_Frac_commonMeasure_0, s_Frac_commonMeasure_1, s_Frac_commonMeasure_4, s_Frac_commonMeasure_6, s_Frac_commonMeasure_7, s_Frac_commonMeasure_10, s_Frac_commonMeasure_12, s_Frac_commonMeasure_13, s_Frac_commonMeasure_15, s_Frac_commonMeasure_17, s_Frac_commonMeasure_19, s_Frac_commonMeasure_22, s_Frac_commonMeasure_24, s_Frac_commonMeasure_25, s_Frac_commonMeasure_26, s_Frac_commonMeasure_29, s_Frac_commonMeasure_31, s_Frac_commonMeasure_33, s_Frac_commonMeasure_34, s_Frac_commonMeasure_36, s_Frac_commonMeasure_38, s_Frac_commonMeasure_40, s_Frac_commonMeasure_42, s_Frac_commonMeasure_44, s_Frac_commonMeasure_47, s_Frac_commonMeasure_50, s_Frac_commonMeasure_52, sz_Frac_commonMeasure_15, j_Frac_commonMeasure_50, j_Frac_commonMeasure_15, eg_t1_0, eg_t1_i, eg_t1_a, eg_t1_n, eg_t1_l, eg_t1_d, eg_t1_s, eg_t2_0, eg_t2_i, eg_t2_a, eg_t2_n, eg_t2_l, eg_t2_d, eg_t2_s, Option.toList_some, Option.toList_none, List.cons_append, List.nil_append, List.length_nil, List.length_cons, Nat.zero_le, true_and, and_true, true_implies, false_implies, implies_true, not_true_eq_false, not_false_eq_true, eg_bi_0, eg_bi_1, Decidable.not_or_self, Decidable.or_not_self, lg_cmp_ge, lg_cmp_le, lg_cmp_gt, lg_cmp_lt, lg_cmp_eq, or_true, true_or, eg_01, Nat.reduceAdd, Nat.reduceLeDiff, Nat.reduceMul, Nat.reduceEqDiff, rd_I, rd_I2, rd_L1, rd_L, rd_L2, rd_D1, rd_D2, rd_D, false_and, and_false, and_self, ↓reduceIte, if_true, if_false, eq_self, lN_abs hx, lN_abs (x := y) (by omega)])
  exact lp_cm 50 _ _ 0 _ bx bY hy (by omega) hQ
end Num
