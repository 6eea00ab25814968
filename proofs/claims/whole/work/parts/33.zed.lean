/-! WHOLE NUMBERS behind the longs -/
def lZ (z : Int) : Int64 := Int64.ofInt z
theorem lZ_add (a b : Int) : lZ a + lZ b = lZ (a + b) := (Int64.ofInt_add a b).symm
theorem lZ_sub (a b : Int) : lZ a - lZ b = lZ (a - b) := (Int64.ofInt_sub a b).symm
theorem lZ_mul (a b : Int) : lZ a * lZ b = lZ (a * b) := (Int64.ofInt_mul a b).symm
theorem lZ_neg (a : Int) : -lZ a = lZ (-a) := (Int64.ofInt_neg a).symm
theorem lZ_N (n : Nat) : lN n = lZ (n : Int) := Int64.ofInt_eq_ofNat.symm
theorem lZ_T {z : Int} (h : z.natAbs < 2 ^ 63) : (lZ z).toInt = z := Int64.toInt_ofInt_of_le (by omega) (by omega)
theorem lZ_lt {a b : Int} (ha : a.natAbs < 2 ^ 63) (hb : b.natAbs < 2 ^ 63) : lZ a < lZ b ↔ a < b := by
  rw [Int64.lt_iff_toInt_lt, lZ_T ha, lZ_T hb]
theorem lZ_le {a b : Int} (ha : a.natAbs < 2 ^ 63) (hb : b.natAbs < 2 ^ 63) : lZ a ≤ lZ b ↔ a ≤ b := by
  rw [Int64.le_iff_toInt_le, lZ_T ha, lZ_T hb]
theorem lZ_eq {a b : Int} (ha : a.natAbs < 2 ^ 63) (hb : b.natAbs < 2 ^ 63) : lZ a = lZ b ↔ a = b := by
  rw [← Int64.toInt_inj, lZ_T ha, lZ_T hb]
theorem nr_T {x : Int32} (h : nr x) : x.toInt.natAbs ≤ 300 := by
  have := (nr_iff x).mp h
  omega
theorem lZ_d {x y : Int32} (hx : nr x) (hy : nr y) : (x - y).toInt64 = lZ (x.toInt - y.toInt) := by
  have h1 := nr_T hx
  have h2 := nr_T hy
  refine Int64.toInt_inj.mp ?_
  rw [Int32.toInt_toInt64, lZ_T (by omega), Int32.toInt_sub, Int.bmod_eq_of_le] <;> omega
theorem bd_mul {x y : Int} {A B : Nat} (hx : x.natAbs ≤ A) (hy : y.natAbs ≤ B) : (x * y).natAbs ≤ A * B := by
  rw [Int.natAbs_mul]
  exact Nat.mul_le_mul hx hy
theorem sq_pos (x : Int) : 0 ≤ x * x := by
  rcases Int.le_total 0 x with h | h
  · exact Int.mul_nonneg h h
  · exact Int.mul_nonneg_of_nonpos_of_nonpos h h
theorem tn_of {x : Int64} (h : 0 ≤ x.toInt) : ∃ n : Nat, n < 2 ^ 63 ∧ x = lN n ∧ (n : Int) = x.toInt := by
  have := Int64.toInt_lt x
  obtain ⟨k, hk, rfl⟩ := pk_lOf (x := x) (by rw [Int64.lt_iff_toInt_lt]; have : (0 : Int64).toInt = 0 := rfl; omega)
  exact ⟨k, hk, rfl, (pk_lT hk).symm⟩
section Zed
variable {Q : Option Value → List eg_E → Prop} {h t : List eg_E} {S T : eg_S} {n0 : Nat}
theorem ls_N {a b c d : Nat} : a * d < c * b ↔ (a : Int) * (d : Int) < (c : Int) * (b : Int) := by
  rw [← Int.natCast_mul, ← Int.natCast_mul]
  exact Int.ofNat_lt.symm
theorem p_XL {a b c d : Int64} (ha : 0 ≤ a.toInt) (hb : 0 < b.toInt) (hb2 : b.toInt < 2 ^ 50) (hc : 0 ≤ c.toInt) (hd : 0 < d.toInt) (hd2 : d.toInt < 2 ^ 50) (hQ : Q (some (.int (eg_bi (a.toInt * d.toInt < c.toInt * b.toInt)))) h) : eg_Runs n_Frac_isLess [.long a, .long b, .long c, .long d] h Q := by
  obtain ⟨a, a1, rfl, ea⟩ := tn_of ha
  obtain ⟨b, b1, rfl, eb⟩ := tn_of (Int.le_of_lt hb)
  obtain ⟨c, c1, rfl, ec⟩ := tn_of hc
  obtain ⟨d, d1, rfl, ed⟩ := tn_of (Int.le_of_lt hd)
  rw [← eb] at hb hb2
  rw [← ed] at hd hd2
  refine p_Frac_isLess a1 (by omega) c1 (by omega) (by omega) (by omega) ?_
  rw [bi_iff0 ls_N, ea, eb, ec, ed]
  exact hQ
theorem p_ML {a b c d : Int64} (ha : 0 ≤ a.toInt) (hb : 0 < b.toInt) (hc : 0 ≤ c.toInt) (hd : 0 < d.toInt) (hQ : Q (some (.int (eg_bi (a.toInt * d.toInt < c.toInt * b.toInt)))) h) : eg_Runs n_M_isLess [.long a, .long b, .long c, .long d] h Q := by
  obtain ⟨a, a1, rfl, ea⟩ := tn_of ha
  obtain ⟨b, b1, rfl, eb⟩ := tn_of (Int.le_of_lt hb)
  obtain ⟨c, c1, rfl, ec⟩ := tn_of hc
  obtain ⟨d, d1, rfl, ed⟩ := tn_of (Int.le_of_lt hd)
  rw [← eb] at hb
  rw [← ed] at hd
  refine p_M_isLess a1 b1 c1 d1 (by omega) (by omega) ?_
  rw [bi_iff0 ls_N, ea, eb, ec, ed]
  exact hQ
/-- a common measure of two longs -/
def gL (a b : Int64) : Int64 := lN (Nat.gcd a.toInt.natAbs b.toInt.natAbs)
theorem gL_ne {a b : Int64} (hb : 0 < b.toInt) : ¬ gL a b = 0 ∧ 0 < (gL a b).toInt := by
  have h1 := Int64.toInt_lt b
  have hp : 0 < Nat.gcd a.toInt.natAbs b.toInt.natAbs := Nat.gcd_pos_of_pos_right _ (by omega)
  have hl : Nat.gcd a.toInt.natAbs b.toInt.natAbs ≤ b.toInt.natAbs := Nat.gcd_le_right _ (by omega)
  refine ⟨lN_ne hp (by omega), ?_⟩
  unfold gL
  rw [pk_lT (by omega)]
  omega
theorem p_gX {x y : Int64} (hx : -9223372036854775808 < x.toInt) (hy : y.toInt.natAbs < 2 ^ 50) (hQ : Q (some (.long (gL x y))) h) : eg_Runs n_Frac_commonMeasure [.long x, .long y] h Q := p_Frac_commonMeasure hx hy hQ
theorem p_gM {x y : Int64} (hx : -9223372036854775808 < x.toInt) (hy : -9223372036854775808 < y.toInt) (hQ : Q (some (.long (gL x y))) h) : eg_Runs n_M_common [.long x, .long y] h Q := p_M_common hx hy hQ
theorem sL_sL (S : eg_S) (f k : Nat) (g g' : Nat → Int64) : sL (sL S f k g) f k g' = sL S f k g' := by
  refine Prod.ext rfl (Prod.ext (funext fun f1 => funext fun k1 => ?_) rfl)
  show (if f1 = f ∧ k1 = k then g' else if f1 = f ∧ k1 = k then g else S.2.1 f1 k1) = if f1 = f ∧ k1 = k then g' else S.2.1 f1 k1
  by_cases c : f1 = f ∧ k1 = k
  · rw [if_pos c, if_pos c]
  · rw [if_neg c, if_neg c, if_neg c]
theorem sL_cm (S : eg_S) {a b : Nat} (hab : a ≠ b) (k l : Nat) (f g f' : Nat → Int64) : sL (sL (sL S a k f) b l g) a k f' = sL (sL S a k f') b l g := by
  refine Prod.ext rfl (Prod.ext (funext fun f1 => funext fun k1 => ?_) rfl)
  show (if f1 = a ∧ k1 = k then f' else if f1 = b ∧ k1 = l then g else if f1 = a ∧ k1 = k then f else S.2.1 f1 k1) = if f1 = b ∧ k1 = l then g else if f1 = a ∧ k1 = k then f' else S.2.1 f1 k1
  by_cases c : f1 = a ∧ k1 = k
  · have c2 : ¬ (f1 = b ∧ k1 = l) := fun q => hab (c.1.symm.trans q.1)
    rw [if_pos c, if_neg c2, if_pos c]
  · rw [if_neg c, if_neg c, if_neg c]
theorem sI_cm (S : eg_S) {a b : Nat} (hab : a ≠ b) (k l : Nat) (f g f' : Nat → Int32) : sI (sI (sI S a k f) b l g) a k f' = sI (sI S a k f') b l g := by
  refine Prod.ext (funext fun f1 => funext fun k1 => ?_) rfl
  show (if f1 = a ∧ k1 = k then f' else if f1 = b ∧ k1 = l then g else if f1 = a ∧ k1 = k then f else S.1 f1 k1) = if f1 = b ∧ k1 = l then g else if f1 = a ∧ k1 = k then f' else S.1 f1 k1
  by_cases c : f1 = a ∧ k1 = k
  · have c2 : ¬ (f1 = b ∧ k1 = l) := fun q => hab (c.1.symm.trans q.1)
    rw [if_pos c, if_neg c2, if_pos c]
  · rw [if_neg c, if_neg c, if_neg c]
def bcL (S : eg_S) (a b : Int64) : eg_S := sL (sL S 16 0 (fun _ => a / gL a b)) 17 0 (fun _ => b / gL a b)
theorem p_become_FrL {a b : Int64} (ha : -9223372036854775808 < a.toInt) (hb : 0 < b.toInt) (hb2 : b.toInt < 2 ^ 50) (hQ : Q none (WX (bcL S a b) t)) : eg_Runs n_Frac_become [.ref 26, .long a, .long b] (WX S t) Q := by
  refine e_Frac_become ?_
  have c1 : ¬ b ≤ 0 := by
    rw [Int64.le_iff_toInt_le]
    have : (0 : Int64).toInt = 0 := rfl
    omega
  simp only [s_Frac_become_0, s_Frac_become_1, s_Frac_become_2, s_Frac_become_5, s_Frac_become_7, s_Frac_become_8, s_Frac_become_9, s_Frac_become_10, s_Frac_become_13, s_Frac_become_15, s_Frac_become_16, s_Frac_become_17, s_Frac_become_20, s_Frac_become_21, s_Frac_become_22, s_Frac_become_23, s_Frac_become_25, s_Frac_become_26, s_Frac_become_29, s_Frac_become_30, s_Frac_become_31, s_Frac_become_33, s_Frac_become_34, s_Frac_become_37, j_Frac_become_20, j_Frac_become_21, k_FrL, g_FrL_above, f_FrL_above, g_FrL_below, f_FrL_below, eg_t1_0, eg_t1_i, eg_t1_a, eg_t1_n, eg_t1_l, eg_t1_d, eg_t1_s, eg_t2_0, eg_t2_i, eg_t2_a, eg_t2_n, eg_t2_l, eg_t2_d, eg_t2_s, Option.toList_some, Option.toList_none, List.cons_append, List.nil_append, List.length_nil, List.length_cons, Nat.zero_le, true_and, and_true, true_implies, false_implies, implies_true, not_true_eq_false, not_false_eq_true, eg_bi_0, eg_bi_1, Decidable.not_or_self, Decidable.or_not_self, lg_cmp_ge, lg_cmp_le, lg_cmp_gt, lg_cmp_lt, lg_cmp_eq, or_true, true_or, eg_01, Nat.reduceAdd, Nat.reduceLeDiff, Nat.reduceMul, Nat.reduceEqDiff, rd_I, rd_I2, rd_L1, rd_L, rd_L2, rd_D1, rd_D2, rd_D, false_and, and_false, and_self, ↓reduceIte, if_true, if_false, eq_self, c1, (gL_ne (a := a) hb).1]
  repeat ((first | refine eg_Cs_of (p_gX ha (show b.toInt.natAbs < 2 ^ 50 by omega) ?_)); simp only [s_Frac_become_0, s_Frac_become_1, s_Frac_become_2, s_Frac_become_5, s_Frac_become_7, s_Frac_become_8, s_Frac_become_9, s_Frac_become_10, s_Frac_become_13, s_Frac_become_15, s_Frac_become_16, s_Frac_become_17, s_Frac_become_20, s_Frac_become_21, s_Frac_become_22, s_Frac_become_23, s_Frac_become_25, s_Frac_become_26, s_Frac_become_29, s_Frac_become_30, s_Frac_become_31, s_Frac_become_33, s_Frac_become_34, s_Frac_become_37, j_Frac_become_20, j_Frac_become_21, k_FrL, g_FrL_above, f_FrL_above, g_FrL_below, f_FrL_below, eg_t1_0, eg_t1_i, eg_t1_a, eg_t1_n, eg_t1_l, eg_t1_d, eg_t1_s, eg_t2_0, eg_t2_i, eg_t2_a, eg_t2_n, eg_t2_l, eg_t2_d, eg_t2_s, Option.toList_some, Option.toList_none, List.cons_append, List.nil_append, List.length_nil, List.length_cons, Nat.zero_le, true_and, and_true, true_implies, false_implies, implies_true, not_true_eq_false, not_false_eq_true, eg_bi_0, eg_bi_1, Decidable.not_or_self, Decidable.or_not_self, lg_cmp_ge, lg_cmp_le, lg_cmp_gt, lg_cmp_lt, lg_cmp_eq, or_true, true_or, eg_01, Nat.reduceAdd, Nat.reduceLeDiff, Nat.reduceMul, Nat.reduceEqDiff, rd_I, rd_I2, rd_L1, rd_L, rd_L2, rd_D1, rd_D2, rd_D, false_and, and_false, and_self, ↓reduceIte, if_true, if_false, eq_self, c1, (gL_ne (a := a) hb).1])
  exact hQ
def bc_FrM (S : eg_S) (f : Nat) (a b : Int64) : eg_S := sL (sL S 18 f (fun _ => a / gL a b)) 19 f (fun _ => b / gL a b)
theorem p_become_FrM {f : Nat} {a b : Int64} (hf : f < 6) (ha : -9223372036854775808 < a.toInt) (hb : 0 < b.toInt) (hb2 : b.toInt < 2 ^ 50) (hQ : Q none (WX (bc_FrM S f a b) t)) : eg_Runs n_Frac_become [.ref (62 + 6 * f + 1), .long a, .long b] (WX S t) Q := by
  refine e_Frac_become ?_
  have c1 : ¬ b ≤ 0 := by
    rw [Int64.le_iff_toInt_le]
    have : (0 : Int64).toInt = 0 := rfl
    omega
  simp only [s_Frac_become_0, s_Frac_become_1, s_Frac_become_2, s_Frac_become_5, s_Frac_become_7, s_Frac_become_8, s_Frac_become_9, s_Frac_become_10, s_Frac_become_13, s_Frac_become_15, s_Frac_become_16, s_Frac_become_17, s_Frac_become_20, s_Frac_become_21, s_Frac_become_22, s_Frac_become_23, s_Frac_become_25, s_Frac_become_26, s_Frac_become_29, s_Frac_become_30, s_Frac_become_31, s_Frac_become_33, s_Frac_become_34, s_Frac_become_37, j_Frac_become_20, j_Frac_become_21, (k_FrM hf), (g_FrM_above hf), (f_FrM_above hf), (g_FrM_below hf), (f_FrM_below hf), eg_t1_0, eg_t1_i, eg_t1_a, eg_t1_n, eg_t1_l, eg_t1_d, eg_t1_s, eg_t2_0, eg_t2_i, eg_t2_a, eg_t2_n, eg_t2_l, eg_t2_d, eg_t2_s, Option.toList_some, Option.toList_none, List.cons_append, List.nil_append, List.length_nil, List.length_cons, Nat.zero_le, true_and, and_true, true_implies, false_implies, implies_true, not_true_eq_false, not_false_eq_true, eg_bi_0, eg_bi_1, Decidable.not_or_self, Decidable.or_not_self, lg_cmp_ge, lg_cmp_le, lg_cmp_gt, lg_cmp_lt, lg_cmp_eq, or_true, true_or, eg_01, Nat.reduceAdd, Nat.reduceLeDiff, Nat.reduceMul, Nat.reduceEqDiff, rd_I, rd_I2, rd_L1, rd_L, rd_L2, rd_D1, rd_D2, rd_D, false_and, and_false, and_self, ↓reduceIte, if_true, if_false, eq_self, c1, (gL_ne (a := a) hb).1]
  repeat ((first | refine eg_Cs_of (p_gX ha (show b.toInt.natAbs < 2 ^ 50 by omega) ?_)); simp only [s_Frac_become_0, s_Frac_become_1, s_Frac_become_2, s_Frac_become_5, s_Frac_become_7, s_Frac_become_8, s_Frac_become_9, s_Frac_become_10, s_Frac_become_13, s_Frac_become_15, s_Frac_become_16, s_Frac_become_17, s_Frac_become_20, s_Frac_become_21, s_Frac_become_22, s_Frac_become_23, s_Frac_become_25, s_Frac_become_26, s_Frac_become_29, s_Frac_become_30, s_Frac_become_31, s_Frac_become_33, s_Frac_become_34, s_Frac_become_37, j_Frac_become_20, j_Frac_become_21, (k_FrM hf), (g_FrM_above hf), (f_FrM_above hf), (g_FrM_below hf), (f_FrM_below hf), eg_t1_0, eg_t1_i, eg_t1_a, eg_t1_n, eg_t1_l, eg_t1_d, eg_t1_s, eg_t2_0, eg_t2_i, eg_t2_a, eg_t2_n, eg_t2_l, eg_t2_d, eg_t2_s, Option.toList_some, Option.toList_none, List.cons_append, List.nil_append, List.length_nil, List.length_cons, Nat.zero_le, true_and, and_true, true_implies, false_implies, implies_true, not_true_eq_false, not_false_eq_true, eg_bi_0, eg_bi_1, Decidable.not_or_self, Decidable.or_not_self, lg_cmp_ge, lg_cmp_le, lg_cmp_gt, lg_cmp_lt, lg_cmp_eq, or_true, true_or, eg_01, Nat.reduceAdd, Nat.reduceLeDiff, Nat.reduceMul, Nat.reduceEqDiff, rd_I, rd_I2, rd_L1, rd_L, rd_L2, rd_D1, rd_D2, rd_D, false_and, and_false, and_self, ↓reduceIte, if_true, if_false, eq_self, c1, (gL_ne (a := a) hb).1])
  exact hQ
def bc_FrX (S : eg_S) (f : Nat) (a b : Int64) : eg_S := sL (sL S 20 f (fun _ => a / gL a b)) 21 f (fun _ => b / gL a b)
theorem p_become_FrX {f : Nat} {a b : Int64} (hf : f < 6) (ha : -9223372036854775808 < a.toInt) (hb : 0 < b.toInt) (hb2 : b.toInt < 2 ^ 50) (hQ : Q none (WX (bc_FrX S f a b) t)) : eg_Runs n_Frac_become [.ref (63 + 6 * f + 1), .long a, .long b] (WX S t) Q := by
  refine e_Frac_become ?_
  have c1 : ¬ b ≤ 0 := by
    rw [Int64.le_iff_toInt_le]
    have : (0 : Int64).toInt = 0 := rfl
    omega
  simp only [s_Frac_become_0, s_Frac_become_1, s_Frac_become_2, s_Frac_become_5, s_Frac_become_7, s_Frac_become_8, s_Frac_become_9, s_Frac_become_10, s_Frac_become_13, s_Frac_become_15, s_Frac_become_16, s_Frac_become_17, s_Frac_become_20, s_Frac_become_21, s_Frac_become_22, s_Frac_become_23, s_Frac_become_25, s_Frac_become_26, s_Frac_become_29, s_Frac_become_30, s_Frac_become_31, s_Frac_become_33, s_Frac_become_34, s_Frac_become_37, j_Frac_become_20, j_Frac_become_21, (k_FrX hf), (g_FrX_above hf), (f_FrX_above hf), (g_FrX_below hf), (f_FrX_below hf), eg_t1_0, eg_t1_i, eg_t1_a, eg_t1_n, eg_t1_l, eg_t1_d, eg_t1_s, eg_t2_0, eg_t2_i, eg_t2_a, eg_t2_n, eg_t2_l, eg_t2_d, eg_t2_s, Option.toList_some, Option.toList_none, List.cons_append, List.nil_append, List.length_nil, List.length_cons, Nat.zero_le, true_and, and_true, true_implies, false_implies, implies_true, not_true_eq_false, not_false_eq_true, eg_bi_0, eg_bi_1, Decidable.not_or_self, Decidable.or_not_self, lg_cmp_ge, lg_cmp_le, lg_cmp_gt, lg_cmp_lt, lg_cmp_eq, or_true, true_or, eg_01, Nat.reduceAdd, Nat.reduceLeDiff, Nat.reduceMul, Nat.reduceEqDiff, rd_I, rd_I2, rd_L1, rd_L, rd_L2, rd_D1, rd_D2, rd_D, false_and, and_false, and_self, ↓reduceIte, if_true, if_false, eq_self, c1, (gL_ne (a := a) hb).1]
  repeat ((first | refine eg_Cs_of (p_gX ha (show b.toInt.natAbs < 2 ^ 50 by omega) ?_)); simp only [s_Frac_become_0, s_Frac_become_1, s_Frac_become_2, s_Frac_become_5, s_Frac_become_7, s_Frac_become_8, s_Frac_become_9, s_Frac_become_10, s_Frac_become_13, s_Frac_become_15, s_Frac_become_16, s_Frac_become_17, s_Frac_become_20, s_Frac_become_21, s_Frac_become_22, s_Frac_become_23, s_Frac_become_25, s_Frac_become_26, s_Frac_become_29, s_Frac_become_30, s_Frac_become_31, s_Frac_become_33, s_Frac_become_34, s_Frac_become_37, j_Frac_become_20, j_Frac_become_21, (k_FrX hf), (g_FrX_above hf), (f_FrX_above hf), (g_FrX_below hf), (f_FrX_below hf), eg_t1_0, eg_t1_i, eg_t1_a, eg_t1_n, eg_t1_l, eg_t1_d, eg_t1_s, eg_t2_0, eg_t2_i, eg_t2_a, eg_t2_n, eg_t2_l, eg_t2_d, eg_t2_s, Option.toList_some, Option.toList_none, List.cons_append, List.nil_append, List.length_nil, List.length_cons, Nat.zero_le, true_and, and_true, true_implies, false_implies, implies_true, not_true_eq_false, not_false_eq_true, eg_bi_0, eg_bi_1, Decidable.not_or_self, Decidable.or_not_self, lg_cmp_ge, lg_cmp_le, lg_cmp_gt, lg_cmp_lt, lg_cmp_eq, or_true, true_or, eg_01, Nat.reduceAdd, Nat.reduceLeDiff, Nat.reduceMul, Nat.reduceEqDiff, rd_I, rd_I2, rd_L1, rd_L, rd_L2, rd_D1, rd_D2, rd_D, false_and, and_false, and_self, ↓reduceIte, if_true, if_false, eq_self, c1, (gL_ne (a := a) hb).1])
  exact hQ
def bc_FrY (S : eg_S) (f : Nat) (a b : Int64) : eg_S := sL (sL S 22 f (fun _ => a / gL a b)) 23 f (fun _ => b / gL a b)
theorem p_become_FrY {f : Nat} {a b : Int64} (hf : f < 6) (ha : -9223372036854775808 < a.toInt) (hb : 0 < b.toInt) (hb2 : b.toInt < 2 ^ 50) (hQ : Q none (WX (bc_FrY S f a b) t)) : eg_Runs n_Frac_become [.ref (64 + 6 * f + 1), .long a, .long b] (WX S t) Q := by
  refine e_Frac_become ?_
  have c1 : ¬ b ≤ 0 := by
    rw [Int64.le_iff_toInt_le]
    have : (0 : Int64).toInt = 0 := rfl
    omega
  simp only [s_Frac_become_0, s_Frac_become_1, s_Frac_become_2, s_Frac_become_5, s_Frac_become_7, s_Frac_become_8, s_Frac_become_9, s_Frac_become_10, s_Frac_become_13, s_Frac_become_15, s_Frac_become_16, s_Frac_become_17, s_Frac_become_20, s_Frac_become_21, s_Frac_become_22, s_Frac_become_23, s_Frac_become_25, s_Frac_become_26, s_Frac_become_29, s_Frac_become_30, s_Frac_become_31, s_Frac_become_33, s_Frac_become_34, s_Frac_become_37, j_Frac_become_20, j_Frac_become_21, (k_FrY hf), (g_FrY_above hf), (f_FrY_above hf), (g_FrY_below hf), (f_FrY_below hf), eg_t1_0, eg_t1_i, eg_t1_a, eg_t1_n, eg_t1_l, eg_t1_d, eg_t1_s, eg_t2_0, eg_t2_i, eg_t2_a, eg_t2_n, eg_t2_l, eg_t2_d, eg_t2_s, Option.toList_some, Option.toList_none, List.cons_append, List.nil_append, List.length_nil, List.length_cons, Nat.zero_le, true_and, and_true, true_implies, false_implies, implies_true, not_true_eq_false, not_false_eq_true, eg_bi_0, eg_bi_1, Decidable.not_or_self, Decidable.or_not_self, lg_cmp_ge, lg_cmp_le, lg_cmp_gt, lg_cmp_lt, lg_cmp_eq, or_true, true_or, eg_01, Nat.reduceAdd, Nat.reduceLeDiff, Nat.reduceMul, Nat.reduceEqDiff, rd_I, rd_I2, rd_L1, rd_L, rd_L2, rd_D1, rd_D2, rd_D, false_and, and_false, and_self, ↓reduceIte, if_true, if_false, eq_self, c1, (gL_ne (a := a) hb).1]
  repeat ((first | refine eg_Cs_of (p_gX ha (show b.toInt.natAbs < 2 ^ 50 by omega) ?_)); simp only [s_Frac_become_0, s_Frac_become_1, s_Frac_become_2, s_Frac_become_5, s_Frac_become_7, s_Frac_become_8, s_Frac_become_9, s_Frac_become_10, s_Frac_become_13, s_Frac_become_15, s_Frac_become_16, s_Frac_become_17, s_Frac_become_20, s_Frac_become_21, s_Frac_become_22, s_Frac_become_23, s_Frac_become_25, s_Frac_become_26, s_Frac_become_29, s_Frac_become_30, s_Frac_become_31, s_Frac_become_33, s_Frac_become_34, s_Frac_become_37, j_Frac_become_20, j_Frac_become_21, (k_FrY hf), (g_FrY_above hf), (f_FrY_above hf), (g_FrY_below hf), (f_FrY_below hf), eg_t1_0, eg_t1_i, eg_t1_a, eg_t1_n, eg_t1_l, eg_t1_d, eg_t1_s, eg_t2_0, eg_t2_i, eg_t2_a, eg_t2_n, eg_t2_l, eg_t2_d, eg_t2_s, Option.toList_some, Option.toList_none, List.cons_append, List.nil_append, List.length_nil, List.length_cons, Nat.zero_le, true_and, and_true, true_implies, false_implies, implies_true, not_true_eq_false, not_false_eq_true, eg_bi_0, eg_bi_1, Decidable.not_or_self, Decidable.or_not_self, lg_cmp_ge, lg_cmp_le, lg_cmp_gt, lg_cmp_lt, lg_cmp_eq, or_true, true_or, eg_01, Nat.reduceAdd, Nat.reduceLeDiff, Nat.reduceMul, Nat.reduceEqDiff, rd_I, rd_I2, rd_L1, rd_L, rd_L2, rd_D1, rd_D2, rd_D, false_and, and_false, and_self, ↓reduceIte, if_true, if_false, eq_self, c1, (gL_ne (a := a) hb).1])
  exact hQ
end Zed
