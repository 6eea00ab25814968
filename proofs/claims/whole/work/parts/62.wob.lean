/-! BITS: the class's method -/
theorem wb_n (v : Int64) : v.toUInt64.toNat = v.toBitVec.toNat := rfl
theorem wb_sl (v : Int64) : v <<< (1 : Int64) = 0 ↔ v.toUInt64.toNat % 9223372036854775808 = 0 := by
  rw [wb_n, ← Int64.toBitVec_inj, ← BitVec.toNat_inj]
  have e : (v <<< (1 : Int64)).toBitVec.toNat = v.toBitVec.toNat * 2 % 18446744073709551616 := by
    rw [Int64.toBitVec_shiftLeft]
    show (v.toBitVec <<< (1 : Nat)).toNat = _
    rw [BitVec.toNat_shiftLeft, Nat.shiftLeft_eq]
  rw [e]
  show _ = 0 ↔ _
  have := v.toBitVec.isLt
  omega
theorem wb_lN {x : Int64} {k : Nat} (h : x.toBitVec.toNat = k) : x = lN k := by
  rw [← Int64.toBitVec_inj, ← BitVec.toNat_inj, h]
  have : k < 18446744073709551616 := by rw [← h]; exact x.toBitVec.isLt
  show k = (BitVec.ofNat 64 k).toNat
  rw [BitVec.toNat_ofNat, Nat.mod_eq_of_lt this]
theorem wb_and (x : Int64) (k : Nat) (hk : k < 64) (y : Int64) (hy : y.toBitVec.toNat = 2 ^ k - 1) : (x &&& y).toBitVec.toNat = x.toBitVec.toNat % 2 ^ k := by
  rw [Int64.toBitVec_and, BitVec.toNat_and, hy, Nat.and_two_pow_sub_one_eq_mod]
theorem wb_exp (v : Int64) : ((v.toUInt64 >>> (Int64.toUInt64 52 &&& Int64.toUInt64 63)).toInt64 &&& 2047).toInt32 = nI (v.toUInt64.toNat / 4503599627370496 % 2048) := by
  have e : ((v.toUInt64 >>> (Int64.toUInt64 52 &&& Int64.toUInt64 63)).toInt64 &&& 2047) = lN (v.toUInt64.toNat / 4503599627370496 % 2048) := by
    refine wb_lN ?_
    rw [wb_and _ 11 (by decide) _ (by decide)]
    have : ((v.toUInt64 >>> (Int64.toUInt64 52 &&& Int64.toUInt64 63)).toInt64).toBitVec.toNat = v.toUInt64.toNat / 4503599627370496 := by
      show (v.toUInt64 >>> (Int64.toUInt64 52 &&& Int64.toUInt64 63)).toNat = _
      rw [UInt64.toNat_shiftRight, show (Int64.toUInt64 52 &&& Int64.toUInt64 63).toNat % 64 = 52 from by decide, Nat.shiftRight_eq_div_pow]
    rw [this]
  rw [e]
  have hb : v.toUInt64.toNat / 4503599627370496 % 2048 < 2048 := Nat.mod_lt _ (by decide)
  generalize v.toUInt64.toNat / 4503599627370496 % 2048 = E at hb
  show (Int64.ofNat E).toInt32 = Int32.ofNat E
  rw [Int64.toInt32_ofNat']
theorem wb_dig (v : Int64) : (v &&& 4503599627370495) ||| 4503599627370496 = lN (v.toUInt64.toNat % 4503599627370496 + 4503599627370496) := by
  refine wb_lN ?_
  rw [Int64.toBitVec_or, BitVec.toNat_or, wb_and _ 52 (by decide) _ (by decide)]
  have h : v.toBitVec.toNat % 2 ^ 52 < 2 ^ 52 := Nat.mod_lt _ (by decide)
  have e := Nat.two_pow_add_eq_or_of_lt h 1
  rw [Nat.mul_one] at e
  show v.toBitVec.toNat % 2 ^ 52 ||| 2 ^ 52 = v.toBitVec.toNat % 2 ^ 52 + 2 ^ 52
  rw [Nat.or_comm, ← e, Nat.add_comm]
theorem wb_beh {D k : Nat} (hk : k < 63) (hD : D < 9223372036854775808) (y : Int64) (hy : y.toBitVec.toNat = 2 ^ k - 1) : lN D &&& y = 0 ↔ D % 2 ^ k = 0 := by
  rw [← Int64.toBitVec_inj, ← BitVec.toNat_inj, wb_and _ k (by omega) _ hy]
  have : (lN D).toBitVec.toNat = D := by
    show (BitVec.ofNat 64 D).toNat = D
    rw [BitVec.toNat_ofNat, Nat.mod_eq_of_lt (by omega)]
  rw [this]
  exact Iff.rfl
theorem wb_sr {D k : Nat} (hD : D < 9223372036854775808) (y : Int64) (hy : y.toBitVec.smod 64 = BitVec.ofNat 64 k) (hk : k < 64) (hs : D / 2 ^ k < 1000) : (lN D >>> y).toInt32 = nI (D / 2 ^ k) := by
  have tD : (BitVec.ofNat 64 D).toNat = D := by rw [BitVec.toNat_ofNat, Nat.mod_eq_of_lt (by omega)]
  have tk : (BitVec.ofNat 64 k).toNat = k := by rw [BitVec.toNat_ofNat, Nat.mod_eq_of_lt (by omega)]
  have e : lN D >>> y = lN (D / 2 ^ k) := by
    refine wb_lN ?_
    rw [Int64.toBitVec_shiftRight, hy]
    show ((BitVec.ofNat 64 D).sshiftRight (BitVec.ofNat 64 k).toNat).toNat = _
    rw [tk, BitVec.sshiftRight_eq_of_msb_false, BitVec.toNat_ushiftRight, tD, Nat.shiftRight_eq_div_pow]
    rw [BitVec.msb_eq_false_iff_two_mul_lt, tD]
    omega
  rw [e]
  show (Int64.ofNat (D / 2 ^ k)).toInt32 = Int32.ofNat (D / 2 ^ k)
  rw [Int64.toInt32_ofNat']
theorem wb_neg (v : Int64) : v < 0 ↔ ¬ v.toUInt64.toNat / 9223372036854775808 = 0 := by
  rw [Int64.lt_iff_toInt_lt, wb_n]
  show v.toBitVec.toInt < 0 ↔ _
  have := v.toBitVec.isLt
  rw [BitVec.toInt_eq_toNat_cond]
  split <;> omega
theorem wb_case {E : Nat} (h1 : 1023 ≤ E) (h2 : E ≤ 1031) : ∃ (k : Nat) (w : Int32) (y m : Int64), 43 < k ∧ k < 53 ∧ 1075 - E = k ∧ (52 : Int32) - (nI E - 1023) = w ∧ ¬ nI E - 1023 < 0 ∧ nI E - 1023 ≤ 8 ∧ (w.toInt64 &&& 63) = y ∧ (1 : Int64) <<< y - 1 = m ∧ m.toBitVec.toNat = 2 ^ k - 1 ∧ y.toBitVec.smod 64 = BitVec.ofNat 64 k := by
  have hE : E = 1023 ∨ E = 1024 ∨ E = 1025 ∨ E = 1026 ∨ E = 1027 ∨ E = 1028 ∨ E = 1029 ∨ E = 1030 ∨ E = 1031 := by omega
  rcases hE with rfl | rfl | rfl | rfl | rfl | rfl | rfl | rfl | rfl
  · exact ⟨52, 52, 52, 4503599627370495, by decide, by decide, rfl, by decide, by decide, by decide, by decide, by decide, by decide, by decide⟩
  · exact ⟨51, 51, 51, 2251799813685247, by decide, by decide, rfl, by decide, by decide, by decide, by decide, by decide, by decide, by decide⟩
  · exact ⟨50, 50, 50, 1125899906842623, by decide, by decide, rfl, by decide, by decide, by decide, by decide, by decide, by decide, by decide⟩
  · exact ⟨49, 49, 49, 562949953421311, by decide, by decide, rfl, by decide, by decide, by decide, by decide, by decide, by decide, by decide⟩
  · exact ⟨48, 48, 48, 281474976710655, by decide, by decide, rfl, by decide, by decide, by decide, by decide, by decide, by decide, by decide⟩
  · exact ⟨47, 47, 47, 140737488355327, by decide, by decide, rfl, by decide, by decide, by decide, by decide, by decide, by decide, by decide⟩
  · exact ⟨46, 46, 46, 70368744177663, by decide, by decide, rfl, by decide, by decide, by decide, by decide, by decide, by decide, by decide⟩
  · exact ⟨45, 45, 45, 35184372088831, by decide, by decide, rfl, by decide, by decide, by decide, by decide, by decide, by decide, by decide⟩
  · exact ⟨44, 44, 44, 17592186044415, by decide, by decide, rfl, by decide, by decide, by decide, by decide, by decide, by decide, by decide⟩
section Wob
variable {Q : Option Value → List eg_E → Prop} {h t : List eg_E} {S T : eg_S} {n0 : Nat}
theorem p_wholeOfBits {v : Int64} (hQ : Q (some (.int (wob v.toUInt64.toNat))) h) : eg_Runs n_Sheet_wholeOfBits [.long v] h Q := by
  have s1 : ((1 : Int32).toInt64 &&& 63) = 1 := by decide
  have i52 : (52 : Int32).toInt64 = 52 := by decide
  refine e_Sheet_wholeOfBits ?_
  unfold wob wobF at hQ
  have cz : (v.toUInt64.toNat / 4503599627370496 % 2048 = 0 ∧ v.toUInt64.toNat % 4503599627370496 = 0) ↔ v.toUInt64.toNat % 9223372036854775808 = 0 := by omega
  by_cases c0 : v.toUInt64.toNat % 9223372036854775808 = 0
  · rw [if_pos (cz.mpr c0)] at hQ
    have g0 : v <<< (1 : Int64) = 0 := (wb_sl v).mpr c0
    simp only [s_Sheet_wholeOfBits_0, s_Sheet_wholeOfBits_1, s_Sheet_wholeOfBits_2, s_Sheet_wholeOfBits_3, s_Sheet_wholeOfBits_4, s_Sheet_wholeOfBits_5, s_Sheet_wholeOfBits_8, s_Sheet_wholeOfBits_9, s_Sheet_wholeOfBits_10, s_Sheet_wholeOfBits_11, s_Sheet_wholeOfBits_13, s_Sheet_wholeOfBits_14, s_Sheet_wholeOfBits_17, s_Sheet_wholeOfBits_18, s_Sheet_wholeOfBits_19, s_Sheet_wholeOfBits_22, s_Sheet_wholeOfBits_23, s_Sheet_wholeOfBits_24, s_Sheet_wholeOfBits_25, s_Sheet_wholeOfBits_28, s_Sheet_wholeOfBits_29, s_Sheet_wholeOfBits_31, s_Sheet_wholeOfBits_34, s_Sheet_wholeOfBits_37, s_Sheet_wholeOfBits_38, s_Sheet_wholeOfBits_41, s_Sheet_wholeOfBits_42, s_Sheet_wholeOfBits_43, s_Sheet_wholeOfBits_44, s_Sheet_wholeOfBits_45, s_Sheet_wholeOfBits_46, s_Sheet_wholeOfBits_47, s_Sheet_wholeOfBits_48, s_Sheet_wholeOfBits_49, s_Sheet_wholeOfBits_51, s_Sheet_wholeOfBits_53, s_Sheet_wholeOfBits_54, s_Sheet_wholeOfBits_55, s_Sheet_wholeOfBits_57, s_Sheet_wholeOfBits_59, s_Sheet_wholeOfBits_60, s_Sheet_wholeOfBits_62, s_Sheet_wholeOfBits_63, s_Sheet_wholeOfBits_64, s_Sheet_wholeOfBits_65, s_Sheet_wholeOfBits_66, s_Sheet_wholeOfBits_68, s_Sheet_wholeOfBits_70, s_Sheet_wholeOfBits_71, s_Sheet_wholeOfBits_72, s_Sheet_wholeOfBits_75, s_Sheet_wholeOfBits_78, s_Sheet_wholeOfBits_79, s_Sheet_wholeOfBits_81, s_Sheet_wholeOfBits_83, s_Sheet_wholeOfBits_84, s_Sheet_wholeOfBits_85, s_Sheet_wholeOfBits_87, s_Sheet_wholeOfBits_88, s_Sheet_wholeOfBits_89, s_Sheet_wholeOfBits_90, s_Sheet_wholeOfBits_93, s_Sheet_wholeOfBits_95, s_Sheet_wholeOfBits_96, s_Sheet_wholeOfBits_99, s_Sheet_wholeOfBits_101, j_Sheet_wholeOfBits_10, j_Sheet_wholeOfBits_34, j_Sheet_wholeOfBits_38, j_Sheet_wholeOfBits_79, j_Sheet_wholeOfBits_99, j_Sheet_wholeOfBits_101, eg_t1_0, eg_t1_i, eg_t1_a, eg_t1_n, eg_t1_l, eg_t1_d, eg_t1_s, eg_t2_0, eg_t2_i, eg_t2_a, eg_t2_n, eg_t2_l, eg_t2_d, eg_t2_s, Option.toList_some, Option.toList_none, List.cons_append, List.nil_append, List.length_nil, List.length_cons, Nat.zero_le, true_and, and_true, true_implies, false_implies, implies_true, not_true_eq_false, not_false_eq_true, eg_bi_0, eg_bi_1, Decidable.not_or_self, Decidable.or_not_self, lg_cmp_ge, lg_cmp_le, lg_cmp_gt, lg_cmp_lt, lg_cmp_eq, or_true, true_or, eg_01, Nat.reduceAdd, Nat.reduceLeDiff, Nat.reduceMul, Nat.reduceEqDiff, rd_I, rd_I2, rd_L1, rd_L, rd_L2, rd_D1, rd_D2, rd_D, false_and, and_false, and_self, ↓reduceIte, if_true, if_false, eq_self, s1, g0]
    exact hQ
  have g0 : ¬ v <<< (1 : Int64) = 0 := fun q => c0 ((wb_sl v).mp q)
  rw [if_neg (fun q => c0 (cz.mp q))] at hQ
  clear cz
  have ee := wb_exp v
  have hb : v.toUInt64.toNat / 4503599627370496 % 2048 < 2048 := Nat.mod_lt _ (by decide)
  have hd := wb_dig v
  have hD : v.toUInt64.toNat % 4503599627370496 + 4503599627370496 < 9007199254740992 := by omega
  have hN := wb_neg v
  generalize v.toUInt64.toNat / 4503599627370496 % 2048 = E at *
  generalize hDD : v.toUInt64.toNat % 4503599627370496 + 4503599627370496 = D at *
  by_cases c1 : E < 1023 ∨ 1031 < E
  · rw [if_pos c1] at hQ
    rcases c1 with c1 | c1
    · have g1 : nI E - 1023 < 0 := by
        have : nI E - 1023 = Int32.ofInt ((E : Int) - 1023) := by
          rw [Int32.ofInt_sub, Int32.ofInt_eq_ofNat, nI]
          congr 1
        rw [Int32.lt_iff_toInt_lt, this, i32_T (by omega)]
        show _ < (0 : Int)
        omega
      simp only [s_Sheet_wholeOfBits_0, s_Sheet_wholeOfBits_1, s_Sheet_wholeOfBits_2, s_Sheet_wholeOfBits_3, s_Sheet_wholeOfBits_4, s_Sheet_wholeOfBits_5, s_Sheet_wholeOfBits_8, s_Sheet_wholeOfBits_9, s_Sheet_wholeOfBits_10, s_Sheet_wholeOfBits_11, s_Sheet_wholeOfBits_13, s_Sheet_wholeOfBits_14, s_Sheet_wholeOfBits_17, s_Sheet_wholeOfBits_18, s_Sheet_wholeOfBits_19, s_Sheet_wholeOfBits_22, s_Sheet_wholeOfBits_23, s_Sheet_wholeOfBits_24, s_Sheet_wholeOfBits_25, s_Sheet_wholeOfBits_28, s_Sheet_wholeOfBits_29, s_Sheet_wholeOfBits_31, s_Sheet_wholeOfBits_34, s_Sheet_wholeOfBits_37, s_Sheet_wholeOfBits_38, s_Sheet_wholeOfBits_41, s_Sheet_wholeOfBits_42, s_Sheet_wholeOfBits_43, s_Sheet_wholeOfBits_44, s_Sheet_wholeOfBits_45, s_Sheet_wholeOfBits_46, s_Sheet_wholeOfBits_47, s_Sheet_wholeOfBits_48, s_Sheet_wholeOfBits_49, s_Sheet_wholeOfBits_51, s_Sheet_wholeOfBits_53, s_Sheet_wholeOfBits_54, s_Sheet_wholeOfBits_55, s_Sheet_wholeOfBits_57, s_Sheet_wholeOfBits_59, s_Sheet_wholeOfBits_60, s_Sheet_wholeOfBits_62, s_Sheet_wholeOfBits_63, s_Sheet_wholeOfBits_64, s_Sheet_wholeOfBits_65, s_Sheet_wholeOfBits_66, s_Sheet_wholeOfBits_68, s_Sheet_wholeOfBits_70, s_Sheet_wholeOfBits_71, s_Sheet_wholeOfBits_72, s_Sheet_wholeOfBits_75, s_Sheet_wholeOfBits_78, s_Sheet_wholeOfBits_79, s_Sheet_wholeOfBits_81, s_Sheet_wholeOfBits_83, s_Sheet_wholeOfBits_84, s_Sheet_wholeOfBits_85, s_Sheet_wholeOfBits_87, s_Sheet_wholeOfBits_88, s_Sheet_wholeOfBits_89, s_Sheet_wholeOfBits_90, s_Sheet_wholeOfBits_93, s_Sheet_wholeOfBits_95, s_Sheet_wholeOfBits_96, s_Sheet_wholeOfBits_99, s_Sheet_wholeOfBits_101, j_Sheet_wholeOfBits_10, j_Sheet_wholeOfBits_34, j_Sheet_wholeOfBits_38, j_Sheet_wholeOfBits_79, j_Sheet_wholeOfBits_99, j_Sheet_wholeOfBits_101, eg_t1_0, eg_t1_i, eg_t1_a, eg_t1_n, eg_t1_l, eg_t1_d, eg_t1_s, eg_t2_0, eg_t2_i, eg_t2_a, eg_t2_n, eg_t2_l, eg_t2_d, eg_t2_s, Option.toList_some, Option.toList_none, List.cons_append, List.nil_append, List.length_nil, List.length_cons, Nat.zero_le, true_and, and_true, true_implies, false_implies, implies_true, not_true_eq_false, not_false_eq_true, eg_bi_0, eg_bi_1, Decidable.not_or_self, Decidable.or_not_self, lg_cmp_ge, lg_cmp_le, lg_cmp_gt, lg_cmp_lt, lg_cmp_eq, or_true, true_or, eg_01, Nat.reduceAdd, Nat.reduceLeDiff, Nat.reduceMul, Nat.reduceEqDiff, rd_I, rd_I2, rd_L1, rd_L, rd_L2, rd_D1, rd_D2, rd_D, false_and, and_false, and_self, ↓reduceIte, if_true, if_false, eq_self, s1, i52, g0, ee, g1, Int32.not_le.mpr g1]
      exact hQ
    · have te : (nI E - 1023).toInt = (E : Int) - 1023 := by
        have : nI E - 1023 = Int32.ofInt ((E : Int) - 1023) := by
          rw [Int32.ofInt_sub, Int32.ofInt_eq_ofNat, nI]
          congr 1
        rw [this, i32_T (by omega)]
      have g1 : ¬ nI E - 1023 < 0 := by
        rw [Int32.lt_iff_toInt_lt, te]
        show ¬ _ < (0 : Int)
        omega
      have g2 : ¬ nI E - 1023 ≤ 8 := by
        rw [Int32.le_iff_toInt_le, te]
        show ¬ _ ≤ (8 : Int)
        omega
      simp only [s_Sheet_wholeOfBits_0, s_Sheet_wholeOfBits_1, s_Sheet_wholeOfBits_2, s_Sheet_wholeOfBits_3, s_Sheet_wholeOfBits_4, s_Sheet_wholeOfBits_5, s_Sheet_wholeOfBits_8, s_Sheet_wholeOfBits_9, s_Sheet_wholeOfBits_10, s_Sheet_wholeOfBits_11, s_Sheet_wholeOfBits_13, s_Sheet_wholeOfBits_14, s_Sheet_wholeOfBits_17, s_Sheet_wholeOfBits_18, s_Sheet_wholeOfBits_19, s_Sheet_wholeOfBits_22, s_Sheet_wholeOfBits_23, s_Sheet_wholeOfBits_24, s_Sheet_wholeOfBits_25, s_Sheet_wholeOfBits_28, s_Sheet_wholeOfBits_29, s_Sheet_wholeOfBits_31, s_Sheet_wholeOfBits_34, s_Sheet_wholeOfBits_37, s_Sheet_wholeOfBits_38, s_Sheet_wholeOfBits_41, s_Sheet_wholeOfBits_42, s_Sheet_wholeOfBits_43, s_Sheet_wholeOfBits_44, s_Sheet_wholeOfBits_45, s_Sheet_wholeOfBits_46, s_Sheet_wholeOfBits_47, s_Sheet_wholeOfBits_48, s_Sheet_wholeOfBits_49, s_Sheet_wholeOfBits_51, s_Sheet_wholeOfBits_53, s_Sheet_wholeOfBits_54, s_Sheet_wholeOfBits_55, s_Sheet_wholeOfBits_57, s_Sheet_wholeOfBits_59, s_Sheet_wholeOfBits_60, s_Sheet_wholeOfBits_62, s_Sheet_wholeOfBits_63, s_Sheet_wholeOfBits_64, s_Sheet_wholeOfBits_65, s_Sheet_wholeOfBits_66, s_Sheet_wholeOfBits_68, s_Sheet_wholeOfBits_70, s_Sheet_wholeOfBits_71, s_Sheet_wholeOfBits_72, s_Sheet_wholeOfBits_75, s_Sheet_wholeOfBits_78, s_Sheet_wholeOfBits_79, s_Sheet_wholeOfBits_81, s_Sheet_wholeOfBits_83, s_Sheet_wholeOfBits_84, s_Sheet_wholeOfBits_85, s_Sheet_wholeOfBits_87, s_Sheet_wholeOfBits_88, s_Sheet_wholeOfBits_89, s_Sheet_wholeOfBits_90, s_Sheet_wholeOfBits_93, s_Sheet_wholeOfBits_95, s_Sheet_wholeOfBits_96, s_Sheet_wholeOfBits_99, s_Sheet_wholeOfBits_101, j_Sheet_wholeOfBits_10, j_Sheet_wholeOfBits_34, j_Sheet_wholeOfBits_38, j_Sheet_wholeOfBits_79, j_Sheet_wholeOfBits_99, j_Sheet_wholeOfBits_101, eg_t1_0, eg_t1_i, eg_t1_a, eg_t1_n, eg_t1_l, eg_t1_d, eg_t1_s, eg_t2_0, eg_t2_i, eg_t2_a, eg_t2_n, eg_t2_l, eg_t2_d, eg_t2_s, Option.toList_some, Option.toList_none, List.cons_append, List.nil_append, List.length_nil, List.length_cons, Nat.zero_le, true_and, and_true, true_implies, false_implies, implies_true, not_true_eq_false, not_false_eq_true, eg_bi_0, eg_bi_1, Decidable.not_or_self, Decidable.or_not_self, lg_cmp_ge, lg_cmp_le, lg_cmp_gt, lg_cmp_lt, lg_cmp_eq, or_true, true_or, eg_01, Nat.reduceAdd, Nat.reduceLeDiff, Nat.reduceMul, Nat.reduceEqDiff, rd_I, rd_I2, rd_L1, rd_L, rd_L2, rd_D1, rd_D2, rd_D, false_and, and_false, and_self, ↓reduceIte, if_true, if_false, eq_self, s1, i52, g0, ee, g1, Int32.not_lt.mp g1, g2, Int32.not_le.mp g2]
      exact hQ
  rw [if_neg c1] at hQ
  obtain ⟨k, w, y, m, k1, k2, k3, k4, k5, k6, k7, k8, k9, k10⟩ := wb_case (E := E) (by omega) (by omega)
  have o1 : (4503599627370496 : Int64) - 1 = 4503599627370495 := by decide
  rw [k3] at hQ
  have bh := wb_beh (D := D) (k := k) (by omega) (by omega) m k9
  have p1 : (2 : Nat) ^ 44 ≤ 2 ^ k := Nat.pow_le_pow_right (by decide) (by omega)
  have sm : D / 2 ^ k < 1000 := by
    rw [Nat.div_lt_iff_lt_mul (Nat.two_pow_pos k)]
    have : (2 : Nat) ^ 44 = 17592186044416 := by decide
    omega
  have sr := wb_sr (D := D) (k := k) (by omega) y k10 (by omega) sm
  by_cases c2 : D % 2 ^ k = 0
  · rw [if_pos c2] at hQ
    have g2 := bh.mpr c2
    by_cases c3 : v.toUInt64.toNat / 9223372036854775808 = 0
    · rw [if_pos c3] at hQ
      have g3 : ¬ v < 0 := fun q => hN.mp q c3
      have g4 : 0 ≤ v := Int64.not_lt.mp g3
      simp only [s_Sheet_wholeOfBits_0, s_Sheet_wholeOfBits_1, s_Sheet_wholeOfBits_2, s_Sheet_wholeOfBits_3, s_Sheet_wholeOfBits_4, s_Sheet_wholeOfBits_5, s_Sheet_wholeOfBits_8, s_Sheet_wholeOfBits_9, s_Sheet_wholeOfBits_10, s_Sheet_wholeOfBits_11, s_Sheet_wholeOfBits_13, s_Sheet_wholeOfBits_14, s_Sheet_wholeOfBits_17, s_Sheet_wholeOfBits_18, s_Sheet_wholeOfBits_19, s_Sheet_wholeOfBits_22, s_Sheet_wholeOfBits_23, s_Sheet_wholeOfBits_24, s_Sheet_wholeOfBits_25, s_Sheet_wholeOfBits_28, s_Sheet_wholeOfBits_29, s_Sheet_wholeOfBits_31, s_Sheet_wholeOfBits_34, s_Sheet_wholeOfBits_37, s_Sheet_wholeOfBits_38, s_Sheet_wholeOfBits_41, s_Sheet_wholeOfBits_42, s_Sheet_wholeOfBits_43, s_Sheet_wholeOfBits_44, s_Sheet_wholeOfBits_45, s_Sheet_wholeOfBits_46, s_Sheet_wholeOfBits_47, s_Sheet_wholeOfBits_48, s_Sheet_wholeOfBits_49, s_Sheet_wholeOfBits_51, s_Sheet_wholeOfBits_53, s_Sheet_wholeOfBits_54, s_Sheet_wholeOfBits_55, s_Sheet_wholeOfBits_57, s_Sheet_wholeOfBits_59, s_Sheet_wholeOfBits_60, s_Sheet_wholeOfBits_62, s_Sheet_wholeOfBits_63, s_Sheet_wholeOfBits_64, s_Sheet_wholeOfBits_65, s_Sheet_wholeOfBits_66, s_Sheet_wholeOfBits_68, s_Sheet_wholeOfBits_70, s_Sheet_wholeOfBits_71, s_Sheet_wholeOfBits_72, s_Sheet_wholeOfBits_75, s_Sheet_wholeOfBits_78, s_Sheet_wholeOfBits_79, s_Sheet_wholeOfBits_81, s_Sheet_wholeOfBits_83, s_Sheet_wholeOfBits_84, s_Sheet_wholeOfBits_85, s_Sheet_wholeOfBits_87, s_Sheet_wholeOfBits_88, s_Sheet_wholeOfBits_89, s_Sheet_wholeOfBits_90, s_Sheet_wholeOfBits_93, s_Sheet_wholeOfBits_95, s_Sheet_wholeOfBits_96, s_Sheet_wholeOfBits_99, s_Sheet_wholeOfBits_101, j_Sheet_wholeOfBits_10, j_Sheet_wholeOfBits_34, j_Sheet_wholeOfBits_38, j_Sheet_wholeOfBits_79, j_Sheet_wholeOfBits_99, j_Sheet_wholeOfBits_101, eg_t1_0, eg_t1_i, eg_t1_a, eg_t1_n, eg_t1_l, eg_t1_d, eg_t1_s, eg_t2_0, eg_t2_i, eg_t2_a, eg_t2_n, eg_t2_l, eg_t2_d, eg_t2_s, Option.toList_some, Option.toList_none, List.cons_append, List.nil_append, List.length_nil, List.length_cons, Nat.zero_le, true_and, and_true, true_implies, false_implies, implies_true, not_true_eq_false, not_false_eq_true, eg_bi_0, eg_bi_1, Decidable.not_or_self, Decidable.or_not_self, lg_cmp_ge, lg_cmp_le, lg_cmp_gt, lg_cmp_lt, lg_cmp_eq, or_true, true_or, eg_01, Nat.reduceAdd, Nat.reduceLeDiff, Nat.reduceMul, Nat.reduceEqDiff, rd_I, rd_I2, rd_L1, rd_L, rd_L2, rd_D1, rd_D2, rd_D, false_and, and_false, and_self, ↓reduceIte, if_true, if_false, eq_self, s1, i52, g0, ee, k5, Int32.not_lt.mp k5, k6, Int32.not_lt.mpr k6, o1, hd, k4, k7, k8, g2, sr, g3, Int64.not_lt.mp g3, g4, Int64.not_lt.mpr g4]
      exact hQ
    · rw [if_neg c3] at hQ
      have g3 : v < 0 := hN.mpr c3
      have g4 : ¬ 0 ≤ v := fun q => Int64.not_lt.mpr q g3
      simp only [s_Sheet_wholeOfBits_0, s_Sheet_wholeOfBits_1, s_Sheet_wholeOfBits_2, s_Sheet_wholeOfBits_3, s_Sheet_wholeOfBits_4, s_Sheet_wholeOfBits_5, s_Sheet_wholeOfBits_8, s_Sheet_wholeOfBits_9, s_Sheet_wholeOfBits_10, s_Sheet_wholeOfBits_11, s_Sheet_wholeOfBits_13, s_Sheet_wholeOfBits_14, s_Sheet_wholeOfBits_17, s_Sheet_wholeOfBits_18, s_Sheet_wholeOfBits_19, s_Sheet_wholeOfBits_22, s_Sheet_wholeOfBits_23, s_Sheet_wholeOfBits_24, s_Sheet_wholeOfBits_25, s_Sheet_wholeOfBits_28, s_Sheet_wholeOfBits_29, s_Sheet_wholeOfBits_31, s_Sheet_wholeOfBits_34, s_Sheet_wholeOfBits_37, s_Sheet_wholeOfBits_38, s_Sheet_wholeOfBits_41, s_Sheet_wholeOfBits_42, s_Sheet_wholeOfBits_43, s_Sheet_wholeOfBits_44, s_Sheet_wholeOfBits_45, s_Sheet_wholeOfBits_46, s_Sheet_wholeOfBits_47, s_Sheet_wholeOfBits_48, s_Sheet_wholeOfBits_49, s_Sheet_wholeOfBits_51, s_Sheet_wholeOfBits_53, s_Sheet_wholeOfBits_54, s_Sheet_wholeOfBits_55, s_Sheet_wholeOfBits_57, s_Sheet_wholeOfBits_59, s_Sheet_wholeOfBits_60, s_Sheet_wholeOfBits_62, s_Sheet_wholeOfBits_63, s_Sheet_wholeOfBits_64, s_Sheet_wholeOfBits_65, s_Sheet_wholeOfBits_66, s_Sheet_wholeOfBits_68, s_Sheet_wholeOfBits_70, s_Sheet_wholeOfBits_71, s_Sheet_wholeOfBits_72, s_Sheet_wholeOfBits_75, s_Sheet_wholeOfBits_78, s_Sheet_wholeOfBits_79, s_Sheet_wholeOfBits_81, s_Sheet_wholeOfBits_83, s_Sheet_wholeOfBits_84, s_Sheet_wholeOfBits_85, s_Sheet_wholeOfBits_87, s_Sheet_wholeOfBits_88, s_Sheet_wholeOfBits_89, s_Sheet_wholeOfBits_90, s_Sheet_wholeOfBits_93, s_Sheet_wholeOfBits_95, s_Sheet_wholeOfBits_96, s_Sheet_wholeOfBits_99, s_Sheet_wholeOfBits_101, j_Sheet_wholeOfBits_10, j_Sheet_wholeOfBits_34, j_Sheet_wholeOfBits_38, j_Sheet_wholeOfBits_79, j_Sheet_wholeOfBits_99, j_Sheet_wholeOfBits_101, eg_t1_0, eg_t1_i, eg_t1_a, eg_t1_n, eg_t1_l, eg_t1_d, eg_t1_s, eg_t2_0, eg_t2_i, eg_t2_a, eg_t2_n, eg_t2_l, eg_t2_d, eg_t2_s, Option.toList_some, Option.toList_none, List.cons_append, List.nil_append, List.length_nil, List.length_cons, Nat.zero_le, true_and, and_true, true_implies, false_implies, implies_true, not_true_eq_false, not_false_eq_true, eg_bi_0, eg_bi_1, Decidable.not_or_self, Decidable.or_not_self, lg_cmp_ge, lg_cmp_le, lg_cmp_gt, lg_cmp_lt, lg_cmp_eq, or_true, true_or, eg_01, Nat.reduceAdd, Nat.reduceLeDiff, Nat.reduceMul, Nat.reduceEqDiff, rd_I, rd_I2, rd_L1, rd_L, rd_L2, rd_D1, rd_D2, rd_D, false_and, and_false, and_self, ↓reduceIte, if_true, if_false, eq_self, s1, i52, g0, ee, k5, Int32.not_lt.mp k5, k6, Int32.not_lt.mpr k6, o1, hd, k4, k7, k8, g2, sr, g3, Int64.not_le.mpr g3, g4, Int64.not_le.mp g4]
      exact hQ
  · rw [if_neg c2] at hQ
    have g2 : ¬ lN D &&& m = 0 := fun q => c2 (bh.mp q)
    simp only [s_Sheet_wholeOfBits_0, s_Sheet_wholeOfBits_1, s_Sheet_wholeOfBits_2, s_Sheet_wholeOfBits_3, s_Sheet_wholeOfBits_4, s_Sheet_wholeOfBits_5, s_Sheet_wholeOfBits_8, s_Sheet_wholeOfBits_9, s_Sheet_wholeOfBits_10, s_Sheet_wholeOfBits_11, s_Sheet_wholeOfBits_13, s_Sheet_wholeOfBits_14, s_Sheet_wholeOfBits_17, s_Sheet_wholeOfBits_18, s_Sheet_wholeOfBits_19, s_Sheet_wholeOfBits_22, s_Sheet_wholeOfBits_23, s_Sheet_wholeOfBits_24, s_Sheet_wholeOfBits_25, s_Sheet_wholeOfBits_28, s_Sheet_wholeOfBits_29, s_Sheet_wholeOfBits_31, s_Sheet_wholeOfBits_34, s_Sheet_wholeOfBits_37, s_Sheet_wholeOfBits_38, s_Sheet_wholeOfBits_41, s_Sheet_wholeOfBits_42, s_Sheet_wholeOfBits_43, s_Sheet_wholeOfBits_44, s_Sheet_wholeOfBits_45, s_Sheet_wholeOfBits_46, s_Sheet_wholeOfBits_47, s_Sheet_wholeOfBits_48, s_Sheet_wholeOfBits_49, s_Sheet_wholeOfBits_51, s_Sheet_wholeOfBits_53, s_Sheet_wholeOfBits_54, s_Sheet_wholeOfBits_55, s_Sheet_wholeOfBits_57, s_Sheet_wholeOfBits_59, s_Sheet_wholeOfBits_60, s_Sheet_wholeOfBits_62, s_Sheet_wholeOfBits_63, s_Sheet_wholeOfBits_64, s_Sheet_wholeOfBits_65, s_Sheet_wholeOfBits_66, s_Sheet_wholeOfBits_68, s_Sheet_wholeOfBits_70, s_Sheet_wholeOfBits_71, s_Sheet_wholeOfBits_72, s_Sheet_wholeOfBits_75, s_Sheet_wholeOfBits_78, s_Sheet_wholeOfBits_79, s_Sheet_wholeOfBits_81, s_Sheet_wholeOfBits_83, s_Sheet_wholeOfBits_84, s_Sheet_wholeOfBits_85, s_Sheet_wholeOfBits_87, s_Sheet_wholeOfBits_88, s_Sheet_wholeOfBits_89, s_Sheet_wholeOfBits_90, s_Sheet_wholeOfBits_93, s_Sheet_wholeOfBits_95, s_Sheet_wholeOfBits_96, s_Sheet_wholeOfBits_99, s_Sheet_wholeOfBits_101, j_Sheet_wholeOfBits_10, j_Sheet_wholeOfBits_34, j_Sheet_wholeOfBits_38, j_Sheet_wholeOfBits_79, j_Sheet_wholeOfBits_99, j_Sheet_wholeOfBits_101, eg_t1_0, eg_t1_i, eg_t1_a, eg_t1_n, eg_t1_l, eg_t1_d, eg_t1_s, eg_t2_0, eg_t2_i, eg_t2_a, eg_t2_n, eg_t2_l, eg_t2_d, eg_t2_s, Option.toList_some, Option.toList_none, List.cons_append, List.nil_append, List.length_nil, List.length_cons, Nat.zero_le, true_and, and_true, true_implies, false_implies, implies_true, not_true_eq_false, not_false_eq_true, eg_bi_0, eg_bi_1, Decidable.not_or_self, Decidable.or_not_self, lg_cmp_ge, lg_cmp_le, lg_cmp_gt, lg_cmp_lt, lg_cmp_eq, or_true, true_or, eg_01, Nat.reduceAdd, Nat.reduceLeDiff, Nat.reduceMul, Nat.reduceEqDiff, rd_I, rd_I2, rd_L1, rd_L, rd_L2, rd_D1, rd_D2, rd_D, false_and, and_false, and_self, ↓reduceIte, if_true, if_false, eq_self, s1, i52, g0, ee, k5, Int32.not_lt.mp k5, k6, Int32.not_lt.mpr k6, o1, hd, k4, k7, k8, g2]
    exact hQ
end Wob
