/-! GATHERING; the greatest and the least; candidates -/
theorem cnt_s0 {g : Nat → Int32} {i : Nat} (h : g i = 0) : cnt g (i + 1) = cnt g i + 1 := by rw [cnt, if_pos h]
theorem cnt_s1 {g : Nat → Int32} {i : Nat} (h : ¬ g i = 0) : cnt g (i + 1) = cnt g i := by rw [cnt, if_neg h]; rfl
theorem cnt_mono {g : Nat → Int32} {i : Nat} : ∀ d, cnt g i ≤ cnt g (i + d) := by
  intro d
  induction d with
  | zero => exact Nat.le_refl _
  | succ d ih =>
    show cnt g i ≤ cnt g (i + d + 1)
    rw [cnt]
    split <;> omega
theorem cnt_lt {g : Nat → Int32} {i j : Nat} (h : g i = 0) (hij : i < j) : cnt g i < cnt g j := by
  have e := cnt_s0 h
  have m := cnt_mono (g := g) (i := i + 1) (j - (i + 1))
  have : i + 1 + (j - (i + 1)) = j := by omega
  rw [this] at m
  omega
theorem cnt_ex {g : Nat → Int32} : ∀ n a, a < cnt g n → ∃ i, i < n ∧ g i = 0 ∧ cnt g i = a := by
  intro n
  induction n with
  | zero => intro a ha; exact absurd ha (Nat.not_lt_zero _)
  | succ n ih =>
    intro a ha
    by_cases c : g n = 0
    · rw [cnt_s0 c] at ha
      by_cases e : a = cnt g n
      · exact ⟨n, by omega, c, e.symm⟩
      · obtain ⟨i, h1, h2, h3⟩ := ih a (by omega)
        exact ⟨i, by omega, h2, h3⟩
    · rw [cnt_s1 c] at ha
      obtain ⟨i, h1, h2, h3⟩ := ih a ha
      exact ⟨i, by omega, h2, h3⟩
/-- what gather leaves, i points of the part gone over -/
def Gt (S S' : eg_S) (q k i : Nat) : Prop := (∀ f j, (f < 6 ∨ 10 < f) → S'.1 f j = S.1 f j) ∧ S'.2 = S.2 ∧ S'.1 10 q 0 = nI (cnt (S.1 25 k) i) ∧ ∀ j, j < i → S.1 25 k j = 0 → S'.1 6 q (cnt (S.1 25 k) j) = S.1 22 k j ∧ S'.1 7 q (cnt (S.1 25 k) j) = S.1 23 k j ∧ S'.1 8 q (cnt (S.1 25 k) j) = S.1 24 k j ∧ S'.1 9 q (cnt (S.1 25 k) j) = nI j
def xGa (S' : eg_S) (q a : Nat) (x y z i : Int32) : eg_S := sI (sI (sI (sI (sI S' 6 q (upd (S'.1 6 q) a x)) 7 q (upd (S'.1 7 q) a y)) 8 q (upd (S'.1 8 q) a z)) 9 q (upd (S'.1 9 q) a i)) 10 q (fun _ => nI (a + 1))
theorem Gt_s {S S' : eg_S} {q k i : Nat} (h : Gt S S' q k i) (hm : S.1 25 k i = 0) : Gt S (xGa S' q (cnt (S.1 25 k) i) (S.1 22 k i) (S.1 23 k i) (S.1 24 k i) (nI i)) q k (i + 1) := by
  obtain ⟨h1, h2, h3, h4⟩ := h
  refine ⟨fun f j hf => ?_, h2, ?_, fun j hj mj => ?_⟩
  · rw [← h1 f j hf]
    simp only [xGa, rd_I]
    rw [if_neg (by omega), if_neg (by omega), if_neg (by omega), if_neg (by omega), if_neg (by omega)]
  · rw [cnt_s0 hm]
    simp [xGa, rd_I]
  · by_cases e : j = i
    · subst e
      simp [xGa, rd_I, upd]
    · have hl : cnt (S.1 25 k) j < cnt (S.1 25 k) i := cnt_lt mj (by omega)
      have hne : ¬ cnt (S.1 25 k) j = cnt (S.1 25 k) i := by omega
      have := h4 j (by omega) mj
      simp only [xGa, rd_I, upd]
      simp [upd, hne, this]
theorem Gt_m {S S' : eg_S} {q k i : Nat} (h : Gt S S' q k i) (hm : ¬ S.1 25 k i = 0) : Gt S S' q k (i + 1) := by
  obtain ⟨h1, h2, h3, h4⟩ := h
  refine ⟨h1, h2, ?_, fun j hj mj => ?_⟩
  · rw [cnt_s1 hm]
    exact h3
  · by_cases e : j = i
    · subst e
      exact absurd mj hm
    · exact h4 j (by omega) mj
section Gather
variable {Q : Option Value → List eg_E → Prop} {h t : List eg_E} {S T : eg_S} {n0 : Nat}
theorem lp_gather0 {k n : Nat} (hk : k < 4) (hn : n ≤ 16) (hc : S.1 26 k 0 = nI n) (hQ : ∀ S', Gt S S' 0 k n → Q none (WX S' t)) : ∀ (m i : Nat) (S' : eg_S), i + m = n → Gt S S' 0 k i → eg_R m_Tou_gather Q n0 7 0 0 [some (.ref 9), some (.ref (31 + 5 * k + 1)), some (.int (nI i))] [] (WX S' t) := by
  intro m
  induction m with
  | zero =>
    intro i S' hi hG
    have : i = n := by omega
    subst this
    refine x_Tou_gather_7 ?_
    have e1 := hG.1 26 k (by decide)
    simp only [s_Tou_gather_0, s_Tou_gather_1, s_Tou_gather_2, s_Tou_gather_5, s_Tou_gather_6, s_Tou_gather_7, s_Tou_gather_8, s_Tou_gather_9, s_Tou_gather_12, s_Tou_gather_15, s_Tou_gather_16, s_Tou_gather_19, s_Tou_gather_20, s_Tou_gather_21, s_Tou_gather_24, s_Tou_gather_25, s_Tou_gather_28, s_Tou_gather_29, s_Tou_gather_32, s_Tou_gather_33, s_Tou_gather_36, s_Tou_gather_37, s_Tou_gather_38, s_Tou_gather_39, s_Tou_gather_40, s_Tou_gather_43, s_Tou_gather_44, s_Tou_gather_47, s_Tou_gather_48, s_Tou_gather_51, s_Tou_gather_52, s_Tou_gather_53, s_Tou_gather_54, s_Tou_gather_55, s_Tou_gather_58, s_Tou_gather_59, s_Tou_gather_62, s_Tou_gather_63, s_Tou_gather_66, s_Tou_gather_67, s_Tou_gather_68, s_Tou_gather_69, s_Tou_gather_70, s_Tou_gather_73, s_Tou_gather_74, s_Tou_gather_77, s_Tou_gather_78, s_Tou_gather_79, s_Tou_gather_80, s_Tou_gather_81, s_Tou_gather_84, s_Tou_gather_85, s_Tou_gather_86, s_Tou_gather_89, s_Tou_gather_92, s_Tou_gather_95, sz_Tou_gather_7, j_Tou_gather_89, j_Tou_gather_95, j_Tou_gather_7, k0_Tou, g0_Tou_x, r0_Tou_x, t0_Tou_x, l0_Tou_x, g0_Tou_y, r0_Tou_y, t0_Tou_y, l0_Tou_y, g0_Tou_z, r0_Tou_z, t0_Tou_z, l0_Tou_z, g0_Tou_number, r0_Tou_number, t0_Tou_number, l0_Tou_number, g0_Tou_count, f0_Tou_count, (k_Part hk), (g_Part_x hk), (r_Part_x hk), (t_Part_x hk), (l_Part_x hk), (g_Part_y hk), (r_Part_y hk), (t_Part_y hk), (l_Part_y hk), (g_Part_z hk), (r_Part_z hk), (t_Part_z hk), (l_Part_z hk), (g_Part_missed hk), (r_Part_missed hk), (t_Part_missed hk), (l_Part_missed hk), (g_Part_count hk), (f_Part_count hk), eg_t1_0, eg_t1_i, eg_t1_a, eg_t1_n, eg_t1_l, eg_t1_d, eg_t1_s, eg_t2_0, eg_t2_i, eg_t2_a, eg_t2_n, eg_t2_l, eg_t2_d, eg_t2_s, Option.toList_some, Option.toList_none, List.cons_append, List.nil_append, List.length_nil, List.length_cons, Nat.zero_le, true_and, and_true, true_implies, false_implies, implies_true, not_true_eq_false, not_false_eq_true, eg_bi_0, eg_bi_1, Decidable.not_or_self, Decidable.or_not_self, lg_cmp_ge, lg_cmp_le, lg_cmp_gt, lg_cmp_lt, lg_cmp_eq, or_true, true_or, eg_01, Nat.reduceAdd, Nat.reduceLeDiff, Nat.reduceMul, Nat.reduceEqDiff, rd_I, rd_I2, rd_L1, rd_L, rd_L2, rd_D1, rd_D2, rd_D, false_and, and_false, and_self, ↓reduceIte, if_true, if_false, eq_self, e1, hc, Int32.le_refl]
    exact hQ S' hG
  | succ m ih =>
    intro i S' hi hG
    have hin : i < n := by omega
    refine x_Tou_gather_7 ?_
    have e1 := hG.1 26 k (by decide)
    have e2 := hG.1 25 k (by decide)
    have e3 := hG.1 22 k (by decide)
    have e4 := hG.1 23 k (by decide)
    have e5 := hG.1 24 k (by decide)
    have e6 := hG.2.2.1
    have c1 : ¬ nI n ≤ nI i := nI_ge (by omega) (by omega)
    have la := cnt_le (S.1 25 k) i
    have a1 : (nI (cnt (S.1 25 k) i)).toNatClampNeg = cnt (S.1 25 k) i := nI_clamp (by omega)
    have a2 : vp_in (nI (cnt (S.1 25 k) i)) 16 := vp_in_nI (by omega) (by decide)
    by_cases c : S.1 25 k i = 0
    · have h1 := ih (i + 1) _ (by omega) (Gt_s hG c)
      simp only [s_Tou_gather_0, s_Tou_gather_1, s_Tou_gather_2, s_Tou_gather_5, s_Tou_gather_6, s_Tou_gather_7, s_Tou_gather_8, s_Tou_gather_9, s_Tou_gather_12, s_Tou_gather_15, s_Tou_gather_16, s_Tou_gather_19, s_Tou_gather_20, s_Tou_gather_21, s_Tou_gather_24, s_Tou_gather_25, s_Tou_gather_28, s_Tou_gather_29, s_Tou_gather_32, s_Tou_gather_33, s_Tou_gather_36, s_Tou_gather_37, s_Tou_gather_38, s_Tou_gather_39, s_Tou_gather_40, s_Tou_gather_43, s_Tou_gather_44, s_Tou_gather_47, s_Tou_gather_48, s_Tou_gather_51, s_Tou_gather_52, s_Tou_gather_53, s_Tou_gather_54, s_Tou_gather_55, s_Tou_gather_58, s_Tou_gather_59, s_Tou_gather_62, s_Tou_gather_63, s_Tou_gather_66, s_Tou_gather_67, s_Tou_gather_68, s_Tou_gather_69, s_Tou_gather_70, s_Tou_gather_73, s_Tou_gather_74, s_Tou_gather_77, s_Tou_gather_78, s_Tou_gather_79, s_Tou_gather_80, s_Tou_gather_81, s_Tou_gather_84, s_Tou_gather_85, s_Tou_gather_86, s_Tou_gather_89, s_Tou_gather_92, s_Tou_gather_95, sz_Tou_gather_7, j_Tou_gather_89, j_Tou_gather_95, j_Tou_gather_7, k0_Tou, g0_Tou_x, r0_Tou_x, t0_Tou_x, l0_Tou_x, g0_Tou_y, r0_Tou_y, t0_Tou_y, l0_Tou_y, g0_Tou_z, r0_Tou_z, t0_Tou_z, l0_Tou_z, g0_Tou_number, r0_Tou_number, t0_Tou_number, l0_Tou_number, g0_Tou_count, f0_Tou_count, (k_Part hk), (g_Part_x hk), (r_Part_x hk), (t_Part_x hk), (l_Part_x hk), (g_Part_y hk), (r_Part_y hk), (t_Part_y hk), (l_Part_y hk), (g_Part_z hk), (r_Part_z hk), (t_Part_z hk), (l_Part_z hk), (g_Part_missed hk), (r_Part_missed hk), (t_Part_missed hk), (l_Part_missed hk), (g_Part_count hk), (f_Part_count hk), eg_t1_0, eg_t1_i, eg_t1_a, eg_t1_n, eg_t1_l, eg_t1_d, eg_t1_s, eg_t2_0, eg_t2_i, eg_t2_a, eg_t2_n, eg_t2_l, eg_t2_d, eg_t2_s, Option.toList_some, Option.toList_none, List.cons_append, List.nil_append, List.length_nil, List.length_cons, Nat.zero_le, true_and, and_true, true_implies, false_implies, implies_true, not_true_eq_false, not_false_eq_true, eg_bi_0, eg_bi_1, Decidable.not_or_self, Decidable.or_not_self, lg_cmp_ge, lg_cmp_le, lg_cmp_gt, lg_cmp_lt, lg_cmp_eq, or_true, true_or, eg_01, Nat.reduceAdd, Nat.reduceLeDiff, Nat.reduceMul, Nat.reduceEqDiff, rd_I, rd_I2, rd_L1, rd_L, rd_L2, rd_D1, rd_D2, rd_D, false_and, and_false, and_self, ↓reduceIte, if_true, if_false, eq_self, e1, e2, e3, e4, e5, e6, hc, c1, c, a1, a2, (kfj hn hin).1, (kfj hn hin).2.1, nI_1]
      exact h1
    · have h1 := ih (i + 1) _ (by omega) (Gt_m hG c)
      simp only [s_Tou_gather_0, s_Tou_gather_1, s_Tou_gather_2, s_Tou_gather_5, s_Tou_gather_6, s_Tou_gather_7, s_Tou_gather_8, s_Tou_gather_9, s_Tou_gather_12, s_Tou_gather_15, s_Tou_gather_16, s_Tou_gather_19, s_Tou_gather_20, s_Tou_gather_21, s_Tou_gather_24, s_Tou_gather_25, s_Tou_gather_28, s_Tou_gather_29, s_Tou_gather_32, s_Tou_gather_33, s_Tou_gather_36, s_Tou_gather_37, s_Tou_gather_38, s_Tou_gather_39, s_Tou_gather_40, s_Tou_gather_43, s_Tou_gather_44, s_Tou_gather_47, s_Tou_gather_48, s_Tou_gather_51, s_Tou_gather_52, s_Tou_gather_53, s_Tou_gather_54, s_Tou_gather_55, s_Tou_gather_58, s_Tou_gather_59, s_Tou_gather_62, s_Tou_gather_63, s_Tou_gather_66, s_Tou_gather_67, s_Tou_gather_68, s_Tou_gather_69, s_Tou_gather_70, s_Tou_gather_73, s_Tou_gather_74, s_Tou_gather_77, s_Tou_gather_78, s_Tou_gather_79, s_Tou_gather_80, s_Tou_gather_81, s_Tou_gather_84, s_Tou_gather_85, s_Tou_gather_86, s_Tou_gather_89, s_Tou_gather_92, s_Tou_gather_95, sz_Tou_gather_7, j_Tou_gather_89, j_Tou_gather_95, j_Tou_gather_7, k0_Tou, g0_Tou_x, r0_Tou_x, t0_Tou_x, l0_Tou_x, g0_Tou_y, r0_Tou_y, t0_Tou_y, l0_Tou_y, g0_Tou_z, r0_Tou_z, t0_Tou_z, l0_Tou_z, g0_Tou_number, r0_Tou_number, t0_Tou_number, l0_Tou_number, g0_Tou_count, f0_Tou_count, (k_Part hk), (g_Part_x hk), (r_Part_x hk), (t_Part_x hk), (l_Part_x hk), (g_Part_y hk), (r_Part_y hk), (t_Part_y hk), (l_Part_y hk), (g_Part_z hk), (r_Part_z hk), (t_Part_z hk), (l_Part_z hk), (g_Part_missed hk), (r_Part_missed hk), (t_Part_missed hk), (l_Part_missed hk), (g_Part_count hk), (f_Part_count hk), eg_t1_0, eg_t1_i, eg_t1_a, eg_t1_n, eg_t1_l, eg_t1_d, eg_t1_s, eg_t2_0, eg_t2_i, eg_t2_a, eg_t2_n, eg_t2_l, eg_t2_d, eg_t2_s, Option.toList_some, Option.toList_none, List.cons_append, List.nil_append, List.length_nil, List.length_cons, Nat.zero_le, true_and, and_true, true_implies, false_implies, implies_true, not_true_eq_false, not_false_eq_true, eg_bi_0, eg_bi_1, Decidable.not_or_self, Decidable.or_not_self, lg_cmp_ge, lg_cmp_le, lg_cmp_gt, lg_cmp_lt, lg_cmp_eq, or_true, true_or, eg_01, Nat.reduceAdd, Nat.reduceLeDiff, Nat.reduceMul, Nat.reduceEqDiff, rd_I, rd_I2, rd_L1, rd_L, rd_L2, rd_D1, rd_D2, rd_D, false_and, and_false, and_self, ↓reduceIte, if_true, if_false, eq_self, e1, e2, hc, c1, c, (kfj hn hin).1, (kfj hn hin).2.1, nI_1]
      exact h1
theorem p_gather0 {k n : Nat} (hk : k < 4) (hn : n ≤ 16) (hc : S.1 26 k 0 = nI n) (hQ : ∀ S', Gt S S' 0 k n → Q none (WX S' t)) : eg_Runs n_Tou_gather [.ref 9, .ref (31 + 5 * k + 1)] (WX S t) Q := by
  refine e_Tou_gather ?_
  simp only [s_Tou_gather_0, s_Tou_gather_1, s_Tou_gather_2, s_Tou_gather_5, s_Tou_gather_6, s_Tou_gather_7, s_Tou_gather_8, s_Tou_gather_9, s_Tou_gather_12, s_Tou_gather_15, s_Tou_gather_16, s_Tou_gather_19, s_Tou_gather_20, s_Tou_gather_21, s_Tou_gather_24, s_Tou_gather_25, s_Tou_gather_28, s_Tou_gather_29, s_Tou_gather_32, s_Tou_gather_33, s_Tou_gather_36, s_Tou_gather_37, s_Tou_gather_38, s_Tou_gather_39, s_Tou_gather_40, s_Tou_gather_43, s_Tou_gather_44, s_Tou_gather_47, s_Tou_gather_48, s_Tou_gather_51, s_Tou_gather_52, s_Tou_gather_53, s_Tou_gather_54, s_Tou_gather_55, s_Tou_gather_58, s_Tou_gather_59, s_Tou_gather_62, s_Tou_gather_63, s_Tou_gather_66, s_Tou_gather_67, s_Tou_gather_68, s_Tou_gather_69, s_Tou_gather_70, s_Tou_gather_73, s_Tou_gather_74, s_Tou_gather_77, s_Tou_gather_78, s_Tou_gather_79, s_Tou_gather_80, s_Tou_gather_81, s_Tou_gather_84, s_Tou_gather_85, s_Tou_gather_86, s_Tou_gather_89, s_Tou_gather_92, s_Tou_gather_95, sz_Tou_gather_7, j_Tou_gather_89, j_Tou_gather_95, j_Tou_gather_7, k0_Tou, g0_Tou_x, r0_Tou_x, t0_Tou_x, l0_Tou_x, g0_Tou_y, r0_Tou_y, t0_Tou_y, l0_Tou_y, g0_Tou_z, r0_Tou_z, t0_Tou_z, l0_Tou_z, g0_Tou_number, r0_Tou_number, t0_Tou_number, l0_Tou_number, g0_Tou_count, f0_Tou_count, (k_Part hk), (g_Part_x hk), (r_Part_x hk), (t_Part_x hk), (l_Part_x hk), (g_Part_y hk), (r_Part_y hk), (t_Part_y hk), (l_Part_y hk), (g_Part_z hk), (r_Part_z hk), (t_Part_z hk), (l_Part_z hk), (g_Part_missed hk), (r_Part_missed hk), (t_Part_missed hk), (l_Part_missed hk), (g_Part_count hk), (f_Part_count hk), eg_t1_0, eg_t1_i, eg_t1_a, eg_t1_n, eg_t1_l, eg_t1_d, eg_t1_s, eg_t2_0, eg_t2_i, eg_t2_a, eg_t2_n, eg_t2_l, eg_t2_d, eg_t2_s, Option.toList_some, Option.toList_none, List.cons_append, List.nil_append, List.length_nil, List.length_cons, Nat.zero_le, true_and, and_true, true_implies, false_implies, implies_true, not_true_eq_false, not_false_eq_true, eg_bi_0, eg_bi_1, Decidable.not_or_self, Decidable.or_not_self, lg_cmp_ge, lg_cmp_le, lg_cmp_gt, lg_cmp_lt, lg_cmp_eq, or_true, true_or, eg_01, Nat.reduceAdd, Nat.reduceLeDiff, Nat.reduceMul, Nat.reduceEqDiff, rd_I, rd_I2, rd_L1, rd_L, rd_L2, rd_D1, rd_D2, rd_D, false_and, and_false, and_self, ↓reduceIte, if_true, if_false, eq_self]
  refine lp_gather0 (k := k) hk hn hc hQ n 0 _ (by omega) ⟨fun f j hf => ?_, rfl, ?_, fun j hj => absurd hj (Nat.not_lt_zero _)⟩
  · rw [rd_I, if_neg (by omega)]
  · rw [rd_I, if_pos ⟨rfl, rfl⟩]
    rfl
theorem lp_gather1 {k n : Nat} (hk : k < 4) (hn : n ≤ 16) (hc : S.1 26 k 0 = nI n) (hQ : ∀ S', Gt S S' 1 k n → Q none (WX S' t)) : ∀ (m i : Nat) (S' : eg_S), i + m = n → Gt S S' 1 k i → eg_R m_Tou_gather Q n0 7 0 0 [some (.ref 18), some (.ref (31 + 5 * k + 1)), some (.int (nI i))] [] (WX S' t) := by
  intro m
  induction m with
  | zero =>
    intro i S' hi hG
    have : i = n := by omega
    subst this
    refine x_Tou_gather_7 ?_
    have e1 := hG.1 26 k (by decide)
    simp only [s_Tou_gather_0, s_Tou_gather_1, s_Tou_gather_2, s_Tou_gather_5, s_Tou_gather_6, s_Tou_gather_7, s_Tou_gather_8, s_Tou_gather_9, s_Tou_gather_12, s_Tou_gather_15, s_Tou_gather_16, s_Tou_gather_19, s_Tou_gather_20, s_Tou_gather_21, s_Tou_gather_24, s_Tou_gather_25, s_Tou_gather_28, s_Tou_gather_29, s_Tou_gather_32, s_Tou_gather_33, s_Tou_gather_36, s_Tou_gather_37, s_Tou_gather_38, s_Tou_gather_39, s_Tou_gather_40, s_Tou_gather_43, s_Tou_gather_44, s_Tou_gather_47, s_Tou_gather_48, s_Tou_gather_51, s_Tou_gather_52, s_Tou_gather_53, s_Tou_gather_54, s_Tou_gather_55, s_Tou_gather_58, s_Tou_gather_59, s_Tou_gather_62, s_Tou_gather_63, s_Tou_gather_66, s_Tou_gather_67, s_Tou_gather_68, s_Tou_gather_69, s_Tou_gather_70, s_Tou_gather_73, s_Tou_gather_74, s_Tou_gather_77, s_Tou_gather_78, s_Tou_gather_79, s_Tou_gather_80, s_Tou_gather_81, s_Tou_gather_84, s_Tou_gather_85, s_Tou_gather_86, s_Tou_gather_89, s_Tou_gather_92, s_Tou_gather_95, sz_Tou_gather_7, j_Tou_gather_89, j_Tou_gather_95, j_Tou_gather_7, k1_Tou, g1_Tou_x, r1_Tou_x, t1_Tou_x, l1_Tou_x, g1_Tou_y, r1_Tou_y, t1_Tou_y, l1_Tou_y, g1_Tou_z, r1_Tou_z, t1_Tou_z, l1_Tou_z, g1_Tou_number, r1_Tou_number, t1_Tou_number, l1_Tou_number, g1_Tou_count, f1_Tou_count, (k_Part hk), (g_Part_x hk), (r_Part_x hk), (t_Part_x hk), (l_Part_x hk), (g_Part_y hk), (r_Part_y hk), (t_Part_y hk), (l_Part_y hk), (g_Part_z hk), (r_Part_z hk), (t_Part_z hk), (l_Part_z hk), (g_Part_missed hk), (r_Part_missed hk), (t_Part_missed hk), (l_Part_missed hk), (g_Part_count hk), (f_Part_count hk), eg_t1_0, eg_t1_i, eg_t1_a, eg_t1_n, eg_t1_l, eg_t1_d, eg_t1_s, eg_t2_0, eg_t2_i, eg_t2_a, eg_t2_n, eg_t2_l, eg_t2_d, eg_t2_s, Option.toList_some, Option.toList_none, List.cons_append, List.nil_append, List.length_nil, List.length_cons, Nat.zero_le, true_and, and_true, true_implies, false_implies, implies_true, not_true_eq_false, not_false_eq_true, eg_bi_0, eg_bi_1, Decidable.not_or_self, Decidable.or_not_self, lg_cmp_ge, lg_cmp_le, lg_cmp_gt, lg_cmp_lt, lg_cmp_eq, or_true, true_or, eg_01, Nat.reduceAdd, Nat.reduceLeDiff, Nat.reduceMul, Nat.reduceEqDiff, rd_I, rd_I2, rd_L1, rd_L, rd_L2, rd_D1, rd_D2, rd_D, false_and, and_false, and_self, ↓reduceIte, if_true, if_false, eq_self, e1, hc, Int32.le_refl]
    exact hQ S' hG
  | succ m ih =>
    intro i S' hi hG
    have hin : i < n := by omega
    refine x_Tou_gather_7 ?_
    have e1 := hG.1 26 k (by decide)
    have e2 := hG.1 25 k (by decide)
    have e3 := hG.1 22 k (by decide)
    have e4 := hG.1 23 k (by decide)
    have e5 := hG.1 24 k (by decide)
    have e6 := hG.2.2.1
    have c1 : ¬ nI n ≤ nI i := nI_ge (by omega) (by omega)
    have la := cnt_le (S.1 25 k) i
    have a1 : (nI (cnt (S.1 25 k) i)).toNatClampNeg = cnt (S.1 25 k) i := nI_clamp (by omega)
    have a2 : vp_in (nI (cnt (S.1 25 k) i)) 16 := vp_in_nI (by omega) (by decide)
    by_cases c : S.1 25 k i = 0
    · have h1 := ih (i + 1) _ (by omega) (Gt_s hG c)
      simp only [s_Tou_gather_0, s_Tou_gather_1, s_Tou_gather_2, s_Tou_gather_5, s_Tou_gather_6, s_Tou_gather_7, s_Tou_gather_8, s_Tou_gather_9, s_Tou_gather_12, s_Tou_gather_15, s_Tou_gather_16, s_Tou_gather_19, s_Tou_gather_20, s_Tou_gather_21, s_Tou_gather_24, s_Tou_gather_25, s_Tou_gather_28, s_Tou_gather_29, s_Tou_gather_32, s_Tou_gather_33, s_Tou_gather_36, s_Tou_gather_37, s_Tou_gather_38, s_Tou_gather_39, s_Tou_gather_40, s_Tou_gather_43, s_Tou_gather_44, s_Tou_gather_47, s_Tou_gather_48, s_Tou_gather_51, s_Tou_gather_52, s_Tou_gather_53, s_Tou_gather_54, s_Tou_gather_55, s_Tou_gather_58, s_Tou_gather_59, s_Tou_gather_62, s_Tou_gather_63, s_Tou_gather_66, s_Tou_gather_67, s_Tou_gather_68, s_Tou_gather_69, s_Tou_gather_70, s_Tou_gather_73, s_Tou_gather_74, s_Tou_gather_77, s_Tou_gather_78, s_Tou_gather_79, s_Tou_gather_80, s_Tou_gather_81, s_Tou_gather_84, s_Tou_gather_85, s_Tou_gather_86, s_Tou_gather_89, s_Tou_gather_92, s_Tou_gather_95, sz_Tou_gather_7, j_Tou_gather_89, j_Tou_gather_95, j_Tou_gather_7, k1_Tou, g1_Tou_x, r1_Tou_x, t1_Tou_x, l1_Tou_x, g1_Tou_y, r1_Tou_y, t1_Tou_y, l1_Tou_y, g1_Tou_z, r1_Tou_z, t1_Tou_z, l1_Tou_z, g1_Tou_number, r1_Tou_number, t1_Tou_number, l1_Tou_number, g1_Tou_count, f1_Tou_count, (k_Part hk), (g_Part_x hk), (r_Part_x hk), (t_Part_x hk), (l_Part_x hk), (g_Part_y hk), (r_Part_y hk), (t_Part_y hk), (l_Part_y hk), (g_Part_z hk), (r_Part_z hk), (t_Part_z hk), (l_Part_z hk), (g_Part_missed hk), (r_Part_missed hk), (t_Part_missed hk), (l_Part_missed hk), (g_Part_count hk), (f_Part_count hk), eg_t1_0, eg_t1_i, eg_t1_a, eg_t1_n, eg_t1_l, eg_t1_d, eg_t1_s, eg_t2_0, eg_t2_i, eg_t2_a, eg_t2_n, eg_t2_l, eg_t2_d, eg_t2_s, Option.toList_some, Option.toList_none, List.cons_append, List.nil_append, List.length_nil, List.length_cons, Nat.zero_le, true_and, and_true, true_implies, false_implies, implies_true, not_true_eq_false, not_false_eq_true, eg_bi_0, eg_bi_1, Decidable.not_or_self, Decidable.or_not_self, lg_cmp_ge, lg_cmp_le, lg_cmp_gt, lg_cmp_lt, lg_cmp_eq, or_true, true_or, eg_01, Nat.reduceAdd, Nat.reduceLeDiff, Nat.reduceMul, Nat.reduceEqDiff, rd_I, rd_I2, rd_L1, rd_L, rd_L2, rd_D1, rd_D2, rd_D, false_and, and_false, and_self, ↓reduceIte, if_true, if_false, eq_self, e1, e2, e3, e4, e5, e6, hc, c1, c, a1, a2, (kfj hn hin).1, (kfj hn hin).2.1, nI_1]
      exact h1
    · have h1 := ih (i + 1) _ (by omega) (Gt_m hG c)
      simp only [s_Tou_gather_0, s_Tou_gather_1, s_Tou_gather_2, s_Tou_gather_5, s_Tou_gather_6, s_Tou_gather_7, s_Tou_gather_8, s_Tou_gather_9, s_Tou_gather_12, s_Tou_gather_15, s_Tou_gather_16, s_Tou_gather_19, s_Tou_gather_20, s_Tou_gather_21, s_Tou_gather_24, s_Tou_gather_25, s_Tou_gather_28, s_Tou_gather_29, s_Tou_gather_32, s_Tou_gather_33, s_Tou_gather_36, s_Tou_gather_37, s_Tou_gather_38, s_Tou_gather_39, s_Tou_gather_40, s_Tou_gather_43, s_Tou_gather_44, s_Tou_gather_47, s_Tou_gather_48, s_Tou_gather_51, s_Tou_gather_52, s_Tou_gather_53, s_Tou_gather_54, s_Tou_gather_55, s_Tou_gather_58, s_Tou_gather_59, s_Tou_gather_62, s_Tou_gather_63, s_Tou_gather_66, s_Tou_gather_67, s_Tou_gather_68, s_Tou_gather_69, s_Tou_gather_70, s_Tou_gather_73, s_Tou_gather_74, s_Tou_gather_77, s_Tou_gather_78, s_Tou_gather_79, s_Tou_gather_80, s_Tou_gather_81, s_Tou_gather_84, s_Tou_gather_85, s_Tou_gather_86, s_Tou_gather_89, s_Tou_gather_92, s_Tou_gather_95, sz_Tou_gather_7, j_Tou_gather_89, j_Tou_gather_95, j_Tou_gather_7, k1_Tou, g1_Tou_x, r1_Tou_x, t1_Tou_x, l1_Tou_x, g1_Tou_y, r1_Tou_y, t1_Tou_y, l1_Tou_y, g1_Tou_z, r1_Tou_z, t1_Tou_z, l1_Tou_z, g1_Tou_number, r1_Tou_number, t1_Tou_number, l1_Tou_number, g1_Tou_count, f1_Tou_count, (k_Part hk), (g_Part_x hk), (r_Part_x hk), (t_Part_x hk), (l_Part_x hk), (g_Part_y hk), (r_Part_y hk), (t_Part_y hk), (l_Part_y hk), (g_Part_z hk), (r_Part_z hk), (t_Part_z hk), (l_Part_z hk), (g_Part_missed hk), (r_Part_missed hk), (t_Part_missed hk), (l_Part_missed hk), (g_Part_count hk), (f_Part_count hk), eg_t1_0, eg_t1_i, eg_t1_a, eg_t1_n, eg_t1_l, eg_t1_d, eg_t1_s, eg_t2_0, eg_t2_i, eg_t2_a, eg_t2_n, eg_t2_l, eg_t2_d, eg_t2_s, Option.toList_some, Option.toList_none, List.cons_append, List.nil_append, List.length_nil, List.length_cons, Nat.zero_le, true_and, and_true, true_implies, false_implies, implies_true, not_true_eq_false, not_false_eq_true, eg_bi_0, eg_bi_1, Decidable.not_or_self, Decidable.or_not_self, lg_cmp_ge, lg_cmp_le, lg_cmp_gt, lg_cmp_lt, lg_cmp_eq, or_true, true_or, eg_01, Nat.reduceAdd, Nat.reduceLeDiff, Nat.reduceMul, Nat.reduceEqDiff, rd_I, rd_I2, rd_L1, rd_L, rd_L2, rd_D1, rd_D2, rd_D, false_and, and_false, and_self, ↓reduceIte, if_true, if_false, eq_self, e1, e2, hc, c1, c, (kfj hn hin).1, (kfj hn hin).2.1, nI_1]
      exact h1
theorem p_gather1 {k n : Nat} (hk : k < 4) (hn : n ≤ 16) (hc : S.1 26 k 0 = nI n) (hQ : ∀ S', Gt S S' 1 k n → Q none (WX S' t)) : eg_Runs n_Tou_gather [.ref 18, .ref (31 + 5 * k + 1)] (WX S t) Q := by
  refine e_Tou_gather ?_
  simp only [s_Tou_gather_0, s_Tou_gather_1, s_Tou_gather_2, s_Tou_gather_5, s_Tou_gather_6, s_Tou_gather_7, s_Tou_gather_8, s_Tou_gather_9, s_Tou_gather_12, s_Tou_gather_15, s_Tou_gather_16, s_Tou_gather_19, s_Tou_gather_20, s_Tou_gather_21, s_Tou_gather_24, s_Tou_gather_25, s_Tou_gather_28, s_Tou_gather_29, s_Tou_gather_32, s_Tou_gather_33, s_Tou_gather_36, s_Tou_gather_37, s_Tou_gather_38, s_Tou_gather_39, s_Tou_gather_40, s_Tou_gather_43, s_Tou_gather_44, s_Tou_gather_47, s_Tou_gather_48, s_Tou_gather_51, s_Tou_gather_52, s_Tou_gather_53, s_Tou_gather_54, s_Tou_gather_55, s_Tou_gather_58, s_Tou_gather_59, s_Tou_gather_62, s_Tou_gather_63, s_Tou_gather_66, s_Tou_gather_67, s_Tou_gather_68, s_Tou_gather_69, s_Tou_gather_70, s_Tou_gather_73, s_Tou_gather_74, s_Tou_gather_77, s_Tou_gather_78, s_Tou_gather_79, s_Tou_gather_80, s_Tou_gather_81, s_Tou_gather_84, s_Tou_gather_85, s_Tou_gather_86, s_Tou_gather_89, s_Tou_gather_92, s_Tou_gather_95, sz_Tou_gather_7, j_Tou_gather_89, j_Tou_gather_95, j_Tou_gather_7, k1_Tou, g1_Tou_x, r1_Tou_x, t1_Tou_x, l1_Tou_x, g1_Tou_y, r1_Tou_y, t1_Tou_y, l1_Tou_y, g1_Tou_z, r1_Tou_z, t1_Tou_z, l1_Tou_z, g1_Tou_number, r1_Tou_number, t1_Tou_number, l1_Tou_number, g1_Tou_count, f1_Tou_count, (k_Part hk), (g_Part_x hk), (r_Part_x hk), (t_Part_x hk), (l_Part_x hk), (g_Part_y hk), (r_Part_y hk), (t_Part_y hk), (l_Part_y hk), (g_Part_z hk), (r_Part_z hk), (t_Part_z hk), (l_Part_z hk), (g_Part_missed hk), (r_Part_missed hk), (t_Part_missed hk), (l_Part_missed hk), (g_Part_count hk), (f_Part_count hk), eg_t1_0, eg_t1_i, eg_t1_a, eg_t1_n, eg_t1_l, eg_t1_d, eg_t1_s, eg_t2_0, eg_t2_i, eg_t2_a, eg_t2_n, eg_t2_l, eg_t2_d, eg_t2_s, Option.toList_some, Option.toList_none, List.cons_append, List.nil_append, List.length_nil, List.length_cons, Nat.zero_le, true_and, and_true, true_implies, false_implies, implies_true, not_true_eq_false, not_false_eq_true, eg_bi_0, eg_bi_1, Decidable.not_or_self, Decidable.or_not_self, lg_cmp_ge, lg_cmp_le, lg_cmp_gt, lg_cmp_lt, lg_cmp_eq, or_true, true_or, eg_01, Nat.reduceAdd, Nat.reduceLeDiff, Nat.reduceMul, Nat.reduceEqDiff, rd_I, rd_I2, rd_L1, rd_L, rd_L2, rd_D1, rd_D2, rd_D, false_and, and_false, and_self, ↓reduceIte, if_true, if_false, eq_self]
  refine lp_gather1 (k := k) hk hn hc hQ n 0 _ (by omega) ⟨fun f j hf => ?_, rfl, ?_, fun j hj => absurd hj (Nat.not_lt_zero _)⟩
  · rw [rd_I, if_neg (by omega)]
  · rw [rd_I, if_pos ⟨rfl, rfl⟩]
    rfl
end Gather
/-- the first greatest, the first least, of 0 .. m -/
def hiA (f : Nat → Int64) : Nat → Nat
  | 0 => 0
  | m + 1 => if f (hiA f m) < f (m + 1) then m + 1 else hiA f m
def loA (f : Nat → Int64) : Nat → Nat
  | 0 => 0
  | m + 1 => if f (m + 1) < f (loA f m) then m + 1 else loA f m
theorem hiA_le (f : Nat → Int64) (m : Nat) : hiA f m ≤ m := by
  induction m with
  | zero => exact Nat.le_refl _
  | succ m ih => unfold hiA; split <;> omega
theorem loA_le (f : Nat → Int64) (m : Nat) : loA f m ≤ m := by
  induction m with
  | zero => exact Nat.le_refl _
  | succ m ih => unfold loA; split <;> omega
theorem hiA_s (f : Nat → Int64) (m : Nat) : (f (hiA f m)).toInt ≤ (f (hiA f (m + 1))).toInt := by
  rw [hiA]
  by_cases c : f (hiA f m) < f (m + 1)
  · rw [if_pos c]
    rw [Int64.lt_iff_toInt_lt] at c
    omega
  · rw [if_neg c]
    omega
theorem loA_s (f : Nat → Int64) (m : Nat) : (f (loA f (m + 1))).toInt ≤ (f (loA f m)).toInt := by
  rw [loA]
  by_cases c : f (m + 1) < f (loA f m)
  · rw [if_pos c]
    rw [Int64.lt_iff_toInt_lt] at c
    omega
  · rw [if_neg c]
    omega
theorem lohi (f : Nat → Int64) (m : Nat) : (f (loA f m)).toInt ≤ (f (hiA f m)).toInt := by
  induction m with
  | zero => exact Int.le_refl _
  | succ m ih =>
    have := hiA_s f m
    have := loA_s f m
    omega
theorem hilo_d (f : Nat → Int64) (m : Nat) : ∀ d, (f (hiA f m)).toInt ≤ (f (hiA f (m + d))).toInt ∧ (f (loA f (m + d))).toInt ≤ (f (loA f m)).toInt := by
  intro d
  induction d with
  | zero => exact ⟨Int.le_refl _, Int.le_refl _⟩
  | succ d ih =>
    have h1 := hiA_s f (m + d)
    have h2 := loA_s f (m + d)
    rw [Nat.add_assoc] at h1 h2
    omega
theorem hiA_c {f f' : Nat → Int64} {m : Nat} (h : ∀ p, p ≤ m → f p = f' p) : hiA f m = hiA f' m ∧ loA f m = loA f' m := by
  induction m with
  | zero => exact ⟨rfl, rfl⟩
  | succ m ih =>
    obtain ⟨e1, e2⟩ := ih (fun p hp => h p (by omega))
    have l1 := hiA_le f' m
    have l2 := loA_le f' m
    unfold hiA loA
    rw [e1, e2, h (m + 1) (Nat.le_refl _), h (hiA f' m) (by omega), h (loA f' m) (by omega)]
    exact ⟨rfl, rfl⟩
/-- points, a way, its crosses -/
abbrev Pts : Type := (Nat → Int32) × (Nat → Int32) × (Nat → Int32)
abbrev V3 : Type := Int64 × Int64 × Int64
abbrev Cd : Type := Nat × Nat × Nat × Nat
def crs (P : Pts) (u : V3) (a p : Nat) : Int64 := u.1 * (P.1 p - P.1 a).toInt64 + u.2.1 * (P.2.1 p - P.2.1 a).toInt64 + u.2.2 * (P.2.2 p - P.2.2 a).toInt64
def len3 (u : V3) : Int64 := u.1 * u.1 + u.2.1 * u.2.1 + u.2.2 * u.2.2
def hiP (P : Pts) (c : Nat) (u : V3) (a : Nat) : Nat := hiA (crs P u a) (c - 1)
def loP (P : Pts) (c : Nat) (u : V3) (a : Nat) : Nat := loA (crs P u a) (c - 1)
def wid (P : Pts) (c : Nat) (u : V3) (a : Nat) : Int64 := crs P u a (hiP P c u a) - crs P u a (loP P c u a)
def okP (P : Pts) (c : Nat) : Prop := ∀ p, p < c → nr (P.1 p) ∧ nr (P.2.1 p) ∧ nr (P.2.2 p)
def okV (u : V3) : Prop := u.1.toInt.natAbs ≤ 720000 ∧ u.2.1.toInt.natAbs ≤ 720000 ∧ u.2.2.toInt.natAbs ≤ 720000
/-- in whole numbers -/
def crZ (P : Pts) (u : V3) (a p : Nat) : Int := u.1.toInt * ((P.1 p).toInt - (P.1 a).toInt) + u.2.1.toInt * ((P.2.1 p).toInt - (P.2.1 a).toInt) + u.2.2.toInt * ((P.2.2 p).toInt - (P.2.2 a).toInt)
def lnZ (u : V3) : Int := u.1.toInt * u.1.toInt + u.2.1.toInt * u.2.1.toInt + u.2.2.toInt * u.2.2.toInt
theorem crs_Z {P : Pts} {c : Nat} {u : V3} {a p : Nat} (hP : okP P c) (hu : okV u) (ha : a < c) (hp : p < c) : crs P u a p = lZ (crZ P u a p) ∧ (crZ P u a p).natAbs ≤ 1296000000 := by
  obtain ⟨x1, x2, x3⟩ := hP a ha
  obtain ⟨y1, y2, y3⟩ := hP p hp
  obtain ⟨u1, u2, u3⟩ := hu
  unfold crs crZ
  rw [lZ_d y1 x1, lZ_d y2 x2, lZ_d y3 x3]
  have n1 := nr_T x1
  have n2 := nr_T x2
  have n3 := nr_T x3
  have n4 := nr_T y1
  have n5 := nr_T y2
  have n6 := nr_T y3
  have b1 := bd_mul u1 (show ((P.1 p).toInt - (P.1 a).toInt).natAbs ≤ 600 by omega)
  have b2 := bd_mul u2 (show ((P.2.1 p).toInt - (P.2.1 a).toInt).natAbs ≤ 600 by omega)
  have b3 := bd_mul u3 (show ((P.2.2 p).toInt - (P.2.2 a).toInt).natAbs ≤ 600 by omega)
  refine ⟨?_, by omega⟩
  conv => lhs; rw [lZ_of u.1, lZ_of u.2.1, lZ_of u.2.2]
  rw [lZ_mul, lZ_mul, lZ_mul, lZ_add, lZ_add]
theorem len_Z {u : V3} (hu : okV u) : len3 u = lZ (lnZ u) ∧ 0 ≤ lnZ u ∧ lnZ u ≤ 1555200000000 := by
  obtain ⟨u1, u2, u3⟩ := hu
  have b1 := bd_mul u1 u1
  have b2 := bd_mul u2 u2
  have b3 := bd_mul u3 u3
  have p1 := sq_pos u.1.toInt
  have p2 := sq_pos u.2.1.toInt
  have p3 := sq_pos u.2.2.toInt
  unfold len3 lnZ
  refine ⟨?_, by omega, by omega⟩
  conv => lhs; rw [lZ_of u.1, lZ_of u.2.1, lZ_of u.2.2]
  simp only [lZ_mul, lZ_add]
theorem len_T {u : V3} (hu : okV u) : (len3 u).toInt = lnZ u ∧ (len3 u = 0 ↔ lnZ u = 0) ∧ 0 ≤ lnZ u ∧ lnZ u ≤ 1555200000000 := by
  obtain ⟨e, h1, h2⟩ := len_Z hu
  have z0 : (0 : Int64) = lZ 0 := rfl
  refine ⟨by rw [e, lZ_T (by omega)], ?_, h1, h2⟩
  rw [e, z0, lZ_eq (by omega) (by omega)]
/-- the width so far, as a long and squared -/
theorem wd_Z {P : Pts} {c : Nat} {u : V3} {a p q : Nat} (hP : okP P c) (hu : okV u) (ha : a < c) (hp : p < c) (hq : q < c) : (crs P u a p - crs P u a q).toInt = crZ P u a p - crZ P u a q ∧ ((crs P u a p - crs P u a q) * (crs P u a p - crs P u a q)).toInt = (crZ P u a p - crZ P u a q) * (crZ P u a p - crZ P u a q) ∧ (crZ P u a p - crZ P u a q).natAbs ≤ 2592000000 := by
  obtain ⟨e1, b1⟩ := crs_Z hP hu ha hp
  obtain ⟨e2, b2⟩ := crs_Z hP hu ha hq
  have b3 : (crZ P u a p - crZ P u a q).natAbs ≤ 2592000000 := by omega
  have b4 := bd_mul b3 b3
  rw [e1, e2, lZ_sub, lZ_mul]
  refine ⟨lZ_T (by omega), lZ_T (by omega), b3⟩
theorem crs_T {P : Pts} {c : Nat} {u : V3} {a p : Nat} (hP : okP P c) (hu : okV u) (ha : a < c) (hp : p < c) : (crs P u a p).toInt = crZ P u a p := by
  obtain ⟨e, b⟩ := crs_Z hP hu ha hp
  rw [e, lZ_T (by omega)]
