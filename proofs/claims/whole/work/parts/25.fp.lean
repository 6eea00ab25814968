/-! DOUBLES: whole numbers among them -/
def fWh (i : Int) (d : FP.Core.Datum) : Prop := ∃ (s : Bool) (c : Nat) (k : Nat), d = .fin s c (-(k : Int)) ∧ c = i.natAbs * 2 ^ k ∧ (i ≠ 0 → s = decide (i < 0))
theorem fWh_0 (s : Bool) (k : Nat) : fWh 0 (.fin s 0 (-(k : Int))) := ⟨s, 0, k, rfl, by simp, fun q => absurd rfl q⟩
theorem fs_mul (s : Bool) (c k : Nat) : FP.Core.signed s (c * k) = FP.Core.signed s c * (k : Int) := by
  unfold FP.Core.signed
  cases s <;> simp [Int.neg_mul]
theorem fs_wh {i : Int} {s : Bool} (hs : i ≠ 0 → s = decide (i < 0)) : FP.Core.signed s i.natAbs = i := by
  unfold FP.Core.signed
  by_cases h : i = 0
  · subst h; cases s <;> rfl
  · rw [hs h]
    by_cases c : i < 0
    · simp only [c, decide_true, if_true]; omega
    · simp only [c, decide_false, Bool.false_eq_true, if_false]; omega
theorem fu (c k m : Nat) (h : k ≤ m) : FP.Core.inUnits c (-(k : Int)) (-(m : Int)) = c * 2 ^ (m - k) := by
  unfold FP.Core.inUnits
  congr 2
  omega
theorem fp_cmp (a b : Int) (k : Nat) : compare (a * (2 ^ k : Nat)) (b * (2 ^ k : Nat)) = compare a b := by
  have hp : (0 : Int) < (2 ^ k : Nat) := by exact_mod_cast Nat.two_pow_pos k
  simp only [compare, compareOfLessAndEq]
  rcases Int.lt_trichotomy a b with h | h | h
  · rw [if_pos h, if_pos (Int.mul_lt_mul_of_pos_right h hp)]
  · subst h
    simp
  · have hm := Int.mul_lt_mul_of_pos_right h hp
    rw [if_neg (Int.not_lt.mpr (Int.le_of_lt hm)), if_neg (Int.ne_of_gt hm), if_neg (Int.not_lt.mpr (Int.le_of_lt h)), if_neg (Int.ne_of_gt h)]
theorem fp_order {i j : Int} {x y : FP.Core.Datum} (hx : fWh i x) (hy : fWh j y) : FP.Core.order x y = some (compare i j) := by
  obtain ⟨s, c, k, rfl, rfl, hs⟩ := hx
  obtain ⟨t, d, m, rfl, rfl, ht⟩ := hy
  unfold FP.Core.order
  dsimp only
  have e : min (-(k : Int)) (-(m : Int)) = -((max k m : Nat) : Int) := by omega
  rw [e, fu _ _ _ (by omega), fu _ _ _ (by omega)]
  have e1 : i.natAbs * 2 ^ k * 2 ^ (max k m - k) = i.natAbs * 2 ^ (max k m) := by
    rw [Nat.mul_assoc, ← Nat.pow_add]; congr 2; omega
  have e2 : j.natAbs * 2 ^ m * 2 ^ (max k m - m) = j.natAbs * 2 ^ (max k m) := by
    rw [Nat.mul_assoc, ← Nat.pow_add]; congr 2; omega
  rw [e1, e2, fs_mul, fs_mul, fs_wh hs, fs_wh ht, fp_cmp]
theorem fp_trunc {i : Int} {x : FP.Core.Datum} (hx : fWh i x) (h1 : -2147483648 ≤ i) (h2 : i ≤ 2147483647) : FP.Core.toInt (-2 ^ 31) (2 ^ 31 - 1) x = i := by
  obtain ⟨s, c, k, rfl, rfl, hs⟩ := hx
  unfold FP.Core.toInt FP.Core.truncate
  dsimp only
  have e1 : (-(k : Int)).toNat = 0 := by omega
  have e2 : (-(-(k : Int))).toNat = k := by omega
  rw [e1, e2, Nat.pow_zero, Nat.mul_one, Nat.mul_div_cancel _ (Nat.two_pow_pos k), fs_wh hs]
  omega
theorem fq_min : FP.Core.b64.qmin = -1074 := by decide +kernel
theorem fq_max : FP.Core.b64.qmax = 971 := by decide +kernel
theorem ft_64 : FP.Core.b64.tails = 4503599627370496 := by decide +kernel
theorem fe_64 : FP.Core.b64.exps = 2048 := by decide +kernel
/-- a double's parts -/
theorem fp_dec {n : Nat} : FP.Core.decode FP.Core.b64 n = (if n / 4503599627370496 % 2048 = 2047 then (if n % 4503599627370496 = 0 then .inf (n / 4503599627370496 / 2048 % 2 == 1) else .nan) else if n / 4503599627370496 % 2048 = 0 then .fin (n / 4503599627370496 / 2048 % 2 == 1) (n % 4503599627370496) (-1074) else .fin (n / 4503599627370496 / 2048 % 2 == 1) (4503599627370496 + n % 4503599627370496) (-1074 + ((n / 4503599627370496 % 2048 : Nat) - 1 : Int))) := by
  unfold FP.Core.decode FP.Core.fieldE FP.Core.fieldT FP.Core.fieldS
  rw [ft_64, fe_64, fq_min]
theorem fp_round {s : Bool} {c : Nat} (h0 : 0 < c) (h : c < 4294967296) : FP.Core.round FP.Core.b64 (.fin s c 0) = .fin s (c * 2 ^ (52 - c.log2)) (-((52 - c.log2 : Nat) : Int)) ∧ 4503599627370496 ≤ c * 2 ^ (52 - c.log2) ∧ c * 2 ^ (52 - c.log2) < 9007199254740992 ∧ c.log2 < 32 := by
  have l1 : 2 ^ c.log2 ≤ c := Nat.log2_self_le (by omega)
  have l2 : c < 2 ^ (c.log2 + 1) := Nat.lt_log2_self
  have l3 : c.log2 < 32 := (Nat.log2_lt (by omega)).mpr h
  have m1 : 2 ^ c.log2 * 2 ^ (52 - c.log2) ≤ c * 2 ^ (52 - c.log2) := Nat.mul_le_mul_right _ l1
  have m2 : c * 2 ^ (52 - c.log2) < 2 ^ (c.log2 + 1) * 2 ^ (52 - c.log2) := Nat.mul_lt_mul_of_pos_right l2 (Nat.two_pow_pos _)
  rw [← Nat.pow_add] at m1 m2
  have p1 : c.log2 + (52 - c.log2) = 52 := by omega
  have p2 : c.log2 + 1 + (52 - c.log2) = 53 := by omega
  rw [p1] at m1
  rw [p2] at m2
  refine ⟨?_, m1, m2, l3⟩
  unfold FP.Core.round FP.Core.roundRatio
  dsimp only
  rw [if_neg (by omega)]
  have hl : FP.Core.leading c 1 = (c.log2 : Int) := by
    unfold FP.Core.leading
    have z : Nat.log2 1 = 0 := by decide
    simp only [z]
    rw [if_pos]
    · omega
    · have z1 : ((c.log2 : Int) - ((0 : Nat) : Int)).toNat = c.log2 := by omega
      have z2 : (-((c.log2 : Int) - ((0 : Nat) : Int))).toNat = 0 := by omega
      rw [z1, z2]
      omega
  have hq : FP.Core.quantum FP.Core.b64 c 1 0 = -((52 - c.log2 : Nat) : Int) := by
    unfold FP.Core.quantum
    rw [hl, fq_min]
    have : (FP.Core.b64.p : Int) = 53 := rfl
    rw [this]
    omega
  rw [hq]
  unfold FP.Core.roundAt FP.Core.unitsNum FP.Core.unitsDen
  have z1 : (0 - -((52 - c.log2 : Nat) : Int)).toNat = 52 - c.log2 := by omega
  have z2 : (-((52 - c.log2 : Nat) : Int) - 0).toNat = 0 := by omega
  rw [z1, z2]
  unfold FP.Core.nearest
  rw [Nat.pow_zero, Nat.mul_one, Nat.mod_one, if_pos (by decide), Nat.div_one]
  unfold FP.Core.settle
  have : FP.Core.b64.p = 53 := rfl
  rw [this, if_pos m2]
  unfold FP.Core.bound
  rw [if_pos]
  rw [fq_max]
  omega
theorem fp_i2d (a : Int32) : fWh a.toInt (FP.Core.decode FP.Core.b64 (FP.i2d a).toNat) := by
  have hb1 := Int32.toInt_lt a
  have hb2 := Int32.le_toInt a
  show fWh a.toInt (FP.Core.decode FP.Core.b64 (UInt64.ofNat (FP.Core.fromInt FP.Core.b64 a.toInt)).toNat)
  unfold FP.Core.fromInt FP.Core.ofInt
  by_cases h0 : a.toInt = 0
  · rw [h0]
    have e : FP.Core.decode FP.Core.b64 (UInt64.ofNat (FP.Core.encode FP.Core.b64 (FP.Core.round FP.Core.b64 (.fin (decide ((0 : Int) < 0)) (Int.natAbs 0) 0)))).toNat = .fin false 0 (-1074) := by decide +kernel
    rw [e]
    exact fWh_0 false 1074
  · obtain ⟨e1, l1, l2, l3⟩ := fp_round (s := decide (a.toInt < 0)) (c := a.toInt.natAbs) (by omega) (by omega)
    rw [e1]
    generalize hX : a.toInt.natAbs * 2 ^ (52 - a.toInt.natAbs.log2) = X at *
    generalize hk : a.toInt.natAbs.log2 = k at *
    unfold FP.Core.encode
    simp only [ft_64, fq_min]
    rw [if_neg (by omega)]
    unfold FP.Core.assemble
    rw [ft_64, fe_64]
    have z : (-((52 - k : Nat) : Int) - -1074).toNat + 1 = k + 1023 := by omega
    rw [z]
    generalize hn : ((decide (a.toInt < 0)).toNat * 2048 + (k + 1023)) * 4503599627370496 + (X - 4503599627370496) = n
    have hs : (decide (a.toInt < 0)).toNat ≤ 1 := by cases decide (a.toInt < 0) <;> decide
    have hn2 : n < 2 ^ 64 := by omega
    have q1 : n / 4503599627370496 = (decide (a.toInt < 0)).toNat * 2048 + (k + 1023) := by omega
    have q2 : n % 4503599627370496 = X - 4503599627370496 := by omega
    have q3 : n / 4503599627370496 % 2048 = k + 1023 := by omega
    have q4 : n / 4503599627370496 / 2048 % 2 = (decide (a.toInt < 0)).toNat := by omega
    have q5 : (UInt64.ofNat n).toNat = n := by
      rw [UInt64.toNat_ofNat']
      exact Nat.mod_eq_of_lt hn2
    rw [q5, fp_dec, q2, q3, q4, if_neg (by omega), if_neg (by omega)]
    refine ⟨decide (a.toInt < 0), X, 52 - k, ?_, hX.symm, fun _ => rfl⟩
    have z2 : ((decide (a.toInt < 0)).toNat == 1) = decide (a.toInt < 0) := by cases decide (a.toInt < 0) <;> rfl
    have z3 : 4503599627370496 + (X - 4503599627370496) = X := Nat.add_sub_of_le l1
    have z4 : (-1074 : Int) + ((k + 1023 : Nat) - 1 : Int) = -((52 - k : Nat) : Int) := by omega
    rw [z2, z3, z4]
theorem fp_300 : fWh 300 (FP.Core.decode FP.Core.b64 (4643985272004935680 : UInt64).toNat) := ⟨false, 300 * 2 ^ 44, 44, by decide +kernel, by decide +kernel, by decide⟩
theorem fp_m300 : fWh (-300) (FP.Core.decode FP.Core.b64 (13867357308859711488 : UInt64).toNat) := ⟨true, 300 * 2 ^ 44, 44, by decide +kernel, by decide +kernel, by decide⟩
theorem nr_iff (v : Int32) : nr v ↔ -300 ≤ v.toInt ∧ v.toInt ≤ 300 := by
  unfold nr
  rw [Int32.le_iff_toInt_le, Int32.le_iff_toInt_le]
  exact Iff.rfl
theorem fp_d2i {i : Int} {d : UInt64} (h : fWh i (FP.Core.decode FP.Core.b64 d.toNat)) (h1 : -2147483648 ≤ i) (h2 : i ≤ 2147483647) : (FP.d2i d).toInt = i := by
  show (Int32.ofInt (FP.Core.toInt (-2 ^ 31) (2 ^ 31 - 1) (FP.Core.decode FP.Core.b64 d.toNat))).toInt = i
  rw [fp_trunc h h1 h2, Int32.toInt_ofInt_of_le (by omega) (by omega)]
theorem cv_ge (a b : Int) : 0 ≤ Op.cmpValue (some (compare a b)) .l ↔ b ≤ a := by
  simp only [compare, compareOfLessAndEq]
  by_cases h : a < b
  · rw [if_pos h]; simp only [Op.cmpValue]; constructor <;> intro q
    · exact absurd q (by decide)
    · omega
  · rw [if_neg h]
    by_cases h2 : a = b
    · rw [if_pos h2]; simp only [Op.cmpValue]; constructor <;> intro q
      · omega
      · decide
    · rw [if_neg h2]; simp only [Op.cmpValue]; constructor <;> intro q
      · omega
      · decide
theorem cv_le (a b : Int) : Op.cmpValue (some (compare a b)) .g ≤ 0 ↔ a ≤ b := by
  simp only [compare, compareOfLessAndEq]
  by_cases h : a < b
  · rw [if_pos h]; simp only [Op.cmpValue]; constructor <;> intro q
    · omega
    · decide
  · rw [if_neg h]
    by_cases h2 : a = b
    · rw [if_pos h2]; simp only [Op.cmpValue]; constructor <;> intro q
      · omega
      · decide
    · rw [if_neg h2]; simp only [Op.cmpValue]; constructor <;> intro q
      · exact absurd q (by decide)
      · omega
theorem cv_eq (a b : Int) : Op.cmpValue (some (compare a b)) .l = 0 ↔ a = b := by
  simp only [compare, compareOfLessAndEq]
  by_cases h : a < b
  · rw [if_pos h]; simp only [Op.cmpValue]; constructor <;> intro q
    · exact absurd q (by decide)
    · omega
  · rw [if_neg h]
    by_cases h2 : a = b
    · rw [if_pos h2]; simp only [Op.cmpValue]; constructor <;> intro q
      · exact h2
      · trivial
    · rw [if_neg h2]; simp only [Op.cmpValue]; constructor <;> intro q
      · exact absurd q (by decide)
      · omega
theorem RD_wh {v : Int32} {d : UInt64} (h : fWh v.toInt (FP.Core.decode FP.Core.b64 d.toNat)) : RD v d := by
  have hb1 := Int32.toInt_lt v
  have hb2 := Int32.le_toInt v
  have e : FP.d2i d = v := Int32.toInt_inj.mp (fp_d2i h (by omega) (by omega))
  have c1 : FP.dcmp d 13867357308859711488 = some (compare v.toInt (-300)) := fp_order h fp_m300
  have c2 : FP.dcmp d 4643985272004935680 = some (compare v.toInt 300) := fp_order h fp_300
  have c3 : FP.dcmp d (FP.i2d v) = some (compare v.toInt v.toInt) := fp_order h (fp_i2d v)
  refine ⟨?_, fun _ => e.symm⟩
  unfold gdD
  rw [e, c1, c2, c3, cv_ge, cv_le, cv_eq, nr_iff]
  exact ⟨fun q => ⟨q.1, q.2.1⟩, fun q => ⟨q.1, q.2, rfl⟩⟩
theorem RD_i2d (v : Int32) : RD v (FP.i2d v) := RD_wh (fp_i2d v)
theorem RD_0 : RD 0 FP.dconst0 := by
  refine RD_wh ?_
  have e : FP.Core.decode FP.Core.b64 FP.dconst0.toNat = .fin false 0 (-1074) := by decide +kernel
  rw [e]
  exact fWh_0 false 1074
