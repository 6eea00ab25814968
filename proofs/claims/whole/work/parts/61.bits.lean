/-! BITS: a double's bits as a whole number -/
theorem fp_ord2 {j : Int} {s : Bool} {c k : Nat} {y : FP.Core.Datum} (hy : fWh j y) : FP.Core.order (.fin s c (-(k : Int))) y = some (compare (FP.Core.signed s c) (j * (2 ^ k : Nat))) := by
  obtain ⟨t, d, m, rfl, rfl, ht⟩ := hy
  unfold FP.Core.order
  dsimp only
  have e : min (-(k : Int)) (-(m : Int)) = -((max k m : Nat) : Int) := by omega
  rw [e, fu _ _ _ (by omega), fu _ _ _ (by omega)]
  have e2 : j.natAbs * 2 ^ m * 2 ^ (max k m - m) = j.natAbs * 2 ^ k * 2 ^ (max k m - k) := by
    rw [Nat.mul_assoc, Nat.mul_assoc, ← Nat.pow_add, ← Nat.pow_add]; congr 2; omega
  rw [e2, fs_mul, fs_mul, fs_mul, fs_wh ht, fp_cmp]
theorem RD_no {d : UInt64} (h : ¬ gdD d) : RD 301 d := ⟨⟨fun q => absurd q h, fun q => absurd q (by unfold nr; decide)⟩, fun q => absurd q h⟩
theorem gd_nan {d : UInt64} (h : FP.Core.decode FP.Core.b64 d.toNat = .nan) : ¬ gdD d := by
  intro q
  have e : FP.dcmp d 13867357308859711488 = none := by
    show FP.Core.order (FP.Core.decode FP.Core.b64 d.toNat) _ = none
    rw [h]
    rfl
  have := q.1
  rw [e] at this
  exact absurd this (by decide)
theorem gd_inf {d : UInt64} {s : Bool} (h : FP.Core.decode FP.Core.b64 d.toNat = .inf s) : ¬ gdD d := by
  intro q
  obtain ⟨t1, c1, k1, e1, -, -⟩ := fp_m300
  obtain ⟨t2, c2, k2, e2, -, -⟩ := fp_300
  have g1 : FP.dcmp d 13867357308859711488 = some (compare (FP.Core.signed s 1) 0) := by
    show FP.Core.order (FP.Core.decode FP.Core.b64 d.toNat) (FP.Core.decode FP.Core.b64 (13867357308859711488 : UInt64).toNat) = _
    rw [h, e1]
    rfl
  have g2 : FP.dcmp d 4643985272004935680 = some (compare (FP.Core.signed s 1) 0) := by
    show FP.Core.order (FP.Core.decode FP.Core.b64 d.toNat) (FP.Core.decode FP.Core.b64 (4643985272004935680 : UInt64).toNat) = _
    rw [h, e2]
    rfl
  obtain ⟨q1, q2, -⟩ := q
  rw [g1, cv_ge] at q1
  rw [g2, cv_le] at q2
  cases s
  · exact absurd q2 (by decide)
  · exact absurd q1 (by decide)
theorem gd_big {d : UInt64} {s : Bool} {c : Nat} {q : Int} (h : FP.Core.decode FP.Core.b64 d.toNat = .fin s c q) (hc : 4503599627370496 ≤ c) (hq : -43 ≤ q) : ¬ gdD d := by
  intro g
  have e1 : FP.Core.decode FP.Core.b64 (13867357308859711488 : UInt64).toNat = .fin true (300 * 2 ^ 44) (-44) := by decide +kernel
  have e2 : FP.Core.decode FP.Core.b64 (4643985272004935680 : UInt64).toNat = .fin false (300 * 2 ^ 44) (-44) := by decide +kernel
  have em : min q (-44) = -44 := by omega
  obtain ⟨w, hw⟩ : ∃ w : Nat, (q - -44).toNat = w + 1 := ⟨(q - -44).toNat - 1, by omega⟩
  have u1 : FP.Core.inUnits c q (-44) = c * (2 * 2 ^ w) := by
    unfold FP.Core.inUnits
    rw [hw, Nat.pow_succ, Nat.mul_comm (2 ^ w) 2]
  have u2 : FP.Core.inUnits (300 * 2 ^ 44) (-44) (-44) = 300 * 17592186044416 := by decide +kernel
  have big : 9007199254740992 ≤ c * (2 * 2 ^ w) := by
    have p := Nat.two_pow_pos w
    have : 4503599627370496 * (2 * 1) ≤ c * (2 * 2 ^ w) := Nat.mul_le_mul hc (Nat.mul_le_mul (Nat.le_refl _) p)
    omega
  have g1 : FP.dcmp d 13867357308859711488 = some (compare (FP.Core.signed s (c * (2 * 2 ^ w))) (FP.Core.signed true (300 * 17592186044416))) := by
    show FP.Core.order (FP.Core.decode FP.Core.b64 d.toNat) (FP.Core.decode FP.Core.b64 (13867357308859711488 : UInt64).toNat) = _
    rw [h, e1]
    unfold FP.Core.order
    dsimp only
    rw [em, u1, u2]
  have g2 : FP.dcmp d 4643985272004935680 = some (compare (FP.Core.signed s (c * (2 * 2 ^ w))) (FP.Core.signed false (300 * 17592186044416))) := by
    show FP.Core.order (FP.Core.decode FP.Core.b64 d.toNat) (FP.Core.decode FP.Core.b64 (4643985272004935680 : UInt64).toNat) = _
    rw [h, e2]
    unfold FP.Core.order
    dsimp only
    rw [em, u1, u2]
  obtain ⟨q1, q2, -⟩ := g
  rw [g1, cv_ge] at q1
  rw [g2, cv_le] at q2
  generalize c * (2 * 2 ^ w) = z at *
  cases s
  · have z1 : FP.Core.signed false z = (z : Int) := rfl
    have z2 : FP.Core.signed false (300 * 17592186044416) = 5277655813324800 := by decide
    rw [z1, z2] at q2
    omega
  · have z1 : FP.Core.signed true z = -(z : Int) := rfl
    have z2 : FP.Core.signed true (300 * 17592186044416) = -5277655813324800 := by decide
    rw [z1, z2] at q1
    omega
theorem gd_frac {d : UInt64} {s : Bool} {c k : Nat} (h : FP.Core.decode FP.Core.b64 d.toNat = .fin s c (-(k : Int))) (hc : c % 2 ^ k ≠ 0) (hs : c / 2 ^ k < 2147483648) : ¬ gdD d := by
  intro g
  have tz : (FP.d2i d).toInt = FP.Core.signed s (c / 2 ^ k) := by
    show (Int32.ofInt (FP.Core.toInt (-2 ^ 31) (2 ^ 31 - 1) (FP.Core.decode FP.Core.b64 d.toNat))).toInt = _
    rw [h]
    unfold FP.Core.toInt FP.Core.truncate
    dsimp only
    have e1 : (-(k : Int)).toNat = 0 := by omega
    have e2 : (-(-(k : Int))).toNat = k := by omega
    rw [e1, e2, Nat.pow_zero, Nat.mul_one]
    generalize c / 2 ^ k = w at hs
    have sb : -2147483648 < FP.Core.signed s w ∧ FP.Core.signed s w < 2147483648 := by
      unfold FP.Core.signed
      cases s
      · simp only [Bool.false_eq_true, if_false]; omega
      · simp only [if_true]; omega
    rw [Int32.toInt_ofInt_of_le (by omega) (by omega)]
    omega
  have o := fp_ord2 (s := s) (c := c) (k := k) (fp_i2d (FP.d2i d))
  rw [tz] at o
  have e : FP.dcmp d (FP.i2d (FP.d2i d)) = some (compare (FP.Core.signed s c) (FP.Core.signed s (c / 2 ^ k) * (2 ^ k : Nat))) := by
    show FP.Core.order (FP.Core.decode FP.Core.b64 d.toNat) _ = _
    rw [h]
    exact o
  have q3 := g.2.2
  rw [e, cv_eq, ← fs_mul] at q3
  have dm := Nat.div_add_mod c (2 ^ k)
  rw [Nat.mul_comm] at dm
  have : c = c / 2 ^ k * 2 ^ k := by
    unfold FP.Core.signed at q3
    cases s
    · simp only [Bool.false_eq_true, if_false] at q3
      omega
    · simp only [if_true] at q3
      omega
  omega
theorem pw_lt {f K : Nat} (hK : 53 ≤ K) (h : f < 9007199254740992) : f < 2 ^ K := Nat.lt_of_lt_of_le h (Nat.pow_le_pow_right (n := 2) (i := 53) (by decide) hK)
theorem gd_low {d : UInt64} {s : Bool} {c k : Nat} (h : FP.Core.decode FP.Core.b64 d.toNat = .fin s c (-(k : Int))) (c0 : c ≠ 0) (hc : c < 9007199254740992) (hk : 53 ≤ k) : ¬ gdD d := by
  have lt := pw_lt hk hc
  refine gd_frac h ?_ ?_
  · rw [Nat.mod_eq_of_lt lt]; exact c0
  · rw [Nat.div_eq_of_lt lt]; exact Nat.zero_lt_succ _
theorem gd_sub {d : UInt64} {s : Bool} {n f : Nat} (hN : d.toNat = n) (h : FP.Core.decode FP.Core.b64 n = .fin s f (-1074)) (c0 : f ≠ 0) (hc : f < 4503599627370496) : ¬ gdD d := by
  obtain ⟨k, hk, e⟩ : ∃ k : Nat, 53 ≤ k ∧ (-1074 : Int) = -(k : Int) := ⟨1074, by omega, by omega⟩
  rw [e] at h
  exact gd_low (by rw [hN]; exact h) c0 (by omega) hk
/-- the class's reading of a double's bits, by its fields: sign, exponent, fraction -/
def wobF (g E f : Nat) : Int32 :=
  if E = 0 ∧ f = 0 then 0
  else if E < 1023 ∨ 1031 < E then 301
  else if (f + 4503599627370496) % 2 ^ (1075 - E) = 0 then
    (if g = 0 then nI ((f + 4503599627370496) / 2 ^ (1075 - E)) else -nI ((f + 4503599627370496) / 2 ^ (1075 - E)))
  else 301
def wob (n : Nat) : Int32 := wobF (n / 9223372036854775808) (n / 4503599627370496 % 2048) (n % 4503599627370496)
theorem wobF_RD {d : UInt64} {n g E f : Nat} (hN : d.toNat = n) (hd : FP.Core.decode FP.Core.b64 n = (if E = 2047 then (if f = 0 then .inf (g % 2 == 1) else .nan) else if E = 0 then .fin (g % 2 == 1) f (-1074) else .fin (g % 2 == 1) (4503599627370496 + f) (-1074 + ((E : Nat) - 1 : Int)))) (hf : f < 4503599627370496) (hE2 : E < 2048) (sb : g = 0 ∨ g = 1) : RD (wobF g E f) d := by
  unfold wobF
  by_cases c0 : E = 0 ∧ f = 0
  · rw [if_pos c0]
    obtain ⟨e1, e2⟩ := c0
    rw [if_neg (by omega), if_pos e1, e2] at hd
    refine RD_wh ?_
    rw [hN, hd]
    obtain ⟨k, e⟩ : ∃ k : Nat, (-1074 : Int) = -(k : Int) := ⟨1074, by omega⟩
    rw [e]
    exact fWh_0 _ k
  rw [if_neg c0]
  have hz := c0
  by_cases c1 : E < 1023 ∨ 1031 < E
  · rw [if_pos c1]
    refine RD_no ?_
    by_cases c2 : E = 2047
    · rw [if_pos c2] at hd
      by_cases c3 : f = 0
      · rw [if_pos c3] at hd
        exact gd_inf (by rw [hN]; exact hd)
      · rw [if_neg c3] at hd
        exact gd_nan (by rw [hN]; exact hd)
    rw [if_neg c2] at hd
    by_cases c4 : E = 0
    · rw [if_pos c4] at hd
      have f0 : f ≠ 0 := fun q => hz ⟨c4, q⟩
      exact gd_sub hN hd f0 hf
    rw [if_neg c4] at hd
    rcases c1 with c1 | c1
    · have ek : (-1074 + ((E : Int) - 1)) = -((1075 - E : Nat) : Int) := by omega
      rw [ek] at hd
      exact gd_low (by rw [hN]; exact hd) (by omega) (by omega) (by omega)
    · exact gd_big (by rw [hN]; exact hd) (by omega) (by omega)
  rw [if_neg c1]
  rw [if_neg (show ¬ E = 2047 by omega), if_neg (show ¬ E = 0 by omega)] at hd
  have ek : (-1074 + ((E : Int) - 1)) = -((1075 - E : Nat) : Int) := by omega
  rw [ek, Nat.add_comm 4503599627370496 f] at hd
  have p1 : (2 : Nat) ^ 44 ≤ 2 ^ (1075 - E) := Nat.pow_le_pow_right (by decide) (by omega)
  have p2 : (2 : Nat) ^ (1075 - E) ≤ 2 ^ 52 := Nat.pow_le_pow_right (by decide) (by omega)
  have e44 : (2 : Nat) ^ 44 = 17592186044416 := by decide
  have e52 : (2 : Nat) ^ 52 = 4503599627370496 := by decide
  generalize hk : 1075 - E = k at *
  have pp := Nat.two_pow_pos k
  have up : (f + 4503599627370496) / 2 ^ k < 512 := by
    rw [Nat.div_lt_iff_lt_mul pp]
    omega
  have lo : 0 < (f + 4503599627370496) / 2 ^ k := Nat.div_pos (by omega) pp
  by_cases c5 : (f + 4503599627370496) % 2 ^ k = 0
  · rw [if_pos c5]
    have dm := Nat.div_add_mod (f + 4503599627370496) (2 ^ k)
    rw [c5, Nat.add_zero, Nat.mul_comm] at dm
    generalize (f + 4503599627370496) / 2 ^ k = w at *
    have tw : (nI w).toInt = (w : Int) := Int32.toInt_ofNat_of_lt (by omega)
    rcases sb with s0 | s0
    · rw [if_pos s0]
      rw [s0] at hd
      refine RD_wh ?_
      rw [hN, hd, tw]
      exact ⟨_, _, k, rfl, by rw [← dm]; simp, fun _ => by simp⟩
    · rw [if_neg (by omega)]
      rw [s0] at hd
      refine RD_wh ?_
      have tn : (-nI w).toInt = -(w : Int) := by
        have : -nI w = Int32.ofInt (-(w : Int)) := by
          rw [Int32.ofInt_neg, Int32.ofInt_eq_ofNat, nI]
        rw [this]
        exact i32_T (by omega)
      rw [hN, hd, tn]
      refine ⟨_, _, k, rfl, by rw [← dm]; simp, fun _ => ?_⟩
      simp [lo]
  · rw [if_neg c5]
    refine RD_no (gd_frac (k := k) (by rw [hN]; exact hd) c5 (by omega))
theorem wob_RD {d : UInt64} : RD (wob d.toNat) d := by
  have hn : d.toNat < 18446744073709551616 := d.toNat_lt
  have hd := fp_dec (n := d.toNat)
  have sg : d.toNat / 4503599627370496 / 2048 = d.toNat / 9223372036854775808 := by omega
  rw [sg] at hd
  exact wobF_RD rfl hd (Nat.mod_lt _ (by decide)) (Nat.mod_lt _ (by decide)) (by omega)
