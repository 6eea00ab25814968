/-! THE RELATION of the class's numbers and the reference's -/
def nr (v : Int32) : Prop := -300 ≤ v ∧ v ≤ 300
def RPt (S T : eg_S) (k i : Nat) : Prop := (S.1 25 k i = 0 ∨ S.1 25 k i = 1) ∧ T.1 37 0 (16 * k + i) = S.1 25 k i ∧ (S.1 25 k i = 0 → T.1 34 0 (16 * k + i) = S.1 22 k i ∧ T.1 35 0 (16 * k + i) = S.1 23 k i ∧ T.1 36 0 (16 * k + i) = S.1 24 k i ∧ nr (S.1 22 k i) ∧ nr (S.1 23 k i) ∧ nr (S.1 24 k i))
def RPart (S T : eg_S) : Prop := ∀ k, k < 4 → ∃ n, n ≤ 16 ∧ S.1 26 k 0 = nI n ∧ T.1 33 0 k = nI n ∧ ∀ i, i < n → RPt S T k i
def RGrid (S T : eg_S) : Prop := ∀ c, c < 9 → S.1 0 0 c = T.1 38 0 c ∧ S.1 1 0 c = T.1 39 0 c
/-- a double that is a whole number of a point's -/
def gdD (d : UInt64) : Prop := 0 ≤ Op.cmpValue (FP.dcmp d 13867357308859711488) .l ∧ Op.cmpValue (FP.dcmp d 4643985272004935680) .g ≤ 0 ∧ Op.cmpValue (FP.dcmp d (FP.i2d (FP.d2i d))) .l = 0
/-- what the class keeps of a double -/
def RD (v : Int32) (d : UInt64) : Prop := (gdD d ↔ nr v) ∧ (gdD d → v = FP.d2i d)
def RSheet (S T : eg_S) : Prop := ∀ s, s < 4 → ∃ q n, q < 4 ∧ n ≤ 48 ∧ S.1 28 s 0 = nI q ∧ T.1 50 0 s = nI q ∧ S.1 29 s 0 = nI n ∧ T.1 51 0 s = nI n ∧ (q ≠ 3 → ∀ i, i < n → S.1 27 s i = T.1 52 0 (48 * s + i)) ∧ (q = 3 → ∀ i, i < n → RD (S.1 27 s i) (T.2.2 0 0 (48 * s + i)))
/-- the miss of a figure, and what a level needs of it: times 4 for a circle -/
def RLev (c : Int) (a b : Int64) : Prop := 0 ≤ a.toInt ∧ 0 < b.toInt ∧ c * a.toInt ≤ 4000000 * b.toInt ∧ 4000000 * b.toInt < 9223372036854775808
def RFig1 (S T : eg_S) (f : Nat) : Prop := ∃ q n, (q = 2 ∨ q = 3 ∨ q = 5) ∧ 0 < n ∧ n ≤ 6 ∧ S.1 31 f 0 = nI q ∧ T.1 40 0 f = nI q ∧ S.1 32 f 0 = nI n ∧ T.1 41 0 f = nI n ∧ (∀ i, i < n → S.1 30 f i = T.1 42 0 (6 * f + i)) ∧ S.2.1 18 f 0 = T.2.1 24 0 f ∧ S.2.1 19 f 0 = T.2.1 25 0 f ∧ RLev (if q = 5 then 4 else 1) (S.2.1 18 f 0) (S.2.1 19 f 0) ∧ (q ≠ 5 → ∀ j, j < 3 → S.2.1 15 f j = T.2.1 26 0 (3 * f + j) ∧ (S.2.1 15 f j).toInt.natAbs ≤ 720000) ∧ (q = 5 → S.2.1 20 f 0 = T.2.1 27 0 (4 * f) ∧ S.2.1 21 f 0 = T.2.1 27 0 (4 * f + 1) ∧ S.2.1 22 f 0 = T.2.1 27 0 (4 * f + 2) ∧ S.2.1 23 f 0 = T.2.1 27 0 (4 * f + 3))
def RFig (S T : eg_S) : Prop := ∀ f, f < 6 → (S.1 31 f 0 = -1 ∧ T.1 40 0 f = 0) ∨ RFig1 S T f
def RFrame (S T : eg_S) : Prop := (S.1 12 0 0 = 0 ∧ T.1 43 0 0 = 0) ∨ (S.1 12 0 0 = 1 ∧ T.1 43 0 0 = 1 ∧ (∀ i, i < 9 → S.2.1 8 0 i = T.2.1 28 0 i) ∧ S.1 13 0 0 = T.1 44 0 0 ∧ S.1 14 0 0 = T.1 44 0 1 ∧ S.1 15 0 0 = T.1 44 0 2)
def ROutl (S T : eg_S) : Prop := ∃ n, n ≤ 10 ∧ S.1 16 0 0 = nI n ∧ T.1 45 0 0 = nI n ∧ ∀ i, i < n → S.1 17 0 i = T.1 46 0 i ∧ S.1 18 0 i = T.1 47 0 i ∧ nr (S.1 17 0 i) ∧ nr (S.1 18 0 i)
def RBox (S T : eg_S) : Prop := ∃ n, n ≤ 6 ∧ S.1 19 0 0 = nI n ∧ T.1 48 0 0 = nI n ∧ ∀ b, b < n → ∀ j, j < 3 → S.1 20 0 (3 * b + j) = T.1 49 0 (6 * b + 2 * j) ∧ S.1 21 0 (3 * b + j) = T.1 49 0 (6 * b + 2 * j + 1) ∧ nr (S.1 20 0 (3 * b + j)) ∧ nr (S.1 21 0 (3 * b + j)) ∧ S.1 20 0 (3 * b + j) < S.1 21 0 (3 * b + j)
def RFound (S T : eg_S) : Prop := S.2.1 0 0 0 = T.2.1 29 0 0
def Rel (S T : eg_S) : Prop := RPart S T ∧ RGrid S T ∧ RSheet S T ∧ RFig S T ∧ RFrame S T ∧ ROutl S T ∧ RBox S T ∧ RFound S T
/-- the registers that the relation reads: ints, longs -/
def rgI (f : Nat) : Bool := f == 0 || f == 1 || f == 22 || f == 23 || f == 24 || f == 25 || f == 26 || f == 27 || f == 28 || f == 29 || f == 30 || f == 31 || f == 32 || f == 12 || f == 13 || f == 14 || f == 15 || f == 16 || f == 17 || f == 18 || f == 19 || f == 20 || f == 21
def rgL (f : Nat) : Bool := f == 0 || f == 18 || f == 19 || f == 20 || f == 21 || f == 22 || f == 23 || f == 15 || f == 8
def mgI (f : Nat) : Bool := f == 33 || f == 34 || f == 35 || f == 36 || f == 37 || f == 38 || f == 39 || f == 40 || f == 41 || f == 42 || f == 43 || f == 44 || f == 45 || f == 46 || f == 47 || f == 48 || f == 49 || f == 50 || f == 51 || f == 52
def mgL (f : Nat) : Bool := f == 24 || f == 25 || f == 26 || f == 27 || f == 28 || f == 29
/-- the same but for what is only used inside a call -/
def sameX (S S' : eg_S) : Prop := (∀ f k, rgI f = true → S'.1 f k = S.1 f k) ∧ (∀ f k, rgL f = true → S'.2.1 f k = S.2.1 f k)
def sameM (T T' : eg_S) : Prop := (∀ f k, mgI f = true → T'.1 f k = T.1 f k) ∧ (∀ f k, mgL f = true → T'.2.1 f k = T.2.1 f k) ∧ (∀ k, T'.2.2 0 k = T.2.2 0 k)
theorem sameX.rf (S : eg_S) : sameX S S := ⟨fun _ _ _ => rfl, fun _ _ _ => rfl⟩
theorem sameM.rf (S : eg_S) : sameM S S := ⟨fun _ _ _ => rfl, fun _ _ _ => rfl, fun _ => rfl⟩
theorem sameX.tr {S S1 S2 : eg_S} (h1 : sameX S S1) (h2 : sameX S1 S2) : sameX S S2 := ⟨fun f k h => (h2.1 f k h).trans (h1.1 f k h), fun f k h => (h2.2 f k h).trans (h1.2 f k h)⟩
theorem sameM.tr {S S1 S2 : eg_S} (h1 : sameM S S1) (h2 : sameM S1 S2) : sameM S S2 := ⟨fun f k h => (h2.1 f k h).trans (h1.1 f k h), fun f k h => (h2.2.1 f k h).trans (h1.2.1 f k h), fun k => (h2.2.2 k).trans (h1.2.2 k)⟩
theorem sameX.I {S : eg_S} {f k : Nat} {g : Nat → Int32} (hf : rgI f = false) : sameX S (sI S f k g) := by
  refine ⟨fun f1 k1 h1 => ?_, fun _ _ _ => rfl⟩
  rw [rd_I, if_neg]
  rintro ⟨rfl, -⟩
  rw [hf] at h1
  cases h1
theorem sameX.L {S : eg_S} {f k : Nat} {g : Nat → Int64} (hf : rgL f = false) : sameX S (sL S f k g) := by
  refine ⟨fun _ _ _ => rfl, fun f1 k1 h1 => ?_⟩
  rw [rd_L, if_neg]
  rintro ⟨rfl, -⟩
  rw [hf] at h1
  cases h1
theorem sameM.I {S : eg_S} {f k : Nat} {g : Nat → Int32} (hf : mgI f = false) : sameM S (sI S f k g) := by
  refine ⟨fun f1 k1 h1 => ?_, fun _ _ _ => rfl, fun _ => rfl⟩
  rw [rd_I, if_neg]
  rintro ⟨rfl, -⟩
  rw [hf] at h1
  cases h1
theorem sameM.L {S : eg_S} {f k : Nat} {g : Nat → Int64} (hf : mgL f = false) : sameM S (sL S f k g) := by
  refine ⟨fun _ _ _ => rfl, fun f1 k1 h1 => ?_, fun _ => rfl⟩
  rw [rd_L, if_neg]
  rintro ⟨rfl, -⟩
  rw [hf] at h1
  cases h1
set_option maxHeartbeats 1000000 in
theorem Rel.X {S S' T : eg_S} (R : Rel S T) (h : sameX S S') : Rel S' T := by
  obtain ⟨h1, h2⟩ := h
  simp only [Rel, RPart, RPt, RGrid, RSheet, RFig, RFig1, RFrame, ROutl, RBox, RFound] at R ⊢
  simp only [h1 0 _ rfl, h1 1 _ rfl, h1 22 _ rfl, h1 23 _ rfl, h1 24 _ rfl, h1 25 _ rfl, h1 26 _ rfl, h1 27 _ rfl, h1 28 _ rfl, h1 29 _ rfl, h1 30 _ rfl, h1 31 _ rfl, h1 32 _ rfl, h1 12 _ rfl, h1 13 _ rfl, h1 14 _ rfl, h1 15 _ rfl, h1 16 _ rfl, h1 17 _ rfl, h1 18 _ rfl, h1 19 _ rfl, h1 20 _ rfl, h1 21 _ rfl, h2 0 _ rfl, h2 18 _ rfl, h2 19 _ rfl, h2 20 _ rfl, h2 21 _ rfl, h2 22 _ rfl, h2 23 _ rfl, h2 15 _ rfl, h2 8 _ rfl]
  exact R
set_option maxHeartbeats 1000000 in
theorem Rel.M {S T T' : eg_S} (R : Rel S T) (h : sameM T T') : Rel S T' := by
  obtain ⟨h1, h2, h3⟩ := h
  simp only [Rel, RPart, RPt, RGrid, RSheet, RFig, RFig1, RFrame, ROutl, RBox, RFound] at R ⊢
  simp only [h1 33 _ rfl, h1 34 _ rfl, h1 35 _ rfl, h1 36 _ rfl, h1 37 _ rfl, h1 38 _ rfl, h1 39 _ rfl, h1 40 _ rfl, h1 41 _ rfl, h1 42 _ rfl, h1 43 _ rfl, h1 44 _ rfl, h1 45 _ rfl, h1 46 _ rfl, h1 47 _ rfl, h1 48 _ rfl, h1 49 _ rfl, h1 50 _ rfl, h1 51 _ rfl, h1 52 _ rfl, h2 24 _ rfl, h2 25 _ rfl, h2 26 _ rfl, h2 27 _ rfl, h2 28 _ rfl, h2 29 _ rfl, h3]
  exact R
/-- one call of both: the same answer, and the relation behind it -/
def Step (nx nm : Nat) (as : List Value) (S T : eg_S) : Prop := ∃ (r : Int64) (S' T' : eg_S), Rel S' T' ∧ (∀ Q : Option Value → List eg_E → Prop, Q (some (.long r)) (WX S' (WM T)) → eg_Runs nx (.ref 1 :: as) (WX S (WM T)) Q) ∧ (∀ Q : Option Value → List eg_E → Prop, Q (some (.long r)) (WX S' (WM T')) → eg_Runs nm (.ref 96 :: as) (WX S' (WM T)) Q)
theorem Rel.found {S T : eg_S} (R : Rel S T) : Rel (xF S) (mF T) := by
  obtain ⟨r1, r2, r3, r4, r5, r6, r7, r8⟩ := R
  refine ⟨r1, r2, r3, r4, r5, r6, r7, ?_⟩
  unfold RFound at r8 ⊢
  unfold xF mF
  rw [rd_L, rd_L, if_pos ⟨rfl, rfl⟩, if_pos ⟨rfl, rfl⟩, r8]
/-- a finding on both sides -/
theorem Step.fnd {nx nm : Nat} {as : List Value} {S T : eg_S} (v : Int64) (R : Rel S T) (hx : ∀ Q : Option Value → List eg_E → Prop, Q (some (.long v)) (WX (xF S) (WM T)) → eg_Runs nx (.ref 1 :: as) (WX S (WM T)) Q) (hm : ∀ (S : eg_S) (Q : Option Value → List eg_E → Prop), Q (some (.long v)) (WX S (WM (mF T))) → eg_Runs nm (.ref 96 :: as) (WX S (WM T)) Q) : Step nx nm as S T := ⟨v, xF S, mF T, R.found, hx, fun Q => hm _ Q⟩
