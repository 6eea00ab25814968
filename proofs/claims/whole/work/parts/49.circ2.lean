/-! CIRCLES: the greatest of the least circles of pairs and threes has no point outside -/
section CircB
variable {X Y : Nat → Int}
theorem cone (x1 x2 y1 y2 q1 q2 : Int) : cr2 x1 x2 y1 y2 * q1 = cr2 q1 q2 y1 y2 * x1 + cr2 x1 x2 q1 q2 * y1 ∧ cr2 x1 x2 y1 y2 * q2 = cr2 q1 q2 y1 y2 * x2 + cr2 x1 x2 q1 q2 * y2 := by
  unfold cr2
  constructor <;> grind
theorem cr2_a (a b c d : Int) : cr2 c d a b = - cr2 a b c d := by
  unfold cr2
  grind
/-- a point outside whose way from the middle is away from two points on the circle: a circle round the three is greater -/
theorem better2 {c : Nat} {b b' : B3} {x y q : Nat} (h : VB X Y c b) (h' : VB X Y c b') (hx : oB X Y b x = 0) (hy : oB X Y b y = 0) (hq : 0 < oB X Y b q) (ex : oB X Y b' x ≤ 0) (ey : oB X Y b' y ≤ 0) (eq : oB X Y b' q ≤ 0) (t0 : 0 < cr2 (uX X Y b x) (uY X Y b x) (uX X Y b y) (uY X Y b y)) (t1 : 0 ≤ cr2 (uX X Y b q) (uY X Y b q) (uX X Y b x) (uY X Y b x)) (t2 : cr2 (uX X Y b q) (uY X Y b q) (uX X Y b y) (uY X Y b y) ≤ 0) : rN X Y b * rD X Y b' < rN X Y b' * rD X Y b := by
  rcases Int.lt_or_le (rN X Y b * rD X Y b') (rN X Y b' * rD X Y b) with z | z
  · exact z
  exfalso
  have a1 := tc_on h h' z hx ex
  have a2 := tc_on h h' z hy ey
  have a3 := tc_out h h' z hq eq
  have w0 := ww_pos (X := X) (Y := Y) b b'
  have s2 := cms_pos h'
  obtain ⟨k1, k2⟩ := cone (uX X Y b x) (uY X Y b x) (uX X Y b y) (uY X Y b y) (uX X Y b q) (uY X Y b q)
  have t3 : cr2 (uX X Y b x) (uY X Y b x) (uX X Y b q) (uY X Y b q) ≤ 0 := by rw [cr2_a]; omega
  have p1 : 0 ≤ 2 * cms X Y b' * uW X Y b b' x := by omega
  have p2 : 0 ≤ 2 * cms X Y b' * uW X Y b b' y := by omega
  have p3 : 0 < 2 * cms X Y b' * uW X Y b b' q := by omega
  have e : cr2 (uX X Y b x) (uY X Y b x) (uX X Y b y) (uY X Y b y) * (2 * cms X Y b' * uW X Y b b' q) = cr2 (uX X Y b q) (uY X Y b q) (uX X Y b y) (uY X Y b y) * (2 * cms X Y b' * uW X Y b b' x) + cr2 (uX X Y b x) (uY X Y b x) (uX X Y b q) (uY X Y b q) * (2 * cms X Y b' * uW X Y b b' y) := by
    unfold uW
    generalize cr2 (uX X Y b x) (uY X Y b x) (uX X Y b y) (uY X Y b y) = t at *
    generalize cr2 (uX X Y b q) (uY X Y b q) (uX X Y b y) (uY X Y b y) = l at *
    generalize cr2 (uX X Y b x) (uY X Y b x) (uX X Y b q) (uY X Y b q) = m at *
    generalize 2 * cms X Y b' = s at *
    generalize wX X Y b b' = w1
    generalize wY X Y b b' = w2
    have j1 : t * (s * (uX X Y b q * w1 + uY X Y b q * w2)) = s * ((t * uX X Y b q) * w1 + (t * uY X Y b q) * w2) := by grind
    rw [j1, k1, k2]
    grind
  have f1 := Int.mul_pos t0 p3
  have f2 : cr2 (uX X Y b q) (uY X Y b q) (uX X Y b y) (uY X Y b y) * (2 * cms X Y b' * uW X Y b b' x) ≤ 0 := Int.mul_nonpos_of_nonpos_of_nonneg t2 p1
  have f3 : cr2 (uX X Y b x) (uY X Y b x) (uX X Y b q) (uY X Y b q) * (2 * cms X Y b' * uW X Y b b' y) ≤ 0 := Int.mul_nonpos_of_nonpos_of_nonneg t3 p2
  omega
theorem betterP {c : Nat} {b' : B3} {i k q : Nat} (h : VB X Y c (i, i, k)) (h' : VB X Y c b') (hq : 0 < oB X Y (i, i, k) q) (ei : oB X Y b' i ≤ 0) (ek : oB X Y b' k ≤ 0) (eq : oB X Y b' q ≤ 0) : rN X Y (i, i, k) * rD X Y b' < rN X Y b' * rD X Y (i, i, k) := by
  rcases Int.lt_or_le (rN X Y (i, i, k) * rD X Y b') (rN X Y b' * rD X Y (i, i, k)) with z | z
  · exact z
  exfalso
  have oi : oB X Y (i, i, k) i = 0 := by rw [oP]; unfold dt; grind
  have ok : oB X Y (i, i, k) k = 0 := by rw [oP]; unfold dt; grind
  have a1 := tc_on h h' z oi ei
  have a2 := tc_on h h' z ok ek
  have a3 := tc_out h h' z hq eq
  have w0 := ww_pos (X := X) (Y := Y) (i, i, k) b'
  have u1 : uX X Y (i, i, k) k = - uX X Y (i, i, k) i := by unfold uX cms cmx; simp only [if_true]; omega
  have u2 : uY X Y (i, i, k) k = - uY X Y (i, i, k) i := by unfold uY cms cmy; simp only [if_true]; omega
  have e : 2 * cms X Y b' * uW X Y (i, i, k) b' k = - (2 * cms X Y b' * uW X Y (i, i, k) b' i) := by
    unfold uW
    rw [u1, u2]
    grind
  have wz : ww X Y (i, i, k) b' = 0 := by omega
  have s1 := sq_pos (wX X Y (i, i, k) b')
  have s2 := sq_pos (wY X Y (i, i, k) b')
  unfold ww at wz
  have x0 : wX X Y (i, i, k) b' = 0 := (Int.mul_eq_zero.mp (show wX X Y (i, i, k) b' * wX X Y (i, i, k) b' = 0 by omega)).elim id id
  have y0 : wY X Y (i, i, k) b' = 0 := (Int.mul_eq_zero.mp (show wY X Y (i, i, k) b' * wY X Y (i, i, k) b' = 0 by omega)).elim id id
  have f : uW X Y (i, i, k) b' q = 0 := by
    unfold uW
    rw [x0, y0]
    omega
  rw [f, Int.mul_zero] at a3
  omega
/-- a basis that has a point outside isn't the greatest -/
theorem better {c : Nat} {b : B3} {q : Nat} (h : VB X Y c b) (hqc : q < c) (hq : 0 < oB X Y b q) : ∃ b', VB X Y c b' ∧ rN X Y b * rD X Y b' < rN X Y b' * rD X Y b := by
  obtain ⟨i, j, k⟩ := b
  obtain ⟨h1, h2, h3, h4⟩ := id h
  simp only at h1 h2 h3 h4
  rcases h4 with ⟨e, ne⟩ | ⟨nij, t, d1, d2, d3⟩
  · subst e
    have oi : oB X Y (i, i, k) i = 0 := by rw [oP]; unfold dt; grind
    have ok : oB X Y (i, i, k) k = 0 := by rw [oP]; unfold dt; grind
    have n1 : i ≠ q := fun z => by rw [z] at oi; rw [← z] at hq; rw [z] at hq; omega
    have n2 : k ≠ q := fun z => by rw [z] at ok hq; omega
    obtain ⟨b', v, e1, e2, e3⟩ := three (X := X) (Y := Y) h1 h3 hqc ne n2 n1
    exact ⟨b', v, betterP h v hq e1 e2 e3⟩
  · have oi : oB X Y (i, j, k) i = 0 := by rw [oT nij]; have := Fo_i (X := X) (Y := Y) i j k; unfold Fo at this; omega
    have oj : oB X Y (i, j, k) j = 0 := by rw [oT nij]; have := Fo_j (X := X) (Y := Y) i j k; unfold Fo at this; omega
    have ok : oB X Y (i, j, k) k = 0 := by rw [oT nij]; have := Fo_k (X := X) (Y := Y) i j k; unfold Fo at this; omega
    have nq : ∀ x, oB X Y (i, j, k) x = 0 → x ≠ q := fun x hx z => by rw [z] at hx; omega
    have nik : i ≠ k := fun z => by
      rw [z] at d2
      unfold dt at d1 d2
      rw [z] at d1
      rw [show X k - X k = 0 by omega, show Y k - Y k = 0 by omega, Int.mul_zero, Int.mul_zero] at d1
      omega
    have njk : j ≠ k := fun z => by
      rw [z] at t
      unfold tn at t
      have : (X k - X i) * (Y k - Y i) - (Y k - Y i) * (X k - X i) = 0 := by grind
      omega
    have sp : ∀ x y, 0 ≤ sq X Y x y := fun x y => by
      have a := sq_pos (X y - X x)
      have b := sq_pos (Y y - Y x)
      unfold sq
      omega
    have s1 : 0 < sq X Y i j := by rw [dt_sum] at d2; omega
    have s2 : 0 < sq X Y i k := by rw [dt_sum2] at d3; omega
    have s3 : 0 < sq X Y j k := by
      have e : sq X Y j k = dt X Y j k i + dt X Y k i j := by unfold sq dt; grind
      omega
    have g1 : 0 < cr2 (uX X Y (i, j, k) i) (uY X Y (i, j, k) i) (uX X Y (i, j, k) j) (uY X Y (i, j, k) j) := by
      rw [cross_ab nij]
      exact Int.mul_pos (by omega) (Int.mul_pos s1 d3)
    have g2 : 0 < cr2 (uX X Y (i, j, k) j) (uY X Y (i, j, k) j) (uX X Y (i, j, k) k) (uY X Y (i, j, k) k) := by
      rw [cross_bc nij]
      exact Int.mul_pos (by omega) (Int.mul_pos s3 d1)
    have g3 : 0 < cr2 (uX X Y (i, j, k) k) (uY X Y (i, j, k) k) (uX X Y (i, j, k) i) (uY X Y (i, j, k) i) := by
      rw [cross_ca nij]
      exact Int.mul_pos (by omega) (Int.mul_pos s2 d2)
    have sum : cr2 (uX X Y (i, j, k) j) (uY X Y (i, j, k) j) (uX X Y (i, j, k) k) (uY X Y (i, j, k) k) * cr2 (uX X Y (i, j, k) q) (uY X Y (i, j, k) q) (uX X Y (i, j, k) i) (uY X Y (i, j, k) i) + cr2 (uX X Y (i, j, k) k) (uY X Y (i, j, k) k) (uX X Y (i, j, k) i) (uY X Y (i, j, k) i) * cr2 (uX X Y (i, j, k) q) (uY X Y (i, j, k) q) (uX X Y (i, j, k) j) (uY X Y (i, j, k) j) + cr2 (uX X Y (i, j, k) i) (uY X Y (i, j, k) i) (uX X Y (i, j, k) j) (uY X Y (i, j, k) j) * cr2 (uX X Y (i, j, k) q) (uY X Y (i, j, k) q) (uX X Y (i, j, k) k) (uY X Y (i, j, k) k) = 0 := by
      unfold cr2
      grind
    have go : ∀ x y, x < c → y < c → x ≠ y → oB X Y (i, j, k) x = 0 → oB X Y (i, j, k) y = 0 → 0 < cr2 (uX X Y (i, j, k) x) (uY X Y (i, j, k) x) (uX X Y (i, j, k) y) (uY X Y (i, j, k) y) → 0 ≤ cr2 (uX X Y (i, j, k) q) (uY X Y (i, j, k) q) (uX X Y (i, j, k) x) (uY X Y (i, j, k) x) → cr2 (uX X Y (i, j, k) q) (uY X Y (i, j, k) q) (uX X Y (i, j, k) y) (uY X Y (i, j, k) y) ≤ 0 → ∃ b', VB X Y c b' ∧ rN X Y (i, j, k) * rD X Y b' < rN X Y b' * rD X Y (i, j, k) := by
      intro x y hx hy nxy ox oy t0 t1 t2
      obtain ⟨b', v, e1, e2, e3⟩ := three (X := X) (Y := Y) hx hy hqc nxy (nq y oy) (nq x ox)
      exact ⟨b', v, better2 h v ox oy hq e1 e2 e3 t0 t1 t2⟩
    generalize ha : cr2 (uX X Y (i, j, k) q) (uY X Y (i, j, k) q) (uX X Y (i, j, k) i) (uY X Y (i, j, k) i) = A at *
    generalize hb : cr2 (uX X Y (i, j, k) q) (uY X Y (i, j, k) q) (uX X Y (i, j, k) j) (uY X Y (i, j, k) j) = B at *
    generalize hc : cr2 (uX X Y (i, j, k) q) (uY X Y (i, j, k) q) (uX X Y (i, j, k) k) (uY X Y (i, j, k) k) = C at *
    have goij := go i j h1 h2 nij oi oj g1
    have gojk := go j k h2 h3 njk oj ok g2
    have goki := go k i h3 h1 (fun z => nik z.symm) ok oi g3
    rw [ha, hb] at goij
    rw [hb, hc] at gojk
    rw [hc, ha] at goki
    by_cases a0 : 0 ≤ A
    · by_cases b0 : B ≤ 0
      · exact goij a0 b0
      · by_cases c0 : C ≤ 0
        · exact gojk (by omega) c0
        · by_cases a1 : A ≤ 0
          · exact goki (by omega) a1
          · exfalso
            have m1 := Int.mul_pos g2 (show 0 < A by omega)
            have m2 := Int.mul_pos g3 (show 0 < B by omega)
            have m3 := Int.mul_pos g1 (show 0 < C by omega)
            omega
    · by_cases c0 : 0 ≤ C
      · exact goki c0 (by omega)
      · by_cases b0 : 0 ≤ B
        · exact gojk b0 (by omega)
        · exfalso
          have m1 := Int.mul_neg_of_pos_of_neg g2 (show A < 0 by omega)
          have m2 := Int.mul_neg_of_pos_of_neg g3 (show B < 0 by omega)
          have m3 := Int.mul_neg_of_pos_of_neg g1 (show C < 0 by omega)
          omega
/-- the greatest of a list -/
theorem max_of {α : Type} {V : α → Prop} {le : α → α → Prop} (tot : ∀ a b, V a → V b → le a b ∨ le b a) (tr : ∀ a b d, V a → V b → V d → le a b → le b d → le a d) : ∀ l : List α, (∃ b, b ∈ l ∧ V b) → ∃ b, b ∈ l ∧ V b ∧ ∀ b', b' ∈ l → V b' → le b' b := by
  intro l
  induction l with
  | nil => rintro ⟨b, hb, -⟩; cases hb
  | cons a l ih =>
    intro _
    by_cases ha : V a
    · by_cases hl : ∃ b, b ∈ l ∧ V b
      · obtain ⟨b, b1, b2, b3⟩ := ih hl
        rcases tot a b ha b2 with q | q
        · refine ⟨b, List.mem_cons_of_mem _ b1, b2, fun b' hb' hv => ?_⟩
          rcases List.mem_cons.mp hb' with rfl | hm
          · exact q
          · exact b3 b' hm hv
        · refine ⟨a, List.mem_cons_self, ha, fun b' hb' hv => ?_⟩
          rcases List.mem_cons.mp hb' with rfl | hm
          · exact (tot b' b' ha ha).elim id id
          · exact tr _ _ _ hv b2 ha (b3 b' hm hv) q
      · refine ⟨a, List.mem_cons_self, ha, fun b' hb' hv => ?_⟩
        rcases List.mem_cons.mp hb' with rfl | hm
        · exact (tot b' b' ha ha).elim id id
        · exact absurd ⟨b', hm, hv⟩ hl
    · rename_i h0
      obtain ⟨b0, b1, b2⟩ := h0
      have hl : ∃ b, b ∈ l ∧ V b := by
        rcases List.mem_cons.mp b1 with rfl | hm
        · exact absurd b2 ha
        · exact ⟨b0, hm, b2⟩
      obtain ⟨b, d1, d2, d3⟩ := ih hl
      refine ⟨b, List.mem_cons_of_mem _ d1, d2, fun b' hb' hv => ?_⟩
      rcases List.mem_cons.mp hb' with rfl | hm
      · exact absurd hv ha
      · exact d3 b' hm hv
theorem rD_pos {c : Nat} {b : B3} (h : VB X Y c b) : 0 < rD X Y b := Int.mul_pos (cms_pos h) (cms_pos h)
theorem least_circle {c : Nat} (h2 : 2 ≤ c) : ∃ b, VB X Y c b ∧ ∀ p, p < c → oB X Y b p ≤ 0 := by
  have mem : ∀ b : B3, b.1 < c → b.2.1 < c → b.2.2 < c → b ∈ (List.range c).flatMap (fun i => (List.range c).flatMap (fun j => (List.range c).map (fun k => (i, j, k)))) := by
    rintro ⟨i, j, k⟩ h1 h2 h3
    exact List.mem_flatMap.mpr ⟨i, List.mem_range.mpr h1, List.mem_flatMap.mpr ⟨j, List.mem_range.mpr h2, List.mem_map.mpr ⟨k, List.mem_range.mpr h3, rfl⟩⟩⟩
  obtain ⟨b, -, b2, b3⟩ := max_of (V := VB X Y c) (le := fun b' b => rN X Y b' * rD X Y b ≤ rN X Y b * rD X Y b') (fun a b _ _ => Int.le_total _ _) (fun a b d ha hb hd l1 l2 => by
    have p1 := rD_pos ha
    have p2 := rD_pos hb
    have p3 := rD_pos hd
    have m1 := Int.mul_le_mul_of_nonneg_right l1 (Int.le_of_lt p3)
    have m2 := Int.mul_le_mul_of_nonneg_right l2 (Int.le_of_lt p1)
    have e1 : rN X Y a * rD X Y b * rD X Y d = rN X Y a * rD X Y d * rD X Y b := by ac_rfl
    have e2 : rN X Y b * rD X Y a * rD X Y d = rN X Y b * rD X Y d * rD X Y a := by ac_rfl
    have e3 : rN X Y d * rD X Y b * rD X Y a = rN X Y d * rD X Y a * rD X Y b := by ac_rfl
    exact Int.le_of_mul_le_mul_right (show rN X Y a * rD X Y d * rD X Y b ≤ rN X Y d * rD X Y a * rD X Y b by omega) p2) _ ⟨(0, 0, 1), mem _ (by show 0 < c; omega) (by show 0 < c; omega) (by show 1 < c; omega), ⟨by show 0 < c; omega, by show 0 < c; omega, by show 1 < c; omega, Or.inl ⟨rfl, by decide⟩⟩⟩
  refine ⟨b, b2, fun p hp => ?_⟩
  rcases Int.lt_or_le 0 (oB X Y b p) with z | z
  · obtain ⟨b', v, w⟩ := better b2 hp z
    have := b3 b' (mem b' v.1 v.2.1 v.2.2.1) v
    omega
  · exact z
/-- what the class asks of three points, in any order of them -/
def sh3 (X Y : Nat → Int) (i j k : Nat) : Prop := 0 < dt X Y i j k ∧ 0 < dt X Y j k i ∧ 0 < dt X Y k i j
def en3 (X Y : Nat → Int) (c i j k : Nat) : Prop := ∀ p, p < c → tn X Y i j k * Fo X Y i j k p ≤ 0
theorem sh3_rot {i j k : Nat} (h : sh3 X Y i j k) : sh3 X Y j k i := ⟨h.2.1, h.2.2, h.1⟩
theorem sh3_sw {i j k : Nat} (h : sh3 X Y i j k) : sh3 X Y i k j := ⟨by rw [dt_s]; exact h.1, by rw [dt_s]; exact h.2.2, by rw [dt_s]; exact h.2.1⟩
theorem en3_rot {c i j k : Nat} (h : en3 X Y c i j k) : en3 X Y c j k i := fun p hp => by rw [tn_rot, Fo_rot]; exact h p hp
theorem en3_sw {c i j k : Nat} (h : en3 X Y c i j k) : en3 X Y c i k j := fun p hp => by rw [tn_swap, Fo_swap, Int.neg_mul_neg]; exact h p hp
theorem exists_circle {c : Nat} (h2 : 2 ≤ c) : (∃ i k, i < k ∧ k < c ∧ ∀ p, p < c → dt X Y p i k ≤ 0) ∨ (∃ i j k, i < j ∧ j < k ∧ k < c ∧ sh3 X Y i j k ∧ en3 X Y c i j k) := by
  obtain ⟨⟨i, j, k⟩, ⟨h1, h2, h3, h4⟩, he⟩ := least_circle (X := X) (Y := Y) h2
  simp only at h1 h2 h3 h4
  rcases h4 with ⟨e, ne⟩ | ⟨nij, t, d1, d2, d3⟩
  · subst e
    left
    rcases Nat.lt_or_gt_of_ne ne with q | q
    · exact ⟨i, k, q, h3, fun p hp => by have := he p hp; rw [oP] at this; omega⟩
    · exact ⟨k, i, q, h1, fun p hp => by have := he p hp; rw [oP] at this; rw [dt_s]; omega⟩
  · right
    have hs : sh3 X Y i j k := ⟨d1, d2, d3⟩
    have hn : en3 X Y c i j k := fun p hp => by
      have := he p hp
      rw [oT nij] at this
      have f : Fo X Y i j k p ≤ 0 := by unfold Fo; omega
      exact Int.mul_nonpos_of_nonneg_of_nonpos (by omega) f
    have nik : i ≠ k := fun z => by
      rw [z] at t
      unfold tn at t
      rw [show X k - X k = 0 by omega, show Y k - Y k = 0 by omega, Int.mul_zero, Int.mul_zero] at t
      omega
    have njk : j ≠ k := fun z => by
      rw [z] at t
      unfold tn at t
      have : (X k - X i) * (Y k - Y i) - (Y k - Y i) * (X k - X i) = 0 := by grind
      omega
    rcases Nat.lt_or_gt_of_ne nij with a | a
    · rcases Nat.lt_or_gt_of_ne njk with b | b
      · exact ⟨i, j, k, a, b, h3, hs, hn⟩
      · rcases Nat.lt_or_gt_of_ne nik with d | d
        · exact ⟨i, k, j, d, b, h2, sh3_sw hs, en3_sw hn⟩
        · exact ⟨k, i, j, d, a, h2, sh3_rot (sh3_rot hs), en3_rot (en3_rot hn)⟩
    · rcases Nat.lt_or_gt_of_ne nik with d | d
      · exact ⟨j, i, k, a, d, h3, sh3_sw (sh3_rot hs), en3_sw (en3_rot hn)⟩
      · rcases Nat.lt_or_gt_of_ne njk with b | b
        · exact ⟨j, k, i, b, d, h1, sh3_rot hs, en3_rot hn⟩
        · exact ⟨k, j, i, b, a, h1, sh3_sw (sh3_rot (sh3_rot hs)), en3_sw (en3_rot (en3_rot hn))⟩
/-- a right angle: the pair over it tells the circle -/
theorem Fo_right (i j k p : Nat) : Fo X Y i j k p = tn X Y i j k * dt X Y p j k + dt X Y i j k * ((X p - X i) * (Y k - Y j) + (Y p - Y i) * (X j - X k) - tn X Y i j k) := by
  unfold Fo tn mX0 mY0 sq dt
  generalize X i = a
  generalize X j = b
  generalize X k = d
  generalize X p = e
  generalize Y i = a'
  generalize Y j = b'
  generalize Y k = d'
  generalize Y p = e'
  grind
theorem right_pair {c i j k : Nat} (ht : tn X Y i j k ≠ 0) (h0 : dt X Y i j k = 0) (he : en3 X Y c i j k) : ∀ p, p < c → dt X Y p j k ≤ 0 := by
  intro p hp
  have := he p hp
  rw [Fo_right, h0, Int.zero_mul, Int.add_zero, ← Int.mul_assoc] at this
  have tp : 0 < tn X Y i j k * tn X Y i j k := by
    rcases Int.lt_or_gt_of_ne ht with q | q
    · exact Int.mul_pos_of_neg_of_neg q q
    · exact Int.mul_pos q q
  rcases Int.lt_or_le 0 (dt X Y p j k) with z | z
  · have := Int.mul_pos tp z
    omega
  · exact z
/-- how great a sharp triangle's circle is -/
theorem m_sq (i j k : Nat) : mX0 X Y i j k * mX0 X Y i j k + mY0 X Y i j k * mY0 X Y i j k = sq X Y i j * sq X Y i k * sq X Y j k := by
  unfold mX0 mY0 sq
  generalize X i = a
  generalize X j = b
  generalize X k = d
  generalize Y i = a'
  generalize Y j = b'
  generalize Y k = d'
  grind
theorem sharp_lev {i j k : Nat} {M : Int} (hs : sh3 X Y i j k) (b1 : sq X Y i j ≤ M) (b2 : sq X Y i k ≤ M) (b3 : sq X Y j k ≤ M) : mX0 X Y i j k * mX0 X Y i j k + mY0 X Y i j k * mY0 X Y i j k ≤ M * (4 * (tn X Y i j k * tn X Y i j k)) := by
  obtain ⟨d1, d2, d3⟩ := hs
  rw [m_sq, tn_sq]
  have eA : sq X Y j k = sq X Y i j + sq X Y i k - 2 * dt X Y i j k := by unfold sq dt; grind
  rw [dt_sum] at d2
  rw [dt_sum2] at d3
  rw [eA] at b3 ⊢
  generalize sq X Y i j = B at *
  generalize sq X Y i k = C at *
  generalize dt X Y i j k = p at *
  have hB : 0 < B := by omega
  have hC : 0 < C := by omega
  have hBC := Int.mul_pos hB hC
  have hA : 0 < B + C - 2 * p := by omega
  by_cases c1 : 4 * (p * p) ≤ 3 * (B * C)
  · have k1 : B * C ≤ 4 * (B * C - p * p) := by omega
    have k2 := Int.mul_le_mul_of_nonneg_left k1 (Int.le_of_lt hA)
    have k3 : (B + C - 2 * p) * (4 * (B * C - p * p)) ≤ M * (4 * (B * C - p * p)) := Int.mul_le_mul_of_nonneg_right b3 (by omega)
    have e : B * C * (B + C - 2 * p) = (B + C - 2 * p) * (B * C) := Int.mul_comm _ _
    omega
  · by_cases c2 : 4 * ((B - p) * (B - p)) ≤ 3 * ((B + C - 2 * p) * B)
    · have e1 : B * C - p * p = (B + C - 2 * p) * B - (B - p) * (B - p) := by grind
      have k1 : (B + C - 2 * p) * B ≤ 4 * (B * C - p * p) := by omega
      have k2 := Int.mul_le_mul_of_nonneg_left k1 (Int.le_of_lt hC)
      have q0 : 0 ≤ 4 * (B * C - p * p) := Int.le_trans (Int.le_of_lt (Int.mul_pos hA hB)) k1
      have k3 : C * (4 * (B * C - p * p)) ≤ M * (4 * (B * C - p * p)) := Int.mul_le_mul_of_nonneg_right b2 q0
      have e : B * C * (B + C - 2 * p) = C * ((B + C - 2 * p) * B) := by ac_rfl
      omega
    · by_cases c3 : 4 * ((C - p) * (C - p)) ≤ 3 * ((B + C - 2 * p) * C)
      · have e1 : B * C - p * p = (B + C - 2 * p) * C - (C - p) * (C - p) := by grind
        have k1 : (B + C - 2 * p) * C ≤ 4 * (B * C - p * p) := by omega
        have k2 := Int.mul_le_mul_of_nonneg_left k1 (Int.le_of_lt hB)
        have q0 : 0 ≤ 4 * (B * C - p * p) := Int.le_trans (Int.le_of_lt (Int.mul_pos hA hC)) k1
        have k3 : B * (4 * (B * C - p * p)) ≤ M * (4 * (B * C - p * p)) := Int.mul_le_mul_of_nonneg_right b1 q0
        have e : B * C * (B + C - 2 * p) = B * ((B + C - 2 * p) * C) := by ac_rfl
        omega
      · exfalso
        have j1 : (B - p) * (B - p) ≤ (B + C - 2 * p) * (B - p) := Int.mul_le_mul_of_nonneg_right (by omega) (by omega)
        have j2 : (C - p) * (C - p) ≤ (B + C - 2 * p) * (C - p) := Int.mul_le_mul_of_nonneg_right (by omega) (by omega)
        have j3 : (B + C - 2 * p) * (3 * B) < (B + C - 2 * p) * (4 * (B - p)) := by
          have e1 : (B + C - 2 * p) * (3 * B) = 3 * ((B + C - 2 * p) * B) := by ac_rfl
          have e2 : (B + C - 2 * p) * (4 * (B - p)) = 4 * ((B + C - 2 * p) * (B - p)) := by ac_rfl
          omega
        have j4 : (B + C - 2 * p) * (3 * C) < (B + C - 2 * p) * (4 * (C - p)) := by
          have e1 : (B + C - 2 * p) * (3 * C) = 3 * ((B + C - 2 * p) * C) := by ac_rfl
          have e2 : (B + C - 2 * p) * (4 * (C - p)) = 4 * ((B + C - 2 * p) * (C - p)) := by ac_rfl
          omega
        have j5 := Int.lt_of_mul_lt_mul_left j3 (Int.le_of_lt hA)
        have j6 := Int.lt_of_mul_lt_mul_left j4 (Int.le_of_lt hA)
        have j7 : (4 * p) * (4 * p) ≤ B * C := Int.mul_le_mul (by omega) (by omega) (by omega) (by omega)
        have e3 : (4 * p) * (4 * p) = 16 * (p * p) := by grind
        have pp := Int.mul_pos d1 d1
        omega
end CircB
