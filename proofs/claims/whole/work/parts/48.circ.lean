/-! CIRCLES, in whole numbers: of points not all at one place the least circle is told by a pair or by three in a sharp triangle -/
section CircZ
variable {X Y : Nat → Int}
def dt (X Y : Nat → Int) (i j k : Nat) : Int := (X j - X i) * (X k - X i) + (Y j - Y i) * (Y k - Y i)
def tn (X Y : Nat → Int) (i j k : Nat) : Int := (X j - X i) * (Y k - Y i) - (Y j - Y i) * (X k - X i)
def sq (X Y : Nat → Int) (i j : Nat) : Int := (X j - X i) * (X j - X i) + (Y j - Y i) * (Y j - Y i)
def mX0 (X Y : Nat → Int) (i j k : Nat) : Int := (Y k - Y i) * sq X Y i j - (Y j - Y i) * sq X Y i k
def mY0 (X Y : Nat → Int) (i j k : Nat) : Int := (X j - X i) * sq X Y i k - (X k - X i) * sq X Y i j
/-- a circle: through point i, its middle from there by a scale -/
def out (X Y : Nat → Int) (i : Nat) (mx my s : Int) (p : Nat) : Int := s * sq X Y i p - 2 * ((X p - X i) * mx + (Y p - Y i) * my)
abbrev B3 : Type := Nat × Nat × Nat
def cmx (X Y : Nat → Int) (b : B3) : Int := if b.1 = b.2.1 then X b.2.2 - X b.1 else mX0 X Y b.1 b.2.1 b.2.2
def cmy (X Y : Nat → Int) (b : B3) : Int := if b.1 = b.2.1 then Y b.2.2 - Y b.1 else mY0 X Y b.1 b.2.1 b.2.2
def cms (X Y : Nat → Int) (b : B3) : Int := if b.1 = b.2.1 then 2 else 2 * tn X Y b.1 b.2.1 b.2.2
def oB (X Y : Nat → Int) (b : B3) (p : Nat) : Int := out X Y b.1 (cmx X Y b) (cmy X Y b) (cms X Y b) p
def rN (X Y : Nat → Int) (b : B3) : Int := cmx X Y b * cmx X Y b + cmy X Y b * cmy X Y b
def rD (X Y : Nat → Int) (b : B3) : Int := cms X Y b * cms X Y b
def VB (X Y : Nat → Int) (c : Nat) (b : B3) : Prop := b.1 < c ∧ b.2.1 < c ∧ b.2.2 < c ∧ ((b.1 = b.2.1 ∧ b.1 ≠ b.2.2) ∨ (b.1 ≠ b.2.1 ∧ 0 < tn X Y b.1 b.2.1 b.2.2 ∧ 0 < dt X Y b.1 b.2.1 b.2.2 ∧ 0 < dt X Y b.2.1 b.2.2 b.1 ∧ 0 < dt X Y b.2.2 b.1 b.2.1))
def uX (X Y : Nat → Int) (b : B3) (x : Nat) : Int := cms X Y b * (X x - X b.1) - cmx X Y b
def uY (X Y : Nat → Int) (b : B3) (x : Nat) : Int := cms X Y b * (Y x - Y b.1) - cmy X Y b
theorem u_sq (b : B3) (x : Nat) : uX X Y b x * uX X Y b x + uY X Y b x * uY X Y b x = rN X Y b + cms X Y b * oB X Y b x := by
  unfold uX uY rN oB out sq
  generalize cms X Y b = s
  generalize cmx X Y b = m
  generalize cmy X Y b = n
  generalize X x - X b.1 = p
  generalize Y x - Y b.1 = q
  grind
theorem cms_pos {c : Nat} {b : B3} (h : VB X Y c b) : 0 < cms X Y b := by
  unfold cms
  rcases h.2.2.2 with ⟨h1, -⟩ | ⟨h1, h2, -⟩
  · rw [if_pos h1]; decide
  · rw [if_neg h1]; omega
/-- the way from one middle to another one, by both scales -/
def wX (X Y : Nat → Int) (b b' : B3) : Int := cms X Y b * cms X Y b' * (X b'.1 - X b.1) + cms X Y b * cmx X Y b' - cms X Y b' * cmx X Y b
def wY (X Y : Nat → Int) (b b' : B3) : Int := cms X Y b * cms X Y b' * (Y b'.1 - Y b.1) + cms X Y b * cmy X Y b' - cms X Y b' * cmy X Y b
theorem w_eq (b b' : B3) (x : Nat) : wX X Y b b' = cms X Y b' * uX X Y b x - cms X Y b * uX X Y b' x ∧ wY X Y b b' = cms X Y b' * uY X Y b x - cms X Y b * uY X Y b' x := by
  unfold wX wY uX uY
  generalize cms X Y b = s
  generalize cms X Y b' = s'
  constructor <;> grind
def uW (X Y : Nat → Int) (b b' : B3) (x : Nat) : Int := uX X Y b x * wX X Y b b' + uY X Y b x * wY X Y b b'
def ww (X Y : Nat → Int) (b b' : B3) : Int := wX X Y b b' * wX X Y b b' + wY X Y b b' * wY X Y b b'
theorem ww_pos (b b' : B3) : 0 ≤ ww X Y b b' := by
  have h1 := sq_pos (wX X Y b b')
  have h2 := sq_pos (wY X Y b b')
  unfold ww
  omega
theorem tc (b b' : B3) (x : Nat) : 2 * cms X Y b' * uW X Y b b' x = cms X Y b' * cms X Y b' * (rN X Y b + cms X Y b * oB X Y b x) + ww X Y b b' - cms X Y b * cms X Y b * (rN X Y b' + cms X Y b' * oB X Y b' x) := by
  rw [← u_sq b x, ← u_sq b' x]
  obtain ⟨e1, e2⟩ := w_eq (X := X) (Y := Y) b b' x
  unfold uW ww
  rw [e1, e2]
  generalize cms X Y b = s
  generalize cms X Y b' = s'
  generalize uX X Y b x = p
  generalize uX X Y b' x = p'
  generalize uY X Y b x = q
  generalize uY X Y b' x = q'
  grind
/-- a point on the first circle that the second one has, and one outside of the first that the second one has -/
theorem tc_on {c : Nat} {b b' : B3} {x : Nat} (h : VB X Y c b) (h' : VB X Y c b') (hle : rN X Y b' * rD X Y b ≤ rN X Y b * rD X Y b') (h1 : oB X Y b x = 0) (h2 : oB X Y b' x ≤ 0) : ww X Y b b' ≤ 2 * cms X Y b' * uW X Y b b' x := by
  have s1 := cms_pos h
  have s2 := cms_pos h'
  rw [tc, h1, Int.mul_zero, Int.add_zero]
  have k1 : cms X Y b * cms X Y b * (cms X Y b' * oB X Y b' x) ≤ 0 := by
    have : 0 ≤ cms X Y b * cms X Y b := sq_pos _
    exact Int.mul_nonpos_of_nonneg_of_nonpos this (Int.mul_nonpos_of_nonneg_of_nonpos (by omega) h2)
  have e1 : cms X Y b' * cms X Y b' * rN X Y b = rN X Y b * rD X Y b' := by unfold rD; ac_rfl
  have e2 : cms X Y b * cms X Y b * (rN X Y b' + cms X Y b' * oB X Y b' x) = rN X Y b' * rD X Y b + cms X Y b * cms X Y b * (cms X Y b' * oB X Y b' x) := by
    rw [Int.mul_add]
    unfold rD
    congr 1
    ac_rfl
  rw [e1, e2]
  omega
theorem tc_out {c : Nat} {b b' : B3} {x : Nat} (h : VB X Y c b) (h' : VB X Y c b') (hle : rN X Y b' * rD X Y b ≤ rN X Y b * rD X Y b') (h1 : 0 < oB X Y b x) (h2 : oB X Y b' x ≤ 0) : ww X Y b b' < 2 * cms X Y b' * uW X Y b b' x := by
  have s1 := cms_pos h
  have s2 := cms_pos h'
  rw [tc]
  have k1 : cms X Y b * cms X Y b * (cms X Y b' * oB X Y b' x) ≤ 0 := by
    have : 0 ≤ cms X Y b * cms X Y b := sq_pos _
    exact Int.mul_nonpos_of_nonneg_of_nonpos this (Int.mul_nonpos_of_nonneg_of_nonpos (by omega) h2)
  have k2 : 0 < cms X Y b' * cms X Y b' * (cms X Y b * oB X Y b x) := Int.mul_pos (Int.mul_pos s2 s2) (Int.mul_pos s1 h1)
  have e1 : cms X Y b' * cms X Y b' * (rN X Y b + cms X Y b * oB X Y b x) = rN X Y b * rD X Y b' + cms X Y b' * cms X Y b' * (cms X Y b * oB X Y b x) := by
    rw [Int.mul_add]
    unfold rD
    congr 1
    ac_rfl
  have e2 : cms X Y b * cms X Y b * (rN X Y b' + cms X Y b' * oB X Y b' x) = rN X Y b' * rD X Y b + cms X Y b * cms X Y b * (cms X Y b' * oB X Y b' x) := by
    rw [Int.mul_add]
    unfold rD
    congr 1
    ac_rfl
  rw [e1, e2]
  omega
/-- of three points a pair, or they themselves -/
theorem oP (i k p : Nat) : oB X Y (i, i, k) p = 2 * dt X Y p i k := by
  unfold oB out cmx cmy cms sq dt
  simp only [if_true]
  grind
theorem dt_s (i j k : Nat) : dt X Y i j k = dt X Y i k j := by
  unfold dt
  grind
theorem oT {i j k : Nat} (h : i ≠ j) (p : Nat) : oB X Y (i, j, k) p = 2 * (tn X Y i j k * sq X Y i p - ((X p - X i) * mX0 X Y i j k + (Y p - Y i) * mY0 X Y i j k)) := by
  unfold oB out cmx cmy cms
  simp only [if_neg h]
  grind
/-- of a triple as it stands, by its turn -/
def Fo (X Y : Nat → Int) (i j k p : Nat) : Int := tn X Y i j k * sq X Y i p - ((X p - X i) * mX0 X Y i j k + (Y p - Y i) * mY0 X Y i j k)
theorem Fo_swap (i j k p : Nat) : Fo X Y i k j p = - Fo X Y i j k p := by
  unfold Fo tn mX0 mY0 sq
  grind
theorem Fo_rot (i j k p : Nat) : Fo X Y j k i p = Fo X Y i j k p := by
  unfold Fo tn mX0 mY0 sq
  generalize X i = a
  generalize X j = b
  generalize X k = d
  generalize X p = e
  generalize Y i = a'
  generalize Y j = b'
  generalize Y k = d'
  generalize Y p = e'
  grind
theorem tn_swap (i j k : Nat) : tn X Y i k j = - tn X Y i j k := by
  unfold tn
  grind
theorem tn_rot (i j k : Nat) : tn X Y j k i = tn X Y i j k := by
  unfold tn
  grind
theorem Fo_i (i j k : Nat) : Fo X Y i j k i = 0 := by
  unfold Fo sq
  grind
theorem Fo_j (i j k : Nat) : Fo X Y i j k j = 0 := by rw [← Fo_rot, Fo_i]
theorem Fo_k (i j k : Nat) : Fo X Y i j k k = 0 := by rw [← Fo_rot, ← Fo_rot, Fo_i]
/-- sharp triangles turn -/
theorem tn_sq (i j k : Nat) : tn X Y i j k * tn X Y i j k = sq X Y i j * sq X Y i k - dt X Y i j k * dt X Y i j k := by
  unfold tn sq dt
  grind
theorem dt_sum (i j k : Nat) : dt X Y j k i = sq X Y i j - dt X Y i j k := by
  unfold sq dt
  grind
theorem dt_sum2 (i j k : Nat) : dt X Y k i j = sq X Y i k - dt X Y i j k := by
  unfold sq dt
  grind
theorem tn_ne {i j k : Nat} (h1 : 0 < dt X Y i j k) (h2 : 0 < dt X Y j k i) (h3 : 0 < dt X Y k i j) : tn X Y i j k ≠ 0 := by
  intro q
  have e := tn_sq (X := X) (Y := Y) i j k
  rw [q, Int.zero_mul] at e
  rw [dt_sum] at h2
  rw [dt_sum2] at h3
  have k1 : dt X Y i j k * dt X Y i j k < sq X Y i j * sq X Y i k := Int.mul_lt_mul (by omega) (by omega) h1 (by omega)
  omega
theorem three {c x y z : Nat} (hx : x < c) (hy : y < c) (hz : z < c) (nxy : x ≠ y) (nyz : y ≠ z) (nxz : x ≠ z) : ∃ b, VB X Y c b ∧ oB X Y b x ≤ 0 ∧ oB X Y b y ≤ 0 ∧ oB X Y b z ≤ 0 := by
  have self : ∀ i k, dt X Y i i k = 0 := fun i k => by unfold dt; grind
  have self2 : ∀ i k, dt X Y k i k = 0 := fun i k => by unfold dt; grind
  by_cases c1 : 0 < dt X Y x y z
  rotate_left
  · exact ⟨(y, y, z), ⟨hy, hy, hz, Or.inl ⟨rfl, nyz⟩⟩, by rw [oP]; omega, by rw [oP, self]; decide, by rw [oP, self2]; decide⟩
  by_cases c2 : 0 < dt X Y y z x
  rotate_left
  · exact ⟨(z, z, x), ⟨hz, hz, hx, Or.inl ⟨rfl, fun q => nxz q.symm⟩⟩, by rw [oP, self2]; decide, by rw [oP]; omega, by rw [oP, self]; decide⟩
  by_cases c3 : 0 < dt X Y z x y
  rotate_left
  · exact ⟨(x, x, y), ⟨hx, hx, hy, Or.inl ⟨rfl, nxy⟩⟩, by rw [oP, self]; decide, by rw [oP, self2]; decide, by rw [oP]; omega⟩
  have nz := tn_ne c1 c2 c3
  have g : ∀ i j k p, i ≠ j → Fo X Y i j k p = 0 → oB X Y (i, j, k) p ≤ 0 := fun i j k p hij h => by
    rw [oT hij]
    unfold Fo at h
    omega
  by_cases c4 : 0 < tn X Y x y z
  · exact ⟨(x, y, z), ⟨hx, hy, hz, Or.inr ⟨nxy, c4, c1, c2, c3⟩⟩, g _ _ _ _ nxy (Fo_i _ _ _), g _ _ _ _ nxy (Fo_j _ _ _), g _ _ _ _ nxy (Fo_k _ _ _)⟩
  · have c5 : 0 < tn X Y x z y := by rw [tn_swap]; omega
    exact ⟨(x, z, y), ⟨hx, hz, hy, Or.inr ⟨nxz, c5, by rw [dt_s]; exact c1, by rw [dt_s]; exact c3, by rw [dt_s]; exact c2⟩⟩, g _ _ _ _ nxz (Fo_i _ _ _), g _ _ _ _ nxz (Fo_k _ _ _), g _ _ _ _ nxz (Fo_j _ _ _)⟩
/-- the middle is a place within a sharp triangle -/
def cr2 (a b c d : Int) : Int := a * d - b * c
theorem cross_ab {i j k : Nat} (h : i ≠ j) : cr2 (uX X Y (i, j, k) i) (uY X Y (i, j, k) i) (uX X Y (i, j, k) j) (uY X Y (i, j, k) j) = 2 * tn X Y i j k * (sq X Y i j * dt X Y k i j) := by
  unfold cr2 uX uY cms cmx cmy
  simp only [if_neg h]
  unfold mX0 mY0 tn sq dt
  generalize X i = a
  generalize X j = b
  generalize X k = d
  generalize Y i = a'
  generalize Y j = b'
  generalize Y k = d'
  grind
theorem cross_ca {i j k : Nat} (h : i ≠ j) : cr2 (uX X Y (i, j, k) k) (uY X Y (i, j, k) k) (uX X Y (i, j, k) i) (uY X Y (i, j, k) i) = 2 * tn X Y i j k * (sq X Y i k * dt X Y j k i) := by
  unfold cr2 uX uY cms cmx cmy
  simp only [if_neg h]
  unfold mX0 mY0 tn sq dt
  generalize X i = a
  generalize X j = b
  generalize X k = d
  generalize Y i = a'
  generalize Y j = b'
  generalize Y k = d'
  grind
theorem cross_bc {i j k : Nat} (h : i ≠ j) : cr2 (uX X Y (i, j, k) j) (uY X Y (i, j, k) j) (uX X Y (i, j, k) k) (uY X Y (i, j, k) k) = 2 * tn X Y i j k * (sq X Y j k * dt X Y i j k) := by
  unfold cr2 uX uY cms cmx cmy
  simp only [if_neg h]
  unfold mX0 mY0 tn sq dt
  generalize X i = a
  generalize X j = b
  generalize X k = d
  generalize Y i = a'
  generalize Y j = b'
  generalize Y k = d'
  grind
end CircZ
