/-! THE WORLD: the cells of the class and of the reference, out of numbers by field, object and place -/
abbrev eg_S : Type := (Nat → Nat → Nat → Int32) × (Nat → Nat → Nat → Int64) × (Nat → Nat → Nat → UInt64)
def sI (S : eg_S) (f k : Nat) (g : Nat → Int32) : eg_S := (fun f1 k1 => if f1 = f ∧ k1 = k then g else S.1 f1 k1, S.2)
def sL (S : eg_S) (f k : Nat) (g : Nat → Int64) : eg_S := (S.1, fun f1 k1 => if f1 = f ∧ k1 = k then g else S.2.1 f1 k1, S.2.2)
def sD (S : eg_S) (f k : Nat) (g : Nat → UInt64) : eg_S := (S.1, S.2.1, fun f1 k1 => if f1 = f ∧ k1 = k then g else S.2.2 f1 k1)
def eg_rows4 : Nat → Option Nat := va_up (va_up (va_up (va_up (fun _ => none) 0 (some 32)) 1 (some 37)) 2 (some 42)) 3 (some 47)
def eg_rows5 : Nat → Option Nat := va_up (va_up (va_up (va_up (fun _ => none) 0 (some 52)) 1 (some 54)) 2 (some 56)) 3 (some 58)
def eg_rows6 : Nat → Option Nat := va_up (va_up (va_up (va_up (va_up (va_up (fun _ => none) 0 (some 60)) 1 (some 66)) 2 (some 72)) 3 (some 78)) 4 (some 84)) 5 (some 90)
def WX (S : eg_S) (t : List eg_E) : List eg_E :=
  .inr (11, [.ref 2, .ref 3, .ref 4, .ref 5, .ref 8, .ref 17, .ref 23, .ref 25, .ref 29, .long (S.2.1 0 0 0)]) ::
  .inl (4, 4, .inr (.inr (.inr (.inr eg_rows4)))) ::
  .inl (5, 4, .inr (.inr (.inr (.inr eg_rows5)))) ::
  .inl (6, 6, .inr (.inr (.inr (.inr eg_rows6)))) ::
  .inr (6, [.ref 6, .ref 7]) ::
  .inl (0, 9, .inl (S.1 0 0)) ::
  .inl (0, 9, .inl (S.1 1 0)) ::
  .inr (3, [.ref 9, .ref 14, .ref 15, .ref 16, .int (S.1 3 0 0), .long (S.2.1 3 0 0), .long (S.2.1 4 0 0), .int (S.1 4 0 0), .int (S.1 5 0 0)]) ::
  .inr (10, [.ref 10, .ref 11, .ref 12, .ref 13, .int (S.1 10 0 0)]) ::
  .inl (0, 16, .inl (S.1 6 0)) ::
  .inl (0, 16, .inl (S.1 7 0)) ::
  .inl (0, 16, .inl (S.1 8 0)) ::
  .inl (0, 16, .inl (S.1 9 0)) ::
  .inl (1, 3, .inr (.inl (S.2.1 1 0))) ::
  .inl (1, 3, .inr (.inl (S.2.1 2 0))) ::
  .inl (0, 6, .inl (S.1 2 0)) ::
  .inr (1, [.ref 18, .int (S.1 11 0 0), .long (S.2.1 5 0 0), .long (S.2.1 6 0 0), .long (S.2.1 7 0 0)]) ::
  .inr (10, [.ref 19, .ref 20, .ref 21, .ref 22, .int (S.1 10 1 0)]) ::
  .inl (0, 16, .inl (S.1 6 1)) ::
  .inl (0, 16, .inl (S.1 7 1)) ::
  .inl (0, 16, .inl (S.1 8 1)) ::
  .inl (0, 16, .inl (S.1 9 1)) ::
  .inr (5, [.ref 24, .int (S.1 12 0 0), .int (S.1 13 0 0), .int (S.1 14 0 0), .int (S.1 15 0 0)]) ::
  .inl (1, 9, .inr (.inl (S.2.1 8 0))) ::
  .inr (7, [.ref 26, .int (S.1 16 0 0), .ref 27, .ref 28, .long (S.2.1 9 0 0), .long (S.2.1 10 0 0)]) ::
  .inr (4, [.long (S.2.1 16 0 0), .long (S.2.1 17 0 0)]) ::
  .inl (0, 10, .inl (S.1 17 0)) ::
  .inl (0, 10, .inl (S.1 18 0)) ::
  .inr (0, [.int (S.1 19 0 0), .ref 30, .ref 31, .long (S.2.1 11 0 0), .long (S.2.1 12 0 0), .long (S.2.1 13 0 0), .long (S.2.1 14 0 0)]) ::
  .inl (0, 18, .inl (S.1 20 0)) ::
  .inl (0, 18, .inl (S.1 21 0)) ::
  .inr (8, [.ref 33, .ref 34, .ref 35, .ref 36, .int (S.1 26 0 0)]) ::
  .inl (0, 16, .inl (S.1 22 0)) ::
  .inl (0, 16, .inl (S.1 23 0)) ::
  .inl (0, 16, .inl (S.1 24 0)) ::
  .inl (2, 16, .inl (S.1 25 0)) ::
  .inr (8, [.ref 38, .ref 39, .ref 40, .ref 41, .int (S.1 26 1 0)]) ::
  .inl (0, 16, .inl (S.1 22 1)) ::
  .inl (0, 16, .inl (S.1 23 1)) ::
  .inl (0, 16, .inl (S.1 24 1)) ::
  .inl (2, 16, .inl (S.1 25 1)) ::
  .inr (8, [.ref 43, .ref 44, .ref 45, .ref 46, .int (S.1 26 2 0)]) ::
  .inl (0, 16, .inl (S.1 22 2)) ::
  .inl (0, 16, .inl (S.1 23 2)) ::
  .inl (0, 16, .inl (S.1 24 2)) ::
  .inl (2, 16, .inl (S.1 25 2)) ::
  .inr (8, [.ref 48, .ref 49, .ref 50, .ref 51, .int (S.1 26 3 0)]) ::
  .inl (0, 16, .inl (S.1 22 3)) ::
  .inl (0, 16, .inl (S.1 23 3)) ::
  .inl (0, 16, .inl (S.1 24 3)) ::
  .inl (2, 16, .inl (S.1 25 3)) ::
  .inr (9, [.ref 53, .int (S.1 28 0 0), .int (S.1 29 0 0)]) ::
  .inl (0, 48, .inl (S.1 27 0)) ::
  .inr (9, [.ref 55, .int (S.1 28 1 0), .int (S.1 29 1 0)]) ::
  .inl (0, 48, .inl (S.1 27 1)) ::
  .inr (9, [.ref 57, .int (S.1 28 2 0), .int (S.1 29 2 0)]) ::
  .inl (0, 48, .inl (S.1 27 2)) ::
  .inr (9, [.ref 59, .int (S.1 28 3 0), .int (S.1 29 3 0)]) ::
  .inl (0, 48, .inl (S.1 27 3)) ::
  .inr (2, [.ref 61, .ref 62, .ref 63, .ref 64, .ref 65, .int (S.1 31 0 0), .int (S.1 32 0 0)]) ::
  .inl (0, 6, .inl (S.1 30 0)) ::
  .inl (1, 3, .inr (.inl (S.2.1 15 0))) ::
  .inr (4, [.long (S.2.1 18 0 0), .long (S.2.1 19 0 0)]) ::
  .inr (4, [.long (S.2.1 20 0 0), .long (S.2.1 21 0 0)]) ::
  .inr (4, [.long (S.2.1 22 0 0), .long (S.2.1 23 0 0)]) ::
  .inr (2, [.ref 67, .ref 68, .ref 69, .ref 70, .ref 71, .int (S.1 31 1 0), .int (S.1 32 1 0)]) ::
  .inl (0, 6, .inl (S.1 30 1)) ::
  .inl (1, 3, .inr (.inl (S.2.1 15 1))) ::
  .inr (4, [.long (S.2.1 18 1 0), .long (S.2.1 19 1 0)]) ::
  .inr (4, [.long (S.2.1 20 1 0), .long (S.2.1 21 1 0)]) ::
  .inr (4, [.long (S.2.1 22 1 0), .long (S.2.1 23 1 0)]) ::
  .inr (2, [.ref 73, .ref 74, .ref 75, .ref 76, .ref 77, .int (S.1 31 2 0), .int (S.1 32 2 0)]) ::
  .inl (0, 6, .inl (S.1 30 2)) ::
  .inl (1, 3, .inr (.inl (S.2.1 15 2))) ::
  .inr (4, [.long (S.2.1 18 2 0), .long (S.2.1 19 2 0)]) ::
  .inr (4, [.long (S.2.1 20 2 0), .long (S.2.1 21 2 0)]) ::
  .inr (4, [.long (S.2.1 22 2 0), .long (S.2.1 23 2 0)]) ::
  .inr (2, [.ref 79, .ref 80, .ref 81, .ref 82, .ref 83, .int (S.1 31 3 0), .int (S.1 32 3 0)]) ::
  .inl (0, 6, .inl (S.1 30 3)) ::
  .inl (1, 3, .inr (.inl (S.2.1 15 3))) ::
  .inr (4, [.long (S.2.1 18 3 0), .long (S.2.1 19 3 0)]) ::
  .inr (4, [.long (S.2.1 20 3 0), .long (S.2.1 21 3 0)]) ::
  .inr (4, [.long (S.2.1 22 3 0), .long (S.2.1 23 3 0)]) ::
  .inr (2, [.ref 85, .ref 86, .ref 87, .ref 88, .ref 89, .int (S.1 31 4 0), .int (S.1 32 4 0)]) ::
  .inl (0, 6, .inl (S.1 30 4)) ::
  .inl (1, 3, .inr (.inl (S.2.1 15 4))) ::
  .inr (4, [.long (S.2.1 18 4 0), .long (S.2.1 19 4 0)]) ::
  .inr (4, [.long (S.2.1 20 4 0), .long (S.2.1 21 4 0)]) ::
  .inr (4, [.long (S.2.1 22 4 0), .long (S.2.1 23 4 0)]) ::
  .inr (2, [.ref 91, .ref 92, .ref 93, .ref 94, .ref 95, .int (S.1 31 5 0), .int (S.1 32 5 0)]) ::
  .inl (0, 6, .inl (S.1 30 5)) ::
  .inl (1, 3, .inr (.inl (S.2.1 15 5))) ::
  .inr (4, [.long (S.2.1 18 5 0), .long (S.2.1 19 5 0)]) ::
  .inr (4, [.long (S.2.1 20 5 0), .long (S.2.1 21 5 0)]) ::
  .inr (4, [.long (S.2.1 22 5 0), .long (S.2.1 23 5 0)]) ::
  t
def WM (T : eg_S) : List eg_E := [
  .inr (12, [.ref 97, .ref 98, .ref 99, .ref 100, .ref 101, .ref 102, .ref 103, .ref 104, .ref 105, .ref 106, .ref 107, .ref 108, .ref 109, .ref 110, .int (T.1 43 0 0), .ref 111, .ref 112, .int (T.1 45 0 0), .ref 113, .ref 114, .int (T.1 48 0 0), .ref 115, .ref 116, .ref 117, .ref 118, .ref 119, .long (T.2.1 29 0 0), .ref 120, .ref 121, .long (T.2.1 30 0 0), .long (T.2.1 31 0 0), .int (T.1 54 0 0), .int (T.1 55 0 0), .ref 122, .long (T.2.1 33 0 0), .long (T.2.1 34 0 0), .long (T.2.1 35 0 0), .long (T.2.1 36 0 0), .long (T.2.1 37 0 0), .long (T.2.1 38 0 0), .long (T.2.1 39 0 0), .long (T.2.1 40 0 0), .long (T.2.1 41 0 0)]),
  .inl (0, 4, .inl (T.1 33 0)),
  .inl (0, 64, .inl (T.1 34 0)),
  .inl (0, 64, .inl (T.1 35 0)),
  .inl (0, 64, .inl (T.1 36 0)),
  .inl (2, 64, .inl (T.1 37 0)),
  .inl (0, 9, .inl (T.1 38 0)),
  .inl (0, 9, .inl (T.1 39 0)),
  .inl (0, 6, .inl (T.1 40 0)),
  .inl (0, 6, .inl (T.1 41 0)),
  .inl (0, 36, .inl (T.1 42 0)),
  .inl (1, 6, .inr (.inl (T.2.1 24 0))),
  .inl (1, 6, .inr (.inl (T.2.1 25 0))),
  .inl (1, 18, .inr (.inl (T.2.1 26 0))),
  .inl (1, 24, .inr (.inl (T.2.1 27 0))),
  .inl (1, 9, .inr (.inl (T.2.1 28 0))),
  .inl (0, 3, .inl (T.1 44 0)),
  .inl (0, 10, .inl (T.1 46 0)),
  .inl (0, 10, .inl (T.1 47 0)),
  .inl (0, 36, .inl (T.1 49 0)),
  .inl (0, 4, .inl (T.1 50 0)),
  .inl (0, 4, .inl (T.1 51 0)),
  .inl (0, 192, .inl (T.1 52 0)),
  .inl (3, 192, .inr (.inr (.inr (.inl (T.2.2 0 0))))),
  .inl (0, 48, .inl (T.1 53 0)),
  .inl (3, 48, .inr (.inr (.inr (.inl (T.2.2 1 0))))),
  .inl (1, 3, .inr (.inl (T.2.1 32 0)))
  ]
theorem eg_gf_of {h : List eg_E} {n ci k : Nat} {fs : List Value} {v : Value} {F : Value → Prop} (hc : h[n]? = some (.inr (ci, fs))) (hv : fs[k]? = some v) : eg_gf h n ci k F = F v := by
  unfold eg_gf
  rw [hc]
  show (match fs[k]? with | some v => ci = ci ∧ F v | none => False) = F v
  rw [hv]
  exact propext ⟨fun q => q.2, fun q => ⟨rfl, q⟩⟩
theorem eg_pf_of {h h1 : List eg_E} {n ci k : Nat} {fs : List Value} {v : Value} {F : List eg_E → Prop} (hc : h[n]? = some (.inr (ci, fs))) (hk : k < fs.length) (hf : eg_fit (eg_fty ci k) v = true) (h1e : h.set n (.inr (ci, fs.set k v)) = h1) : eg_pf h n ci k v F = F h1 := by
  unfold eg_pf
  rw [hc]
  show (ci = ci ∧ k < fs.length ∧ eg_fit (eg_fty ci k) v = true ∧ F (h.set n (.inr (ci, fs.set k v)))) = F h1
  rw [h1e]
  exact propext ⟨fun q => q.2.2.2, fun q => ⟨rfl, hk, hf, q⟩⟩
theorem eg_pb_of {h h1 : List eg_E} {n ci k : Nat} {fs : List Value} {v : Int32} {F : List eg_E → Prop} (hc : h[n]? = some (.inr (ci, fs))) (hk : k < fs.length) (h1e : h.set n (.inr (ci, fs.set k (.int v))) = h1) : eg_pb h n ci k v F = ((v = 0 ∨ v = 1) ∧ F h1) := by
  unfold eg_pb
  rw [hc]
  show (ci = ci ∧ k < fs.length ∧ (v = 0 ∨ v = 1) ∧ F (h.set n (.inr (ci, fs.set k (.int v))))) = ((v = 0 ∨ v = 1) ∧ F h1)
  rw [h1e]
  exact propext ⟨fun q => q.2.2, fun q => ⟨rfl, hk, q⟩⟩
theorem eg_cls_of {h : List eg_E} {n ci : Nat} {fs : List Value} (hc : h[n]? = some (.inr (ci, fs))) : eg_cls h n ci = True := by
  unfold eg_cls
  rw [hc]
  simp
theorem eg_al_of {h : List eg_E} {n t k : Nat} {y} {F : Int32 → Prop} (hc : h[n]? = some (.inl (t, k, y))) (ht : t < 7) : eg_al h n F = F (Int32.ofNat k) := by
  unfold eg_al
  rw [hc]
  exact propext ⟨fun q => q.2, fun q => ⟨ht, q⟩⟩
theorem eg_ia_of {h : List eg_E} {n k : Nat} {f : Nat → Int32} {i : Int32} {F : Int32 → Prop} (hc : h[n]? = some (.inl (0, k, .inl f))) : eg_ia h n i F = (vp_in i k ∧ F (f i.toNatClampNeg)) := by
  unfold eg_ia
  rw [hc]
  rfl
theorem eg_ba_of {h : List eg_E} {n k : Nat} {f : Nat → Int32} {i : Int32} {F : Int32 → Prop} (hc : h[n]? = some (.inl (2, k, .inl f))) : eg_ba h n i F = (vp_in i k ∧ F (f i.toNatClampNeg)) := by
  unfold eg_ba
  rw [hc]
  rfl
theorem eg_la_of {h : List eg_E} {n k : Nat} {f : Nat → Int64} {i : Int32} {F : Int64 → Prop} (hc : h[n]? = some (.inl (1, k, .inr (.inl f)))) : eg_la h n i F = (vp_in i k ∧ F (f i.toNatClampNeg)) := by
  unfold eg_la
  rw [hc]
  rfl
theorem eg_da_of {h : List eg_E} {n k : Nat} {f : Nat → UInt64} {i : Int32} {F : UInt64 → Prop} (hc : h[n]? = some (.inl (3, k, .inr (.inr (.inr (.inl f)))))) : eg_da h n i F = (vp_in i k ∧ F (f i.toNatClampNeg)) := by
  unfold eg_da
  rw [hc]
  rfl
theorem eg_aa_of {h : List eg_E} {n k t : Nat} {f : Nat → Option Nat} {i : Int32} {F : Value → Prop} {g : Nat → Nat} (hc : h[n]? = some (.inl (t, k, .inr (.inr (.inr (.inr f)))))) (h4 : 4 ≤ t) (h7 : t < 7) (hg : ∀ j, j < k → f j = some (g j)) : eg_aa h n i F = (vp_in i k ∧ F (.ref (g i.toNatClampNeg))) := by
  unfold eg_aa
  rw [hc]
  refine propext ⟨fun q => ⟨q.2.2.1, ?_⟩, fun q => ⟨h4, h7, q.1, ?_⟩⟩
  · have hl : i.toNatClampNeg < k := Nat.not_le.mp fun z => q.2.2.1 (Or.inr z)
    have := q.2.2.2
    rw [hg _ hl] at this
    exact this
  · have hl : i.toNatClampNeg < k := Nat.not_le.mp fun z => q.1 (Or.inr z)
    rw [hg _ hl]
    exact q.2
theorem eg_is_of {h : List eg_E} {n k : Nat} {f : Nat → Int32} {i x : Int32} {F : List eg_E → Prop} {h1 : List eg_E} (hc : h[n]? = some (.inl (0, k, .inl f))) (h1e : h.set n (.inl (0, k, .inl (upd f i.toNatClampNeg x))) = h1) : eg_is h n i x F = (vp_in i k ∧ F h1) := by
  unfold eg_is
  rw [hc]
  simp only
  rw [h1e]
theorem eg_bs_of {h : List eg_E} {n k : Nat} {f : Nat → Int32} {i x : Int32} {F : List eg_E → Prop} {h1 : List eg_E} (hc : h[n]? = some (.inl (2, k, .inl f))) (h1e : h.set n (.inl (2, k, .inl (upd f i.toNatClampNeg (vp_nar .boolean x)))) = h1) : eg_bs h n i x F = (vp_in i k ∧ F h1) := by
  unfold eg_bs
  rw [hc]
  simp only
  rw [h1e]
theorem eg_lst_of {h : List eg_E} {n k : Nat} {f : Nat → Int64} {i : Int32} {x : Int64} {F : List eg_E → Prop} {h1 : List eg_E} (hc : h[n]? = some (.inl (1, k, .inr (.inl f)))) (h1e : h.set n (.inl (1, k, .inr (.inl (vp_updL f i.toNatClampNeg x)))) = h1) : eg_lst h n i x F = (vp_in i k ∧ F h1) := by
  unfold eg_lst
  rw [hc]
  simp only
  rw [h1e]
theorem eg_ds_of {h : List eg_E} {n k : Nat} {f : Nat → UInt64} {i : Int32} {x : UInt64} {F : List eg_E → Prop} {h1 : List eg_E} (hc : h[n]? = some (.inl (3, k, .inr (.inr (.inr (.inl f)))))) (h1e : h.set n (.inl (3, k, .inr (.inr (.inr (.inl (vf_upd f i.toNatClampNeg x)))))) = h1) : eg_ds h n i x F = (vp_in i k ∧ F h1) := by
  unfold eg_ds
  rw [hc]
  simp only
  rw [h1e]
section Wd
variable {S T : eg_S} {t : List eg_E} {k : Nat}
theorem w_X  : (WX S t)[0]? = some (.inr (11, [.ref 2, .ref 3, .ref 4, .ref 5, .ref 8, .ref 17, .ref 23, .ref 25, .ref 29, .long (S.2.1 0 0 0)])) := rfl
theorem k_X  : eg_cls (WX S t) 0 11 = True := eg_cls_of (w_X)
theorem g_X_parts  {F : Value → Prop} : eg_gf (WX S t) 0 11 0 F = F (.ref 2) := eg_gf_of (w_X) rfl
theorem g_X_sheets  {F : Value → Prop} : eg_gf (WX S t) 0 11 1 F = F (.ref 3) := eg_gf_of (w_X) rfl
theorem g_X_figures  {F : Value → Prop} : eg_gf (WX S t) 0 11 2 F = F (.ref 4) := eg_gf_of (w_X) rfl
theorem g_X_arm  {F : Value → Prop} : eg_gf (WX S t) 0 11 3 F = F (.ref 5) := eg_gf_of (w_X) rfl
theorem g_X_flatFit  {F : Value → Prop} : eg_gf (WX S t) 0 11 4 F = F (.ref 8) := eg_gf_of (w_X) rfl
theorem g_X_circleFit  {F : Value → Prop} : eg_gf (WX S t) 0 11 5 F = F (.ref 17) := eg_gf_of (w_X) rfl
theorem g_X_theFrame  {F : Value → Prop} : eg_gf (WX S t) 0 11 6 F = F (.ref 23) := eg_gf_of (w_X) rfl
theorem g_X_outline  {F : Value → Prop} : eg_gf (WX S t) 0 11 7 F = F (.ref 25) := eg_gf_of (w_X) rfl
theorem g_X_boxes  {F : Value → Prop} : eg_gf (WX S t) 0 11 8 F = F (.ref 29) := eg_gf_of (w_X) rfl
theorem g_X_findings  {F : Value → Prop} : eg_gf (WX S t) 0 11 9 F = F (.long (S.2.1 0 0 0)) := eg_gf_of (w_X) rfl
set_option maxRecDepth 20000 in
theorem u_X_findings  {v : Int64} : (WX S t).set 0 (.inr (11, [.ref 2, .ref 3, .ref 4, .ref 5, .ref 8, .ref 17, .ref 23, .ref 25, .ref 29, .long v])) = WX (sL S 0 0 (fun _ => v)) t := rfl
theorem f_X_findings  {v : Int64} {F : List eg_E → Prop} : eg_pf (WX S t) 0 11 9 (.long v) F = F (WX (sL S 0 0 (fun _ => v)) t) := eg_pf_of (w_X) (Nat.le_of_ble_eq_true rfl) rfl (u_X_findings)
theorem w_Grid  : (WX S t)[4]? = some (.inr (6, [.ref 6, .ref 7])) := rfl
theorem k_Grid  : eg_cls (WX S t) 4 6 = True := eg_cls_of (w_Grid)
theorem g_Grid_ofX  {F : Value → Prop} : eg_gf (WX S t) 4 6 0 F = F (.ref 6) := eg_gf_of (w_Grid) rfl
theorem w_Grid_ofX_  : (WX S t)[5]? = some (.inl (0, 9, .inl (S.1 0 0))) := rfl
set_option maxRecDepth 20000 in
theorem u_Grid_ofX_  {g : Nat → Int32} : (WX S t).set 5 (.inl (0, 9, .inl (g))) = WX (sI S 0 0 (g)) t := rfl
theorem r_Grid_ofX  {i : Int32} {F : Int32 → Prop} : eg_ia (WX S t) 5 i F = (vp_in i 9 ∧ F (S.1 0 0 i.toNatClampNeg)) := eg_ia_of (w_Grid_ofX_)
theorem t_Grid_ofX  {i : Int32} {v : Int32} {F : List eg_E → Prop} : eg_is (WX S t) 5 i v F = (vp_in i 9 ∧ F (WX (sI S 0 0 (upd (S.1 0 0) i.toNatClampNeg v)) t)) := eg_is_of (w_Grid_ofX_) (u_Grid_ofX_)
theorem l_Grid_ofX  {F : Int32 → Prop} : eg_al (WX S t) 5 F = F (Int32.ofNat 9) := eg_al_of (w_Grid_ofX_) (by decide)
theorem g_Grid_ofY  {F : Value → Prop} : eg_gf (WX S t) 4 6 1 F = F (.ref 7) := eg_gf_of (w_Grid) rfl
theorem w_Grid_ofY_  : (WX S t)[6]? = some (.inl (0, 9, .inl (S.1 1 0))) := rfl
set_option maxRecDepth 20000 in
theorem u_Grid_ofY_  {g : Nat → Int32} : (WX S t).set 6 (.inl (0, 9, .inl (g))) = WX (sI S 1 0 (g)) t := rfl
theorem r_Grid_ofY  {i : Int32} {F : Int32 → Prop} : eg_ia (WX S t) 6 i F = (vp_in i 9 ∧ F (S.1 1 0 i.toNatClampNeg)) := eg_ia_of (w_Grid_ofY_)
theorem t_Grid_ofY  {i : Int32} {v : Int32} {F : List eg_E → Prop} : eg_is (WX S t) 6 i v F = (vp_in i 9 ∧ F (WX (sI S 1 0 (upd (S.1 1 0) i.toNatClampNeg v)) t)) := eg_is_of (w_Grid_ofY_) (u_Grid_ofY_)
theorem l_Grid_ofY  {F : Int32 → Prop} : eg_al (WX S t) 6 F = F (Int32.ofNat 9) := eg_al_of (w_Grid_ofY_) (by decide)
theorem w_Flat  : (WX S t)[7]? = some (.inr (3, [.ref 9, .ref 14, .ref 15, .ref 16, .int (S.1 3 0 0), .long (S.2.1 3 0 0), .long (S.2.1 4 0 0), .int (S.1 4 0 0), .int (S.1 5 0 0)])) := rfl
theorem k_Flat  : eg_cls (WX S t) 7 3 = True := eg_cls_of (w_Flat)
theorem g_Flat_points  {F : Value → Prop} : eg_gf (WX S t) 7 3 0 F = F (.ref 9) := eg_gf_of (w_Flat) rfl
theorem g_Flat_normal  {F : Value → Prop} : eg_gf (WX S t) 7 3 1 F = F (.ref 14) := eg_gf_of (w_Flat) rfl
theorem w_Flat_normal_  : (WX S t)[13]? = some (.inl (1, 3, .inr (.inl (S.2.1 1 0)))) := rfl
set_option maxRecDepth 20000 in
theorem u_Flat_normal_  {g : Nat → Int64} : (WX S t).set 13 (.inl (1, 3, .inr (.inl (g)))) = WX (sL S 1 0 (g)) t := rfl
theorem r_Flat_normal  {i : Int32} {F : Int64 → Prop} : eg_la (WX S t) 13 i F = (vp_in i 3 ∧ F (S.2.1 1 0 i.toNatClampNeg)) := eg_la_of (w_Flat_normal_)
theorem t_Flat_normal  {i : Int32} {v : Int64} {F : List eg_E → Prop} : eg_lst (WX S t) 13 i v F = (vp_in i 3 ∧ F (WX (sL S 1 0 (vp_updL (S.2.1 1 0) i.toNatClampNeg v)) t)) := eg_lst_of (w_Flat_normal_) (u_Flat_normal_)
theorem l_Flat_normal  {F : Int32 → Prop} : eg_al (WX S t) 13 F = F (Int32.ofNat 3) := eg_al_of (w_Flat_normal_) (by decide)
theorem g_Flat_best  {F : Value → Prop} : eg_gf (WX S t) 7 3 2 F = F (.ref 15) := eg_gf_of (w_Flat) rfl
theorem w_Flat_best_  : (WX S t)[14]? = some (.inl (1, 3, .inr (.inl (S.2.1 2 0)))) := rfl
set_option maxRecDepth 20000 in
theorem u_Flat_best_  {g : Nat → Int64} : (WX S t).set 14 (.inl (1, 3, .inr (.inl (g)))) = WX (sL S 2 0 (g)) t := rfl
theorem r_Flat_best  {i : Int32} {F : Int64 → Prop} : eg_la (WX S t) 14 i F = (vp_in i 3 ∧ F (S.2.1 2 0 i.toNatClampNeg)) := eg_la_of (w_Flat_best_)
theorem t_Flat_best  {i : Int32} {v : Int64} {F : List eg_E → Prop} : eg_lst (WX S t) 14 i v F = (vp_in i 3 ∧ F (WX (sL S 2 0 (vp_updL (S.2.1 2 0) i.toNatClampNeg v)) t)) := eg_lst_of (w_Flat_best_) (u_Flat_best_)
theorem l_Flat_best  {F : Int32 → Prop} : eg_al (WX S t) 14 F = F (Int32.ofNat 3) := eg_al_of (w_Flat_best_) (by decide)
theorem g_Flat_bestHeld  {F : Value → Prop} : eg_gf (WX S t) 7 3 3 F = F (.ref 16) := eg_gf_of (w_Flat) rfl
theorem w_Flat_bestHeld_  : (WX S t)[15]? = some (.inl (0, 6, .inl (S.1 2 0))) := rfl
set_option maxRecDepth 20000 in
theorem u_Flat_bestHeld_  {g : Nat → Int32} : (WX S t).set 15 (.inl (0, 6, .inl (g))) = WX (sI S 2 0 (g)) t := rfl
theorem r_Flat_bestHeld  {i : Int32} {F : Int32 → Prop} : eg_ia (WX S t) 15 i F = (vp_in i 6 ∧ F (S.1 2 0 i.toNatClampNeg)) := eg_ia_of (w_Flat_bestHeld_)
theorem t_Flat_bestHeld  {i : Int32} {v : Int32} {F : List eg_E → Prop} : eg_is (WX S t) 15 i v F = (vp_in i 6 ∧ F (WX (sI S 2 0 (upd (S.1 2 0) i.toNatClampNeg v)) t)) := eg_is_of (w_Flat_bestHeld_) (u_Flat_bestHeld_)
theorem l_Flat_bestHeld  {F : Int32 → Prop} : eg_al (WX S t) 15 F = F (Int32.ofNat 6) := eg_al_of (w_Flat_bestHeld_) (by decide)
theorem g_Flat_any  {F : Value → Prop} : eg_gf (WX S t) 7 3 4 F = F (.int (S.1 3 0 0)) := eg_gf_of (w_Flat) rfl
set_option maxRecDepth 20000 in
theorem u_Flat_any  {v : Int32} : (WX S t).set 7 (.inr (3, [.ref 9, .ref 14, .ref 15, .ref 16, .int v, .long (S.2.1 3 0 0), .long (S.2.1 4 0 0), .int (S.1 4 0 0), .int (S.1 5 0 0)])) = WX (sI S 3 0 (fun _ => v)) t := rfl
theorem f_Flat_any  {v : Int32} {F : List eg_E → Prop} : eg_pb (WX S t) 7 3 4 v F = ((v = 0 ∨ v = 1) ∧ F (WX (sI S 3 0 (fun _ => v)) t)) := eg_pb_of (w_Flat) (Nat.le_of_ble_eq_true rfl) (u_Flat_any)
theorem g_Flat_bestSquare  {F : Value → Prop} : eg_gf (WX S t) 7 3 5 F = F (.long (S.2.1 3 0 0)) := eg_gf_of (w_Flat) rfl
set_option maxRecDepth 20000 in
theorem u_Flat_bestSquare  {v : Int64} : (WX S t).set 7 (.inr (3, [.ref 9, .ref 14, .ref 15, .ref 16, .int (S.1 3 0 0), .long v, .long (S.2.1 4 0 0), .int (S.1 4 0 0), .int (S.1 5 0 0)])) = WX (sL S 3 0 (fun _ => v)) t := rfl
theorem f_Flat_bestSquare  {v : Int64} {F : List eg_E → Prop} : eg_pf (WX S t) 7 3 5 (.long v) F = F (WX (sL S 3 0 (fun _ => v)) t) := eg_pf_of (w_Flat) (Nat.le_of_ble_eq_true rfl) rfl (u_Flat_bestSquare)
theorem g_Flat_bestLength  {F : Value → Prop} : eg_gf (WX S t) 7 3 6 F = F (.long (S.2.1 4 0 0)) := eg_gf_of (w_Flat) rfl
set_option maxRecDepth 20000 in
theorem u_Flat_bestLength  {v : Int64} : (WX S t).set 7 (.inr (3, [.ref 9, .ref 14, .ref 15, .ref 16, .int (S.1 3 0 0), .long (S.2.1 3 0 0), .long v, .int (S.1 4 0 0), .int (S.1 5 0 0)])) = WX (sL S 4 0 (fun _ => v)) t := rfl
theorem f_Flat_bestLength  {v : Int64} {F : List eg_E → Prop} : eg_pf (WX S t) 7 3 6 (.long v) F = F (WX (sL S 4 0 (fun _ => v)) t) := eg_pf_of (w_Flat) (Nat.le_of_ble_eq_true rfl) rfl (u_Flat_bestLength)
theorem g_Flat_bestHigh  {F : Value → Prop} : eg_gf (WX S t) 7 3 7 F = F (.int (S.1 4 0 0)) := eg_gf_of (w_Flat) rfl
set_option maxRecDepth 20000 in
theorem u_Flat_bestHigh  {v : Int32} : (WX S t).set 7 (.inr (3, [.ref 9, .ref 14, .ref 15, .ref 16, .int (S.1 3 0 0), .long (S.2.1 3 0 0), .long (S.2.1 4 0 0), .int v, .int (S.1 5 0 0)])) = WX (sI S 4 0 (fun _ => v)) t := rfl
theorem f_Flat_bestHigh  {v : Int32} {F : List eg_E → Prop} : eg_pf (WX S t) 7 3 7 (.int v) F = F (WX (sI S 4 0 (fun _ => v)) t) := eg_pf_of (w_Flat) (Nat.le_of_ble_eq_true rfl) rfl (u_Flat_bestHigh)
theorem g_Flat_bestLow  {F : Value → Prop} : eg_gf (WX S t) 7 3 8 F = F (.int (S.1 5 0 0)) := eg_gf_of (w_Flat) rfl
set_option maxRecDepth 20000 in
theorem u_Flat_bestLow  {v : Int32} : (WX S t).set 7 (.inr (3, [.ref 9, .ref 14, .ref 15, .ref 16, .int (S.1 3 0 0), .long (S.2.1 3 0 0), .long (S.2.1 4 0 0), .int (S.1 4 0 0), .int v])) = WX (sI S 5 0 (fun _ => v)) t := rfl
theorem f_Flat_bestLow  {v : Int32} {F : List eg_E → Prop} : eg_pf (WX S t) 7 3 8 (.int v) F = F (WX (sI S 5 0 (fun _ => v)) t) := eg_pf_of (w_Flat) (Nat.le_of_ble_eq_true rfl) rfl (u_Flat_bestLow)
theorem w_Tou (hk : k < 2) : (WX S t)[(8 + 9 * k)]? = some (.inr (10, [.ref (9 + 9 * k + 1), .ref (10 + 9 * k + 1), .ref (11 + 9 * k + 1), .ref (12 + 9 * k + 1), .int (S.1 10 k 0)])) := by
  match k, hk with
  | 0, _ => exact rfl
  | 1, _ => exact rfl
theorem k_Tou (hk : k < 2) : eg_cls (WX S t) (8 + 9 * k) 10 = True := eg_cls_of (w_Tou hk)
theorem g_Tou_x (hk : k < 2) {F : Value → Prop} : eg_gf (WX S t) (8 + 9 * k) 10 0 F = F (.ref (9 + 9 * k + 1)) := eg_gf_of (w_Tou hk) rfl
theorem w_Tou_x_ (hk : k < 2) : (WX S t)[(9 + 9 * k)]? = some (.inl (0, 16, .inl (S.1 6 k))) := by
  match k, hk with
  | 0, _ => exact rfl
  | 1, _ => exact rfl
set_option maxRecDepth 20000 in
theorem u_Tou_x_ (hk : k < 2) {g : Nat → Int32} : (WX S t).set (9 + 9 * k) (.inl (0, 16, .inl (g))) = WX (sI S 6 k (g)) t := by
  match k, hk with
  | 0, _ => exact rfl
  | 1, _ => exact rfl
theorem r_Tou_x (hk : k < 2) {i : Int32} {F : Int32 → Prop} : eg_ia (WX S t) (9 + 9 * k) i F = (vp_in i 16 ∧ F (S.1 6 k i.toNatClampNeg)) := eg_ia_of (w_Tou_x_ hk)
theorem t_Tou_x (hk : k < 2) {i : Int32} {v : Int32} {F : List eg_E → Prop} : eg_is (WX S t) (9 + 9 * k) i v F = (vp_in i 16 ∧ F (WX (sI S 6 k (upd (S.1 6 k) i.toNatClampNeg v)) t)) := eg_is_of (w_Tou_x_ hk) (u_Tou_x_ hk)
theorem l_Tou_x (hk : k < 2) {F : Int32 → Prop} : eg_al (WX S t) (9 + 9 * k) F = F (Int32.ofNat 16) := eg_al_of (w_Tou_x_ hk) (by decide)
theorem g_Tou_y (hk : k < 2) {F : Value → Prop} : eg_gf (WX S t) (8 + 9 * k) 10 1 F = F (.ref (10 + 9 * k + 1)) := eg_gf_of (w_Tou hk) rfl
theorem w_Tou_y_ (hk : k < 2) : (WX S t)[(10 + 9 * k)]? = some (.inl (0, 16, .inl (S.1 7 k))) := by
  match k, hk with
  | 0, _ => exact rfl
  | 1, _ => exact rfl
set_option maxRecDepth 20000 in
theorem u_Tou_y_ (hk : k < 2) {g : Nat → Int32} : (WX S t).set (10 + 9 * k) (.inl (0, 16, .inl (g))) = WX (sI S 7 k (g)) t := by
  match k, hk with
  | 0, _ => exact rfl
  | 1, _ => exact rfl
theorem r_Tou_y (hk : k < 2) {i : Int32} {F : Int32 → Prop} : eg_ia (WX S t) (10 + 9 * k) i F = (vp_in i 16 ∧ F (S.1 7 k i.toNatClampNeg)) := eg_ia_of (w_Tou_y_ hk)
theorem t_Tou_y (hk : k < 2) {i : Int32} {v : Int32} {F : List eg_E → Prop} : eg_is (WX S t) (10 + 9 * k) i v F = (vp_in i 16 ∧ F (WX (sI S 7 k (upd (S.1 7 k) i.toNatClampNeg v)) t)) := eg_is_of (w_Tou_y_ hk) (u_Tou_y_ hk)
theorem l_Tou_y (hk : k < 2) {F : Int32 → Prop} : eg_al (WX S t) (10 + 9 * k) F = F (Int32.ofNat 16) := eg_al_of (w_Tou_y_ hk) (by decide)
theorem g_Tou_z (hk : k < 2) {F : Value → Prop} : eg_gf (WX S t) (8 + 9 * k) 10 2 F = F (.ref (11 + 9 * k + 1)) := eg_gf_of (w_Tou hk) rfl
theorem w_Tou_z_ (hk : k < 2) : (WX S t)[(11 + 9 * k)]? = some (.inl (0, 16, .inl (S.1 8 k))) := by
  match k, hk with
  | 0, _ => exact rfl
  | 1, _ => exact rfl
set_option maxRecDepth 20000 in
theorem u_Tou_z_ (hk : k < 2) {g : Nat → Int32} : (WX S t).set (11 + 9 * k) (.inl (0, 16, .inl (g))) = WX (sI S 8 k (g)) t := by
  match k, hk with
  | 0, _ => exact rfl
  | 1, _ => exact rfl
theorem r_Tou_z (hk : k < 2) {i : Int32} {F : Int32 → Prop} : eg_ia (WX S t) (11 + 9 * k) i F = (vp_in i 16 ∧ F (S.1 8 k i.toNatClampNeg)) := eg_ia_of (w_Tou_z_ hk)
theorem t_Tou_z (hk : k < 2) {i : Int32} {v : Int32} {F : List eg_E → Prop} : eg_is (WX S t) (11 + 9 * k) i v F = (vp_in i 16 ∧ F (WX (sI S 8 k (upd (S.1 8 k) i.toNatClampNeg v)) t)) := eg_is_of (w_Tou_z_ hk) (u_Tou_z_ hk)
theorem l_Tou_z (hk : k < 2) {F : Int32 → Prop} : eg_al (WX S t) (11 + 9 * k) F = F (Int32.ofNat 16) := eg_al_of (w_Tou_z_ hk) (by decide)
theorem g_Tou_number (hk : k < 2) {F : Value → Prop} : eg_gf (WX S t) (8 + 9 * k) 10 3 F = F (.ref (12 + 9 * k + 1)) := eg_gf_of (w_Tou hk) rfl
theorem w_Tou_number_ (hk : k < 2) : (WX S t)[(12 + 9 * k)]? = some (.inl (0, 16, .inl (S.1 9 k))) := by
  match k, hk with
  | 0, _ => exact rfl
  | 1, _ => exact rfl
set_option maxRecDepth 20000 in
theorem u_Tou_number_ (hk : k < 2) {g : Nat → Int32} : (WX S t).set (12 + 9 * k) (.inl (0, 16, .inl (g))) = WX (sI S 9 k (g)) t := by
  match k, hk with
  | 0, _ => exact rfl
  | 1, _ => exact rfl
theorem r_Tou_number (hk : k < 2) {i : Int32} {F : Int32 → Prop} : eg_ia (WX S t) (12 + 9 * k) i F = (vp_in i 16 ∧ F (S.1 9 k i.toNatClampNeg)) := eg_ia_of (w_Tou_number_ hk)
theorem t_Tou_number (hk : k < 2) {i : Int32} {v : Int32} {F : List eg_E → Prop} : eg_is (WX S t) (12 + 9 * k) i v F = (vp_in i 16 ∧ F (WX (sI S 9 k (upd (S.1 9 k) i.toNatClampNeg v)) t)) := eg_is_of (w_Tou_number_ hk) (u_Tou_number_ hk)
theorem l_Tou_number (hk : k < 2) {F : Int32 → Prop} : eg_al (WX S t) (12 + 9 * k) F = F (Int32.ofNat 16) := eg_al_of (w_Tou_number_ hk) (by decide)
theorem g_Tou_count (hk : k < 2) {F : Value → Prop} : eg_gf (WX S t) (8 + 9 * k) 10 4 F = F (.int (S.1 10 k 0)) := eg_gf_of (w_Tou hk) rfl
set_option maxRecDepth 20000 in
theorem u_Tou_count (hk : k < 2) {v : Int32} : (WX S t).set (8 + 9 * k) (.inr (10, [.ref (9 + 9 * k + 1), .ref (10 + 9 * k + 1), .ref (11 + 9 * k + 1), .ref (12 + 9 * k + 1), .int v])) = WX (sI S 10 k (fun _ => v)) t := by
  match k, hk with
  | 0, _ => exact rfl
  | 1, _ => exact rfl
theorem f_Tou_count (hk : k < 2) {v : Int32} {F : List eg_E → Prop} : eg_pf (WX S t) (8 + 9 * k) 10 4 (.int v) F = F (WX (sI S 10 k (fun _ => v)) t) := eg_pf_of (w_Tou hk) (Nat.le_of_ble_eq_true rfl) rfl (u_Tou_count hk)
theorem w_Circ  : (WX S t)[16]? = some (.inr (1, [.ref 18, .int (S.1 11 0 0), .long (S.2.1 5 0 0), .long (S.2.1 6 0 0), .long (S.2.1 7 0 0)])) := rfl
theorem k_Circ  : eg_cls (WX S t) 16 1 = True := eg_cls_of (w_Circ)
theorem g_Circ_points  {F : Value → Prop} : eg_gf (WX S t) 16 1 0 F = F (.ref 18) := eg_gf_of (w_Circ) rfl
theorem g_Circ_anchor  {F : Value → Prop} : eg_gf (WX S t) 16 1 1 F = F (.int (S.1 11 0 0)) := eg_gf_of (w_Circ) rfl
set_option maxRecDepth 20000 in
theorem u_Circ_anchor  {v : Int32} : (WX S t).set 16 (.inr (1, [.ref 18, .int v, .long (S.2.1 5 0 0), .long (S.2.1 6 0 0), .long (S.2.1 7 0 0)])) = WX (sI S 11 0 (fun _ => v)) t := rfl
theorem f_Circ_anchor  {v : Int32} {F : List eg_E → Prop} : eg_pf (WX S t) 16 1 1 (.int v) F = F (WX (sI S 11 0 (fun _ => v)) t) := eg_pf_of (w_Circ) (Nat.le_of_ble_eq_true rfl) rfl (u_Circ_anchor)
theorem g_Circ_middleX  {F : Value → Prop} : eg_gf (WX S t) 16 1 2 F = F (.long (S.2.1 5 0 0)) := eg_gf_of (w_Circ) rfl
set_option maxRecDepth 20000 in
theorem u_Circ_middleX  {v : Int64} : (WX S t).set 16 (.inr (1, [.ref 18, .int (S.1 11 0 0), .long v, .long (S.2.1 6 0 0), .long (S.2.1 7 0 0)])) = WX (sL S 5 0 (fun _ => v)) t := rfl
theorem f_Circ_middleX  {v : Int64} {F : List eg_E → Prop} : eg_pf (WX S t) 16 1 2 (.long v) F = F (WX (sL S 5 0 (fun _ => v)) t) := eg_pf_of (w_Circ) (Nat.le_of_ble_eq_true rfl) rfl (u_Circ_middleX)
theorem g_Circ_middleY  {F : Value → Prop} : eg_gf (WX S t) 16 1 3 F = F (.long (S.2.1 6 0 0)) := eg_gf_of (w_Circ) rfl
set_option maxRecDepth 20000 in
theorem u_Circ_middleY  {v : Int64} : (WX S t).set 16 (.inr (1, [.ref 18, .int (S.1 11 0 0), .long (S.2.1 5 0 0), .long v, .long (S.2.1 7 0 0)])) = WX (sL S 6 0 (fun _ => v)) t := rfl
theorem f_Circ_middleY  {v : Int64} {F : List eg_E → Prop} : eg_pf (WX S t) 16 1 3 (.long v) F = F (WX (sL S 6 0 (fun _ => v)) t) := eg_pf_of (w_Circ) (Nat.le_of_ble_eq_true rfl) rfl (u_Circ_middleY)
theorem g_Circ_scale  {F : Value → Prop} : eg_gf (WX S t) 16 1 4 F = F (.long (S.2.1 7 0 0)) := eg_gf_of (w_Circ) rfl
set_option maxRecDepth 20000 in
theorem u_Circ_scale  {v : Int64} : (WX S t).set 16 (.inr (1, [.ref 18, .int (S.1 11 0 0), .long (S.2.1 5 0 0), .long (S.2.1 6 0 0), .long v])) = WX (sL S 7 0 (fun _ => v)) t := rfl
theorem f_Circ_scale  {v : Int64} {F : List eg_E → Prop} : eg_pf (WX S t) 16 1 4 (.long v) F = F (WX (sL S 7 0 (fun _ => v)) t) := eg_pf_of (w_Circ) (Nat.le_of_ble_eq_true rfl) rfl (u_Circ_scale)
theorem w_Frame  : (WX S t)[22]? = some (.inr (5, [.ref 24, .int (S.1 12 0 0), .int (S.1 13 0 0), .int (S.1 14 0 0), .int (S.1 15 0 0)])) := rfl
theorem k_Frame  : eg_cls (WX S t) 22 5 = True := eg_cls_of (w_Frame)
theorem g_Frame_ways  {F : Value → Prop} : eg_gf (WX S t) 22 5 0 F = F (.ref 24) := eg_gf_of (w_Frame) rfl
theorem w_Frame_ways_  : (WX S t)[23]? = some (.inl (1, 9, .inr (.inl (S.2.1 8 0)))) := rfl
set_option maxRecDepth 20000 in
theorem u_Frame_ways_  {g : Nat → Int64} : (WX S t).set 23 (.inl (1, 9, .inr (.inl (g)))) = WX (sL S 8 0 (g)) t := rfl
theorem r_Frame_ways  {i : Int32} {F : Int64 → Prop} : eg_la (WX S t) 23 i F = (vp_in i 9 ∧ F (S.2.1 8 0 i.toNatClampNeg)) := eg_la_of (w_Frame_ways_)
theorem t_Frame_ways  {i : Int32} {v : Int64} {F : List eg_E → Prop} : eg_lst (WX S t) 23 i v F = (vp_in i 9 ∧ F (WX (sL S 8 0 (vp_updL (S.2.1 8 0) i.toNatClampNeg v)) t)) := eg_lst_of (w_Frame_ways_) (u_Frame_ways_)
theorem l_Frame_ways  {F : Int32 → Prop} : eg_al (WX S t) 23 F = F (Int32.ofNat 9) := eg_al_of (w_Frame_ways_) (by decide)
theorem g_Frame_laid  {F : Value → Prop} : eg_gf (WX S t) 22 5 1 F = F (.int (S.1 12 0 0)) := eg_gf_of (w_Frame) rfl
set_option maxRecDepth 20000 in
theorem u_Frame_laid  {v : Int32} : (WX S t).set 22 (.inr (5, [.ref 24, .int v, .int (S.1 13 0 0), .int (S.1 14 0 0), .int (S.1 15 0 0)])) = WX (sI S 12 0 (fun _ => v)) t := rfl
theorem f_Frame_laid  {v : Int32} {F : List eg_E → Prop} : eg_pb (WX S t) 22 5 1 v F = ((v = 0 ∨ v = 1) ∧ F (WX (sI S 12 0 (fun _ => v)) t)) := eg_pb_of (w_Frame) (Nat.le_of_ble_eq_true rfl) (u_Frame_laid)
theorem g_Frame_beginX  {F : Value → Prop} : eg_gf (WX S t) 22 5 2 F = F (.int (S.1 13 0 0)) := eg_gf_of (w_Frame) rfl
set_option maxRecDepth 20000 in
theorem u_Frame_beginX  {v : Int32} : (WX S t).set 22 (.inr (5, [.ref 24, .int (S.1 12 0 0), .int v, .int (S.1 14 0 0), .int (S.1 15 0 0)])) = WX (sI S 13 0 (fun _ => v)) t := rfl
theorem f_Frame_beginX  {v : Int32} {F : List eg_E → Prop} : eg_pf (WX S t) 22 5 2 (.int v) F = F (WX (sI S 13 0 (fun _ => v)) t) := eg_pf_of (w_Frame) (Nat.le_of_ble_eq_true rfl) rfl (u_Frame_beginX)
theorem g_Frame_beginY  {F : Value → Prop} : eg_gf (WX S t) 22 5 3 F = F (.int (S.1 14 0 0)) := eg_gf_of (w_Frame) rfl
set_option maxRecDepth 20000 in
theorem u_Frame_beginY  {v : Int32} : (WX S t).set 22 (.inr (5, [.ref 24, .int (S.1 12 0 0), .int (S.1 13 0 0), .int v, .int (S.1 15 0 0)])) = WX (sI S 14 0 (fun _ => v)) t := rfl
theorem f_Frame_beginY  {v : Int32} {F : List eg_E → Prop} : eg_pf (WX S t) 22 5 3 (.int v) F = F (WX (sI S 14 0 (fun _ => v)) t) := eg_pf_of (w_Frame) (Nat.le_of_ble_eq_true rfl) rfl (u_Frame_beginY)
theorem g_Frame_beginZ  {F : Value → Prop} : eg_gf (WX S t) 22 5 4 F = F (.int (S.1 15 0 0)) := eg_gf_of (w_Frame) rfl
set_option maxRecDepth 20000 in
theorem u_Frame_beginZ  {v : Int32} : (WX S t).set 22 (.inr (5, [.ref 24, .int (S.1 12 0 0), .int (S.1 13 0 0), .int (S.1 14 0 0), .int v])) = WX (sI S 15 0 (fun _ => v)) t := rfl
theorem f_Frame_beginZ  {v : Int32} {F : List eg_E → Prop} : eg_pf (WX S t) 22 5 4 (.int v) F = F (WX (sI S 15 0 (fun _ => v)) t) := eg_pf_of (w_Frame) (Nat.le_of_ble_eq_true rfl) rfl (u_Frame_beginZ)
theorem w_Outl  : (WX S t)[24]? = some (.inr (7, [.ref 26, .int (S.1 16 0 0), .ref 27, .ref 28, .long (S.2.1 9 0 0), .long (S.2.1 10 0 0)])) := rfl
theorem k_Outl  : eg_cls (WX S t) 24 7 = True := eg_cls_of (w_Outl)
theorem g_Outl_least  {F : Value → Prop} : eg_gf (WX S t) 24 7 0 F = F (.ref 26) := eg_gf_of (w_Outl) rfl
theorem g_Outl_count  {F : Value → Prop} : eg_gf (WX S t) 24 7 1 F = F (.int (S.1 16 0 0)) := eg_gf_of (w_Outl) rfl
set_option maxRecDepth 20000 in
theorem u_Outl_count  {v : Int32} : (WX S t).set 24 (.inr (7, [.ref 26, .int v, .ref 27, .ref 28, .long (S.2.1 9 0 0), .long (S.2.1 10 0 0)])) = WX (sI S 16 0 (fun _ => v)) t := rfl
theorem f_Outl_count  {v : Int32} {F : List eg_E → Prop} : eg_pf (WX S t) 24 7 1 (.int v) F = F (WX (sI S 16 0 (fun _ => v)) t) := eg_pf_of (w_Outl) (Nat.le_of_ble_eq_true rfl) rfl (u_Outl_count)
theorem g_Outl_x  {F : Value → Prop} : eg_gf (WX S t) 24 7 2 F = F (.ref 27) := eg_gf_of (w_Outl) rfl
theorem w_Outl_x_  : (WX S t)[26]? = some (.inl (0, 10, .inl (S.1 17 0))) := rfl
set_option maxRecDepth 20000 in
theorem u_Outl_x_  {g : Nat → Int32} : (WX S t).set 26 (.inl (0, 10, .inl (g))) = WX (sI S 17 0 (g)) t := rfl
theorem r_Outl_x  {i : Int32} {F : Int32 → Prop} : eg_ia (WX S t) 26 i F = (vp_in i 10 ∧ F (S.1 17 0 i.toNatClampNeg)) := eg_ia_of (w_Outl_x_)
theorem t_Outl_x  {i : Int32} {v : Int32} {F : List eg_E → Prop} : eg_is (WX S t) 26 i v F = (vp_in i 10 ∧ F (WX (sI S 17 0 (upd (S.1 17 0) i.toNatClampNeg v)) t)) := eg_is_of (w_Outl_x_) (u_Outl_x_)
theorem l_Outl_x  {F : Int32 → Prop} : eg_al (WX S t) 26 F = F (Int32.ofNat 10) := eg_al_of (w_Outl_x_) (by decide)
theorem g_Outl_y  {F : Value → Prop} : eg_gf (WX S t) 24 7 3 F = F (.ref 28) := eg_gf_of (w_Outl) rfl
theorem w_Outl_y_  : (WX S t)[27]? = some (.inl (0, 10, .inl (S.1 18 0))) := rfl
set_option maxRecDepth 20000 in
theorem u_Outl_y_  {g : Nat → Int32} : (WX S t).set 27 (.inl (0, 10, .inl (g))) = WX (sI S 18 0 (g)) t := rfl
theorem r_Outl_y  {i : Int32} {F : Int32 → Prop} : eg_ia (WX S t) 27 i F = (vp_in i 10 ∧ F (S.1 18 0 i.toNatClampNeg)) := eg_ia_of (w_Outl_y_)
theorem t_Outl_y  {i : Int32} {v : Int32} {F : List eg_E → Prop} : eg_is (WX S t) 27 i v F = (vp_in i 10 ∧ F (WX (sI S 18 0 (upd (S.1 18 0) i.toNatClampNeg v)) t)) := eg_is_of (w_Outl_y_) (u_Outl_y_)
theorem l_Outl_y  {F : Int32 → Prop} : eg_al (WX S t) 27 F = F (Int32.ofNat 10) := eg_al_of (w_Outl_y_) (by decide)
theorem g_Outl_squareAbove  {F : Value → Prop} : eg_gf (WX S t) 24 7 4 F = F (.long (S.2.1 9 0 0)) := eg_gf_of (w_Outl) rfl
set_option maxRecDepth 20000 in
theorem u_Outl_squareAbove  {v : Int64} : (WX S t).set 24 (.inr (7, [.ref 26, .int (S.1 16 0 0), .ref 27, .ref 28, .long v, .long (S.2.1 10 0 0)])) = WX (sL S 9 0 (fun _ => v)) t := rfl
theorem f_Outl_squareAbove  {v : Int64} {F : List eg_E → Prop} : eg_pf (WX S t) 24 7 4 (.long v) F = F (WX (sL S 9 0 (fun _ => v)) t) := eg_pf_of (w_Outl) (Nat.le_of_ble_eq_true rfl) rfl (u_Outl_squareAbove)
theorem g_Outl_squareBelow  {F : Value → Prop} : eg_gf (WX S t) 24 7 5 F = F (.long (S.2.1 10 0 0)) := eg_gf_of (w_Outl) rfl
set_option maxRecDepth 20000 in
theorem u_Outl_squareBelow  {v : Int64} : (WX S t).set 24 (.inr (7, [.ref 26, .int (S.1 16 0 0), .ref 27, .ref 28, .long (S.2.1 9 0 0), .long v])) = WX (sL S 10 0 (fun _ => v)) t := rfl
theorem f_Outl_squareBelow  {v : Int64} {F : List eg_E → Prop} : eg_pf (WX S t) 24 7 5 (.long v) F = F (WX (sL S 10 0 (fun _ => v)) t) := eg_pf_of (w_Outl) (Nat.le_of_ble_eq_true rfl) rfl (u_Outl_squareBelow)
theorem w_Boxes  : (WX S t)[28]? = some (.inr (0, [.int (S.1 19 0 0), .ref 30, .ref 31, .long (S.2.1 11 0 0), .long (S.2.1 12 0 0), .long (S.2.1 13 0 0), .long (S.2.1 14 0 0)])) := rfl
theorem k_Boxes  : eg_cls (WX S t) 28 0 = True := eg_cls_of (w_Boxes)
theorem g_Boxes_count  {F : Value → Prop} : eg_gf (WX S t) 28 0 0 F = F (.int (S.1 19 0 0)) := eg_gf_of (w_Boxes) rfl
set_option maxRecDepth 20000 in
theorem u_Boxes_count  {v : Int32} : (WX S t).set 28 (.inr (0, [.int v, .ref 30, .ref 31, .long (S.2.1 11 0 0), .long (S.2.1 12 0 0), .long (S.2.1 13 0 0), .long (S.2.1 14 0 0)])) = WX (sI S 19 0 (fun _ => v)) t := rfl
theorem f_Boxes_count  {v : Int32} {F : List eg_E → Prop} : eg_pf (WX S t) 28 0 0 (.int v) F = F (WX (sI S 19 0 (fun _ => v)) t) := eg_pf_of (w_Boxes) (Nat.le_of_ble_eq_true rfl) rfl (u_Boxes_count)
theorem g_Boxes_least  {F : Value → Prop} : eg_gf (WX S t) 28 0 1 F = F (.ref 30) := eg_gf_of (w_Boxes) rfl
theorem w_Boxes_least_  : (WX S t)[29]? = some (.inl (0, 18, .inl (S.1 20 0))) := rfl
set_option maxRecDepth 20000 in
theorem u_Boxes_least_  {g : Nat → Int32} : (WX S t).set 29 (.inl (0, 18, .inl (g))) = WX (sI S 20 0 (g)) t := rfl
theorem r_Boxes_least  {i : Int32} {F : Int32 → Prop} : eg_ia (WX S t) 29 i F = (vp_in i 18 ∧ F (S.1 20 0 i.toNatClampNeg)) := eg_ia_of (w_Boxes_least_)
theorem t_Boxes_least  {i : Int32} {v : Int32} {F : List eg_E → Prop} : eg_is (WX S t) 29 i v F = (vp_in i 18 ∧ F (WX (sI S 20 0 (upd (S.1 20 0) i.toNatClampNeg v)) t)) := eg_is_of (w_Boxes_least_) (u_Boxes_least_)
theorem l_Boxes_least  {F : Int32 → Prop} : eg_al (WX S t) 29 F = F (Int32.ofNat 18) := eg_al_of (w_Boxes_least_) (by decide)
theorem g_Boxes_most  {F : Value → Prop} : eg_gf (WX S t) 28 0 2 F = F (.ref 31) := eg_gf_of (w_Boxes) rfl
theorem w_Boxes_most_  : (WX S t)[30]? = some (.inl (0, 18, .inl (S.1 21 0))) := rfl
set_option maxRecDepth 20000 in
theorem u_Boxes_most_  {g : Nat → Int32} : (WX S t).set 30 (.inl (0, 18, .inl (g))) = WX (sI S 21 0 (g)) t := rfl
theorem r_Boxes_most  {i : Int32} {F : Int32 → Prop} : eg_ia (WX S t) 30 i F = (vp_in i 18 ∧ F (S.1 21 0 i.toNatClampNeg)) := eg_ia_of (w_Boxes_most_)
theorem t_Boxes_most  {i : Int32} {v : Int32} {F : List eg_E → Prop} : eg_is (WX S t) 30 i v F = (vp_in i 18 ∧ F (WX (sI S 21 0 (upd (S.1 21 0) i.toNatClampNeg v)) t)) := eg_is_of (w_Boxes_most_) (u_Boxes_most_)
theorem l_Boxes_most  {F : Int32 → Prop} : eg_al (WX S t) 30 F = F (Int32.ofNat 18) := eg_al_of (w_Boxes_most_) (by decide)
theorem g_Boxes_enterAbove  {F : Value → Prop} : eg_gf (WX S t) 28 0 3 F = F (.long (S.2.1 11 0 0)) := eg_gf_of (w_Boxes) rfl
set_option maxRecDepth 20000 in
theorem u_Boxes_enterAbove  {v : Int64} : (WX S t).set 28 (.inr (0, [.int (S.1 19 0 0), .ref 30, .ref 31, .long v, .long (S.2.1 12 0 0), .long (S.2.1 13 0 0), .long (S.2.1 14 0 0)])) = WX (sL S 11 0 (fun _ => v)) t := rfl
theorem f_Boxes_enterAbove  {v : Int64} {F : List eg_E → Prop} : eg_pf (WX S t) 28 0 3 (.long v) F = F (WX (sL S 11 0 (fun _ => v)) t) := eg_pf_of (w_Boxes) (Nat.le_of_ble_eq_true rfl) rfl (u_Boxes_enterAbove)
theorem g_Boxes_enterBelow  {F : Value → Prop} : eg_gf (WX S t) 28 0 4 F = F (.long (S.2.1 12 0 0)) := eg_gf_of (w_Boxes) rfl
set_option maxRecDepth 20000 in
theorem u_Boxes_enterBelow  {v : Int64} : (WX S t).set 28 (.inr (0, [.int (S.1 19 0 0), .ref 30, .ref 31, .long (S.2.1 11 0 0), .long v, .long (S.2.1 13 0 0), .long (S.2.1 14 0 0)])) = WX (sL S 12 0 (fun _ => v)) t := rfl
theorem f_Boxes_enterBelow  {v : Int64} {F : List eg_E → Prop} : eg_pf (WX S t) 28 0 4 (.long v) F = F (WX (sL S 12 0 (fun _ => v)) t) := eg_pf_of (w_Boxes) (Nat.le_of_ble_eq_true rfl) rfl (u_Boxes_enterBelow)
theorem g_Boxes_leaveAbove  {F : Value → Prop} : eg_gf (WX S t) 28 0 5 F = F (.long (S.2.1 13 0 0)) := eg_gf_of (w_Boxes) rfl
set_option maxRecDepth 20000 in
theorem u_Boxes_leaveAbove  {v : Int64} : (WX S t).set 28 (.inr (0, [.int (S.1 19 0 0), .ref 30, .ref 31, .long (S.2.1 11 0 0), .long (S.2.1 12 0 0), .long v, .long (S.2.1 14 0 0)])) = WX (sL S 13 0 (fun _ => v)) t := rfl
theorem f_Boxes_leaveAbove  {v : Int64} {F : List eg_E → Prop} : eg_pf (WX S t) 28 0 5 (.long v) F = F (WX (sL S 13 0 (fun _ => v)) t) := eg_pf_of (w_Boxes) (Nat.le_of_ble_eq_true rfl) rfl (u_Boxes_leaveAbove)
theorem g_Boxes_leaveBelow  {F : Value → Prop} : eg_gf (WX S t) 28 0 6 F = F (.long (S.2.1 14 0 0)) := eg_gf_of (w_Boxes) rfl
set_option maxRecDepth 20000 in
theorem u_Boxes_leaveBelow  {v : Int64} : (WX S t).set 28 (.inr (0, [.int (S.1 19 0 0), .ref 30, .ref 31, .long (S.2.1 11 0 0), .long (S.2.1 12 0 0), .long (S.2.1 13 0 0), .long v])) = WX (sL S 14 0 (fun _ => v)) t := rfl
theorem f_Boxes_leaveBelow  {v : Int64} {F : List eg_E → Prop} : eg_pf (WX S t) 28 0 6 (.long v) F = F (WX (sL S 14 0 (fun _ => v)) t) := eg_pf_of (w_Boxes) (Nat.le_of_ble_eq_true rfl) rfl (u_Boxes_leaveBelow)
theorem w_Part (hk : k < 4) : (WX S t)[(31 + 5 * k)]? = some (.inr (8, [.ref (32 + 5 * k + 1), .ref (33 + 5 * k + 1), .ref (34 + 5 * k + 1), .ref (35 + 5 * k + 1), .int (S.1 26 k 0)])) := by
  match k, hk with
  | 0, _ => exact rfl
  | 1, _ => exact rfl
  | 2, _ => exact rfl
  | 3, _ => exact rfl
theorem k_Part (hk : k < 4) : eg_cls (WX S t) (31 + 5 * k) 8 = True := eg_cls_of (w_Part hk)
theorem g_Part_x (hk : k < 4) {F : Value → Prop} : eg_gf (WX S t) (31 + 5 * k) 8 0 F = F (.ref (32 + 5 * k + 1)) := eg_gf_of (w_Part hk) rfl
theorem w_Part_x_ (hk : k < 4) : (WX S t)[(32 + 5 * k)]? = some (.inl (0, 16, .inl (S.1 22 k))) := by
  match k, hk with
  | 0, _ => exact rfl
  | 1, _ => exact rfl
  | 2, _ => exact rfl
  | 3, _ => exact rfl
set_option maxRecDepth 20000 in
theorem u_Part_x_ (hk : k < 4) {g : Nat → Int32} : (WX S t).set (32 + 5 * k) (.inl (0, 16, .inl (g))) = WX (sI S 22 k (g)) t := by
  match k, hk with
  | 0, _ => exact rfl
  | 1, _ => exact rfl
  | 2, _ => exact rfl
  | 3, _ => exact rfl
theorem r_Part_x (hk : k < 4) {i : Int32} {F : Int32 → Prop} : eg_ia (WX S t) (32 + 5 * k) i F = (vp_in i 16 ∧ F (S.1 22 k i.toNatClampNeg)) := eg_ia_of (w_Part_x_ hk)
theorem t_Part_x (hk : k < 4) {i : Int32} {v : Int32} {F : List eg_E → Prop} : eg_is (WX S t) (32 + 5 * k) i v F = (vp_in i 16 ∧ F (WX (sI S 22 k (upd (S.1 22 k) i.toNatClampNeg v)) t)) := eg_is_of (w_Part_x_ hk) (u_Part_x_ hk)
theorem l_Part_x (hk : k < 4) {F : Int32 → Prop} : eg_al (WX S t) (32 + 5 * k) F = F (Int32.ofNat 16) := eg_al_of (w_Part_x_ hk) (by decide)
theorem g_Part_y (hk : k < 4) {F : Value → Prop} : eg_gf (WX S t) (31 + 5 * k) 8 1 F = F (.ref (33 + 5 * k + 1)) := eg_gf_of (w_Part hk) rfl
theorem w_Part_y_ (hk : k < 4) : (WX S t)[(33 + 5 * k)]? = some (.inl (0, 16, .inl (S.1 23 k))) := by
  match k, hk with
  | 0, _ => exact rfl
  | 1, _ => exact rfl
  | 2, _ => exact rfl
  | 3, _ => exact rfl
set_option maxRecDepth 20000 in
theorem u_Part_y_ (hk : k < 4) {g : Nat → Int32} : (WX S t).set (33 + 5 * k) (.inl (0, 16, .inl (g))) = WX (sI S 23 k (g)) t := by
  match k, hk with
  | 0, _ => exact rfl
  | 1, _ => exact rfl
  | 2, _ => exact rfl
  | 3, _ => exact rfl
theorem r_Part_y (hk : k < 4) {i : Int32} {F : Int32 → Prop} : eg_ia (WX S t) (33 + 5 * k) i F = (vp_in i 16 ∧ F (S.1 23 k i.toNatClampNeg)) := eg_ia_of (w_Part_y_ hk)
theorem t_Part_y (hk : k < 4) {i : Int32} {v : Int32} {F : List eg_E → Prop} : eg_is (WX S t) (33 + 5 * k) i v F = (vp_in i 16 ∧ F (WX (sI S 23 k (upd (S.1 23 k) i.toNatClampNeg v)) t)) := eg_is_of (w_Part_y_ hk) (u_Part_y_ hk)
theorem l_Part_y (hk : k < 4) {F : Int32 → Prop} : eg_al (WX S t) (33 + 5 * k) F = F (Int32.ofNat 16) := eg_al_of (w_Part_y_ hk) (by decide)
theorem g_Part_z (hk : k < 4) {F : Value → Prop} : eg_gf (WX S t) (31 + 5 * k) 8 2 F = F (.ref (34 + 5 * k + 1)) := eg_gf_of (w_Part hk) rfl
theorem w_Part_z_ (hk : k < 4) : (WX S t)[(34 + 5 * k)]? = some (.inl (0, 16, .inl (S.1 24 k))) := by
  match k, hk with
  | 0, _ => exact rfl
  | 1, _ => exact rfl
  | 2, _ => exact rfl
  | 3, _ => exact rfl
set_option maxRecDepth 20000 in
theorem u_Part_z_ (hk : k < 4) {g : Nat → Int32} : (WX S t).set (34 + 5 * k) (.inl (0, 16, .inl (g))) = WX (sI S 24 k (g)) t := by
  match k, hk with
  | 0, _ => exact rfl
  | 1, _ => exact rfl
  | 2, _ => exact rfl
  | 3, _ => exact rfl
theorem r_Part_z (hk : k < 4) {i : Int32} {F : Int32 → Prop} : eg_ia (WX S t) (34 + 5 * k) i F = (vp_in i 16 ∧ F (S.1 24 k i.toNatClampNeg)) := eg_ia_of (w_Part_z_ hk)
theorem t_Part_z (hk : k < 4) {i : Int32} {v : Int32} {F : List eg_E → Prop} : eg_is (WX S t) (34 + 5 * k) i v F = (vp_in i 16 ∧ F (WX (sI S 24 k (upd (S.1 24 k) i.toNatClampNeg v)) t)) := eg_is_of (w_Part_z_ hk) (u_Part_z_ hk)
theorem l_Part_z (hk : k < 4) {F : Int32 → Prop} : eg_al (WX S t) (34 + 5 * k) F = F (Int32.ofNat 16) := eg_al_of (w_Part_z_ hk) (by decide)
theorem g_Part_missed (hk : k < 4) {F : Value → Prop} : eg_gf (WX S t) (31 + 5 * k) 8 3 F = F (.ref (35 + 5 * k + 1)) := eg_gf_of (w_Part hk) rfl
theorem w_Part_missed_ (hk : k < 4) : (WX S t)[(35 + 5 * k)]? = some (.inl (2, 16, .inl (S.1 25 k))) := by
  match k, hk with
  | 0, _ => exact rfl
  | 1, _ => exact rfl
  | 2, _ => exact rfl
  | 3, _ => exact rfl
set_option maxRecDepth 20000 in
theorem u_Part_missed_ (hk : k < 4) {g : Nat → Int32} : (WX S t).set (35 + 5 * k) (.inl (2, 16, .inl (g))) = WX (sI S 25 k (g)) t := by
  match k, hk with
  | 0, _ => exact rfl
  | 1, _ => exact rfl
  | 2, _ => exact rfl
  | 3, _ => exact rfl
theorem r_Part_missed (hk : k < 4) {i : Int32} {F : Int32 → Prop} : eg_ba (WX S t) (35 + 5 * k) i F = (vp_in i 16 ∧ F (S.1 25 k i.toNatClampNeg)) := eg_ba_of (w_Part_missed_ hk)
theorem t_Part_missed (hk : k < 4) {i : Int32} {v : Int32} {F : List eg_E → Prop} : eg_bs (WX S t) (35 + 5 * k) i v F = (vp_in i 16 ∧ F (WX (sI S 25 k (upd (S.1 25 k) i.toNatClampNeg (vp_nar .boolean v))) t)) := eg_bs_of (w_Part_missed_ hk) (u_Part_missed_ hk)
theorem l_Part_missed (hk : k < 4) {F : Int32 → Prop} : eg_al (WX S t) (35 + 5 * k) F = F (Int32.ofNat 16) := eg_al_of (w_Part_missed_ hk) (by decide)
theorem g_Part_count (hk : k < 4) {F : Value → Prop} : eg_gf (WX S t) (31 + 5 * k) 8 4 F = F (.int (S.1 26 k 0)) := eg_gf_of (w_Part hk) rfl
set_option maxRecDepth 20000 in
theorem u_Part_count (hk : k < 4) {v : Int32} : (WX S t).set (31 + 5 * k) (.inr (8, [.ref (32 + 5 * k + 1), .ref (33 + 5 * k + 1), .ref (34 + 5 * k + 1), .ref (35 + 5 * k + 1), .int v])) = WX (sI S 26 k (fun _ => v)) t := by
  match k, hk with
  | 0, _ => exact rfl
  | 1, _ => exact rfl
  | 2, _ => exact rfl
  | 3, _ => exact rfl
theorem f_Part_count (hk : k < 4) {v : Int32} {F : List eg_E → Prop} : eg_pf (WX S t) (31 + 5 * k) 8 4 (.int v) F = F (WX (sI S 26 k (fun _ => v)) t) := eg_pf_of (w_Part hk) (Nat.le_of_ble_eq_true rfl) rfl (u_Part_count hk)
theorem w_Sheet (hk : k < 4) : (WX S t)[(51 + 2 * k)]? = some (.inr (9, [.ref (52 + 2 * k + 1), .int (S.1 28 k 0), .int (S.1 29 k 0)])) := by
  match k, hk with
  | 0, _ => exact rfl
  | 1, _ => exact rfl
  | 2, _ => exact rfl
  | 3, _ => exact rfl
theorem k_Sheet (hk : k < 4) : eg_cls (WX S t) (51 + 2 * k) 9 = True := eg_cls_of (w_Sheet hk)
theorem g_Sheet_numbers (hk : k < 4) {F : Value → Prop} : eg_gf (WX S t) (51 + 2 * k) 9 0 F = F (.ref (52 + 2 * k + 1)) := eg_gf_of (w_Sheet hk) rfl
theorem w_Sheet_numbers_ (hk : k < 4) : (WX S t)[(52 + 2 * k)]? = some (.inl (0, 48, .inl (S.1 27 k))) := by
  match k, hk with
  | 0, _ => exact rfl
  | 1, _ => exact rfl
  | 2, _ => exact rfl
  | 3, _ => exact rfl
set_option maxRecDepth 20000 in
theorem u_Sheet_numbers_ (hk : k < 4) {g : Nat → Int32} : (WX S t).set (52 + 2 * k) (.inl (0, 48, .inl (g))) = WX (sI S 27 k (g)) t := by
  match k, hk with
  | 0, _ => exact rfl
  | 1, _ => exact rfl
  | 2, _ => exact rfl
  | 3, _ => exact rfl
theorem r_Sheet_numbers (hk : k < 4) {i : Int32} {F : Int32 → Prop} : eg_ia (WX S t) (52 + 2 * k) i F = (vp_in i 48 ∧ F (S.1 27 k i.toNatClampNeg)) := eg_ia_of (w_Sheet_numbers_ hk)
theorem t_Sheet_numbers (hk : k < 4) {i : Int32} {v : Int32} {F : List eg_E → Prop} : eg_is (WX S t) (52 + 2 * k) i v F = (vp_in i 48 ∧ F (WX (sI S 27 k (upd (S.1 27 k) i.toNatClampNeg v)) t)) := eg_is_of (w_Sheet_numbers_ hk) (u_Sheet_numbers_ hk)
theorem l_Sheet_numbers (hk : k < 4) {F : Int32 → Prop} : eg_al (WX S t) (52 + 2 * k) F = F (Int32.ofNat 48) := eg_al_of (w_Sheet_numbers_ hk) (by decide)
theorem g_Sheet_kind (hk : k < 4) {F : Value → Prop} : eg_gf (WX S t) (51 + 2 * k) 9 1 F = F (.int (S.1 28 k 0)) := eg_gf_of (w_Sheet hk) rfl
set_option maxRecDepth 20000 in
theorem u_Sheet_kind (hk : k < 4) {v : Int32} : (WX S t).set (51 + 2 * k) (.inr (9, [.ref (52 + 2 * k + 1), .int v, .int (S.1 29 k 0)])) = WX (sI S 28 k (fun _ => v)) t := by
  match k, hk with
  | 0, _ => exact rfl
  | 1, _ => exact rfl
  | 2, _ => exact rfl
  | 3, _ => exact rfl
theorem f_Sheet_kind (hk : k < 4) {v : Int32} {F : List eg_E → Prop} : eg_pf (WX S t) (51 + 2 * k) 9 1 (.int v) F = F (WX (sI S 28 k (fun _ => v)) t) := eg_pf_of (w_Sheet hk) (Nat.le_of_ble_eq_true rfl) rfl (u_Sheet_kind hk)
theorem g_Sheet_length (hk : k < 4) {F : Value → Prop} : eg_gf (WX S t) (51 + 2 * k) 9 2 F = F (.int (S.1 29 k 0)) := eg_gf_of (w_Sheet hk) rfl
set_option maxRecDepth 20000 in
theorem u_Sheet_length (hk : k < 4) {v : Int32} : (WX S t).set (51 + 2 * k) (.inr (9, [.ref (52 + 2 * k + 1), .int (S.1 28 k 0), .int v])) = WX (sI S 29 k (fun _ => v)) t := by
  match k, hk with
  | 0, _ => exact rfl
  | 1, _ => exact rfl
  | 2, _ => exact rfl
  | 3, _ => exact rfl
theorem f_Sheet_length (hk : k < 4) {v : Int32} {F : List eg_E → Prop} : eg_pf (WX S t) (51 + 2 * k) 9 2 (.int v) F = F (WX (sI S 29 k (fun _ => v)) t) := eg_pf_of (w_Sheet hk) (Nat.le_of_ble_eq_true rfl) rfl (u_Sheet_length hk)
theorem w_Fig (hk : k < 6) : (WX S t)[(59 + 6 * k)]? = some (.inr (2, [.ref (60 + 6 * k + 1), .ref (61 + 6 * k + 1), .ref (62 + 6 * k + 1), .ref (63 + 6 * k + 1), .ref (64 + 6 * k + 1), .int (S.1 31 k 0), .int (S.1 32 k 0)])) := by
  match k, hk with
  | 0, _ => exact rfl
  | 1, _ => exact rfl
  | 2, _ => exact rfl
  | 3, _ => exact rfl
  | 4, _ => exact rfl
  | 5, _ => exact rfl
theorem k_Fig (hk : k < 6) : eg_cls (WX S t) (59 + 6 * k) 2 = True := eg_cls_of (w_Fig hk)
theorem g_Fig_holders (hk : k < 6) {F : Value → Prop} : eg_gf (WX S t) (59 + 6 * k) 2 0 F = F (.ref (60 + 6 * k + 1)) := eg_gf_of (w_Fig hk) rfl
theorem w_Fig_holders_ (hk : k < 6) : (WX S t)[(60 + 6 * k)]? = some (.inl (0, 6, .inl (S.1 30 k))) := by
  match k, hk with
  | 0, _ => exact rfl
  | 1, _ => exact rfl
  | 2, _ => exact rfl
  | 3, _ => exact rfl
  | 4, _ => exact rfl
  | 5, _ => exact rfl
set_option maxRecDepth 20000 in
theorem u_Fig_holders_ (hk : k < 6) {g : Nat → Int32} : (WX S t).set (60 + 6 * k) (.inl (0, 6, .inl (g))) = WX (sI S 30 k (g)) t := by
  match k, hk with
  | 0, _ => exact rfl
  | 1, _ => exact rfl
  | 2, _ => exact rfl
  | 3, _ => exact rfl
  | 4, _ => exact rfl
  | 5, _ => exact rfl
theorem r_Fig_holders (hk : k < 6) {i : Int32} {F : Int32 → Prop} : eg_ia (WX S t) (60 + 6 * k) i F = (vp_in i 6 ∧ F (S.1 30 k i.toNatClampNeg)) := eg_ia_of (w_Fig_holders_ hk)
theorem t_Fig_holders (hk : k < 6) {i : Int32} {v : Int32} {F : List eg_E → Prop} : eg_is (WX S t) (60 + 6 * k) i v F = (vp_in i 6 ∧ F (WX (sI S 30 k (upd (S.1 30 k) i.toNatClampNeg v)) t)) := eg_is_of (w_Fig_holders_ hk) (u_Fig_holders_ hk)
theorem l_Fig_holders (hk : k < 6) {F : Int32 → Prop} : eg_al (WX S t) (60 + 6 * k) F = F (Int32.ofNat 6) := eg_al_of (w_Fig_holders_ hk) (by decide)
theorem g_Fig_direction (hk : k < 6) {F : Value → Prop} : eg_gf (WX S t) (59 + 6 * k) 2 1 F = F (.ref (61 + 6 * k + 1)) := eg_gf_of (w_Fig hk) rfl
theorem w_Fig_direction_ (hk : k < 6) : (WX S t)[(61 + 6 * k)]? = some (.inl (1, 3, .inr (.inl (S.2.1 15 k)))) := by
  match k, hk with
  | 0, _ => exact rfl
  | 1, _ => exact rfl
  | 2, _ => exact rfl
  | 3, _ => exact rfl
  | 4, _ => exact rfl
  | 5, _ => exact rfl
set_option maxRecDepth 20000 in
theorem u_Fig_direction_ (hk : k < 6) {g : Nat → Int64} : (WX S t).set (61 + 6 * k) (.inl (1, 3, .inr (.inl (g)))) = WX (sL S 15 k (g)) t := by
  match k, hk with
  | 0, _ => exact rfl
  | 1, _ => exact rfl
  | 2, _ => exact rfl
  | 3, _ => exact rfl
  | 4, _ => exact rfl
  | 5, _ => exact rfl
theorem r_Fig_direction (hk : k < 6) {i : Int32} {F : Int64 → Prop} : eg_la (WX S t) (61 + 6 * k) i F = (vp_in i 3 ∧ F (S.2.1 15 k i.toNatClampNeg)) := eg_la_of (w_Fig_direction_ hk)
theorem t_Fig_direction (hk : k < 6) {i : Int32} {v : Int64} {F : List eg_E → Prop} : eg_lst (WX S t) (61 + 6 * k) i v F = (vp_in i 3 ∧ F (WX (sL S 15 k (vp_updL (S.2.1 15 k) i.toNatClampNeg v)) t)) := eg_lst_of (w_Fig_direction_ hk) (u_Fig_direction_ hk)
theorem l_Fig_direction (hk : k < 6) {F : Int32 → Prop} : eg_al (WX S t) (61 + 6 * k) F = F (Int32.ofNat 3) := eg_al_of (w_Fig_direction_ hk) (by decide)
theorem g_Fig_missSquare (hk : k < 6) {F : Value → Prop} : eg_gf (WX S t) (59 + 6 * k) 2 2 F = F (.ref (62 + 6 * k + 1)) := eg_gf_of (w_Fig hk) rfl
theorem g_Fig_middleX (hk : k < 6) {F : Value → Prop} : eg_gf (WX S t) (59 + 6 * k) 2 3 F = F (.ref (63 + 6 * k + 1)) := eg_gf_of (w_Fig hk) rfl
theorem g_Fig_middleY (hk : k < 6) {F : Value → Prop} : eg_gf (WX S t) (59 + 6 * k) 2 4 F = F (.ref (64 + 6 * k + 1)) := eg_gf_of (w_Fig hk) rfl
theorem g_Fig_kind (hk : k < 6) {F : Value → Prop} : eg_gf (WX S t) (59 + 6 * k) 2 5 F = F (.int (S.1 31 k 0)) := eg_gf_of (w_Fig hk) rfl
set_option maxRecDepth 20000 in
theorem u_Fig_kind (hk : k < 6) {v : Int32} : (WX S t).set (59 + 6 * k) (.inr (2, [.ref (60 + 6 * k + 1), .ref (61 + 6 * k + 1), .ref (62 + 6 * k + 1), .ref (63 + 6 * k + 1), .ref (64 + 6 * k + 1), .int v, .int (S.1 32 k 0)])) = WX (sI S 31 k (fun _ => v)) t := by
  match k, hk with
  | 0, _ => exact rfl
  | 1, _ => exact rfl
  | 2, _ => exact rfl
  | 3, _ => exact rfl
  | 4, _ => exact rfl
  | 5, _ => exact rfl
theorem f_Fig_kind (hk : k < 6) {v : Int32} {F : List eg_E → Prop} : eg_pf (WX S t) (59 + 6 * k) 2 5 (.int v) F = F (WX (sI S 31 k (fun _ => v)) t) := eg_pf_of (w_Fig hk) (Nat.le_of_ble_eq_true rfl) rfl (u_Fig_kind hk)
theorem g_Fig_heldCount (hk : k < 6) {F : Value → Prop} : eg_gf (WX S t) (59 + 6 * k) 2 6 F = F (.int (S.1 32 k 0)) := eg_gf_of (w_Fig hk) rfl
set_option maxRecDepth 20000 in
theorem u_Fig_heldCount (hk : k < 6) {v : Int32} : (WX S t).set (59 + 6 * k) (.inr (2, [.ref (60 + 6 * k + 1), .ref (61 + 6 * k + 1), .ref (62 + 6 * k + 1), .ref (63 + 6 * k + 1), .ref (64 + 6 * k + 1), .int (S.1 31 k 0), .int v])) = WX (sI S 32 k (fun _ => v)) t := by
  match k, hk with
  | 0, _ => exact rfl
  | 1, _ => exact rfl
  | 2, _ => exact rfl
  | 3, _ => exact rfl
  | 4, _ => exact rfl
  | 5, _ => exact rfl
theorem f_Fig_heldCount (hk : k < 6) {v : Int32} {F : List eg_E → Prop} : eg_pf (WX S t) (59 + 6 * k) 2 6 (.int v) F = F (WX (sI S 32 k (fun _ => v)) t) := eg_pf_of (w_Fig hk) (Nat.le_of_ble_eq_true rfl) rfl (u_Fig_heldCount hk)
theorem w_FrL  : (WX S t)[25]? = some (.inr (4, [.long (S.2.1 16 0 0), .long (S.2.1 17 0 0)])) := rfl
theorem k_FrL  : eg_cls (WX S t) 25 4 = True := eg_cls_of (w_FrL)
theorem g_FrL_above  {F : Value → Prop} : eg_gf (WX S t) 25 4 0 F = F (.long (S.2.1 16 0 0)) := eg_gf_of (w_FrL) rfl
set_option maxRecDepth 20000 in
theorem u_FrL_above  {v : Int64} : (WX S t).set 25 (.inr (4, [.long v, .long (S.2.1 17 0 0)])) = WX (sL S 16 0 (fun _ => v)) t := rfl
theorem f_FrL_above  {v : Int64} {F : List eg_E → Prop} : eg_pf (WX S t) 25 4 0 (.long v) F = F (WX (sL S 16 0 (fun _ => v)) t) := eg_pf_of (w_FrL) (Nat.le_of_ble_eq_true rfl) rfl (u_FrL_above)
theorem g_FrL_below  {F : Value → Prop} : eg_gf (WX S t) 25 4 1 F = F (.long (S.2.1 17 0 0)) := eg_gf_of (w_FrL) rfl
set_option maxRecDepth 20000 in
theorem u_FrL_below  {v : Int64} : (WX S t).set 25 (.inr (4, [.long (S.2.1 16 0 0), .long v])) = WX (sL S 17 0 (fun _ => v)) t := rfl
theorem f_FrL_below  {v : Int64} {F : List eg_E → Prop} : eg_pf (WX S t) 25 4 1 (.long v) F = F (WX (sL S 17 0 (fun _ => v)) t) := eg_pf_of (w_FrL) (Nat.le_of_ble_eq_true rfl) rfl (u_FrL_below)
theorem w_FrM (hk : k < 6) : (WX S t)[(62 + 6 * k)]? = some (.inr (4, [.long (S.2.1 18 k 0), .long (S.2.1 19 k 0)])) := by
  match k, hk with
  | 0, _ => exact rfl
  | 1, _ => exact rfl
  | 2, _ => exact rfl
  | 3, _ => exact rfl
  | 4, _ => exact rfl
  | 5, _ => exact rfl
theorem k_FrM (hk : k < 6) : eg_cls (WX S t) (62 + 6 * k) 4 = True := eg_cls_of (w_FrM hk)
theorem g_FrM_above (hk : k < 6) {F : Value → Prop} : eg_gf (WX S t) (62 + 6 * k) 4 0 F = F (.long (S.2.1 18 k 0)) := eg_gf_of (w_FrM hk) rfl
set_option maxRecDepth 20000 in
theorem u_FrM_above (hk : k < 6) {v : Int64} : (WX S t).set (62 + 6 * k) (.inr (4, [.long v, .long (S.2.1 19 k 0)])) = WX (sL S 18 k (fun _ => v)) t := by
  match k, hk with
  | 0, _ => exact rfl
  | 1, _ => exact rfl
  | 2, _ => exact rfl
  | 3, _ => exact rfl
  | 4, _ => exact rfl
  | 5, _ => exact rfl
theorem f_FrM_above (hk : k < 6) {v : Int64} {F : List eg_E → Prop} : eg_pf (WX S t) (62 + 6 * k) 4 0 (.long v) F = F (WX (sL S 18 k (fun _ => v)) t) := eg_pf_of (w_FrM hk) (Nat.le_of_ble_eq_true rfl) rfl (u_FrM_above hk)
theorem g_FrM_below (hk : k < 6) {F : Value → Prop} : eg_gf (WX S t) (62 + 6 * k) 4 1 F = F (.long (S.2.1 19 k 0)) := eg_gf_of (w_FrM hk) rfl
set_option maxRecDepth 20000 in
theorem u_FrM_below (hk : k < 6) {v : Int64} : (WX S t).set (62 + 6 * k) (.inr (4, [.long (S.2.1 18 k 0), .long v])) = WX (sL S 19 k (fun _ => v)) t := by
  match k, hk with
  | 0, _ => exact rfl
  | 1, _ => exact rfl
  | 2, _ => exact rfl
  | 3, _ => exact rfl
  | 4, _ => exact rfl
  | 5, _ => exact rfl
theorem f_FrM_below (hk : k < 6) {v : Int64} {F : List eg_E → Prop} : eg_pf (WX S t) (62 + 6 * k) 4 1 (.long v) F = F (WX (sL S 19 k (fun _ => v)) t) := eg_pf_of (w_FrM hk) (Nat.le_of_ble_eq_true rfl) rfl (u_FrM_below hk)
theorem w_FrX (hk : k < 6) : (WX S t)[(63 + 6 * k)]? = some (.inr (4, [.long (S.2.1 20 k 0), .long (S.2.1 21 k 0)])) := by
  match k, hk with
  | 0, _ => exact rfl
  | 1, _ => exact rfl
  | 2, _ => exact rfl
  | 3, _ => exact rfl
  | 4, _ => exact rfl
  | 5, _ => exact rfl
theorem k_FrX (hk : k < 6) : eg_cls (WX S t) (63 + 6 * k) 4 = True := eg_cls_of (w_FrX hk)
theorem g_FrX_above (hk : k < 6) {F : Value → Prop} : eg_gf (WX S t) (63 + 6 * k) 4 0 F = F (.long (S.2.1 20 k 0)) := eg_gf_of (w_FrX hk) rfl
set_option maxRecDepth 20000 in
theorem u_FrX_above (hk : k < 6) {v : Int64} : (WX S t).set (63 + 6 * k) (.inr (4, [.long v, .long (S.2.1 21 k 0)])) = WX (sL S 20 k (fun _ => v)) t := by
  match k, hk with
  | 0, _ => exact rfl
  | 1, _ => exact rfl
  | 2, _ => exact rfl
  | 3, _ => exact rfl
  | 4, _ => exact rfl
  | 5, _ => exact rfl
theorem f_FrX_above (hk : k < 6) {v : Int64} {F : List eg_E → Prop} : eg_pf (WX S t) (63 + 6 * k) 4 0 (.long v) F = F (WX (sL S 20 k (fun _ => v)) t) := eg_pf_of (w_FrX hk) (Nat.le_of_ble_eq_true rfl) rfl (u_FrX_above hk)
theorem g_FrX_below (hk : k < 6) {F : Value → Prop} : eg_gf (WX S t) (63 + 6 * k) 4 1 F = F (.long (S.2.1 21 k 0)) := eg_gf_of (w_FrX hk) rfl
set_option maxRecDepth 20000 in
theorem u_FrX_below (hk : k < 6) {v : Int64} : (WX S t).set (63 + 6 * k) (.inr (4, [.long (S.2.1 20 k 0), .long v])) = WX (sL S 21 k (fun _ => v)) t := by
  match k, hk with
  | 0, _ => exact rfl
  | 1, _ => exact rfl
  | 2, _ => exact rfl
  | 3, _ => exact rfl
  | 4, _ => exact rfl
  | 5, _ => exact rfl
theorem f_FrX_below (hk : k < 6) {v : Int64} {F : List eg_E → Prop} : eg_pf (WX S t) (63 + 6 * k) 4 1 (.long v) F = F (WX (sL S 21 k (fun _ => v)) t) := eg_pf_of (w_FrX hk) (Nat.le_of_ble_eq_true rfl) rfl (u_FrX_below hk)
theorem w_FrY (hk : k < 6) : (WX S t)[(64 + 6 * k)]? = some (.inr (4, [.long (S.2.1 22 k 0), .long (S.2.1 23 k 0)])) := by
  match k, hk with
  | 0, _ => exact rfl
  | 1, _ => exact rfl
  | 2, _ => exact rfl
  | 3, _ => exact rfl
  | 4, _ => exact rfl
  | 5, _ => exact rfl
theorem k_FrY (hk : k < 6) : eg_cls (WX S t) (64 + 6 * k) 4 = True := eg_cls_of (w_FrY hk)
theorem g_FrY_above (hk : k < 6) {F : Value → Prop} : eg_gf (WX S t) (64 + 6 * k) 4 0 F = F (.long (S.2.1 22 k 0)) := eg_gf_of (w_FrY hk) rfl
set_option maxRecDepth 20000 in
theorem u_FrY_above (hk : k < 6) {v : Int64} : (WX S t).set (64 + 6 * k) (.inr (4, [.long v, .long (S.2.1 23 k 0)])) = WX (sL S 22 k (fun _ => v)) t := by
  match k, hk with
  | 0, _ => exact rfl
  | 1, _ => exact rfl
  | 2, _ => exact rfl
  | 3, _ => exact rfl
  | 4, _ => exact rfl
  | 5, _ => exact rfl
theorem f_FrY_above (hk : k < 6) {v : Int64} {F : List eg_E → Prop} : eg_pf (WX S t) (64 + 6 * k) 4 0 (.long v) F = F (WX (sL S 22 k (fun _ => v)) t) := eg_pf_of (w_FrY hk) (Nat.le_of_ble_eq_true rfl) rfl (u_FrY_above hk)
theorem g_FrY_below (hk : k < 6) {F : Value → Prop} : eg_gf (WX S t) (64 + 6 * k) 4 1 F = F (.long (S.2.1 23 k 0)) := eg_gf_of (w_FrY hk) rfl
set_option maxRecDepth 20000 in
theorem u_FrY_below (hk : k < 6) {v : Int64} : (WX S t).set (64 + 6 * k) (.inr (4, [.long (S.2.1 22 k 0), .long v])) = WX (sL S 23 k (fun _ => v)) t := by
  match k, hk with
  | 0, _ => exact rfl
  | 1, _ => exact rfl
  | 2, _ => exact rfl
  | 3, _ => exact rfl
  | 4, _ => exact rfl
  | 5, _ => exact rfl
theorem f_FrY_below (hk : k < 6) {v : Int64} {F : List eg_E → Prop} : eg_pf (WX S t) (64 + 6 * k) 4 1 (.long v) F = F (WX (sL S 23 k (fun _ => v)) t) := eg_pf_of (w_FrY hk) (Nat.le_of_ble_eq_true rfl) rfl (u_FrY_below hk)
theorem w_M  : (WX S (WM T))[95]? = some (.inr (12, [.ref 97, .ref 98, .ref 99, .ref 100, .ref 101, .ref 102, .ref 103, .ref 104, .ref 105, .ref 106, .ref 107, .ref 108, .ref 109, .ref 110, .int (T.1 43 0 0), .ref 111, .ref 112, .int (T.1 45 0 0), .ref 113, .ref 114, .int (T.1 48 0 0), .ref 115, .ref 116, .ref 117, .ref 118, .ref 119, .long (T.2.1 29 0 0), .ref 120, .ref 121, .long (T.2.1 30 0 0), .long (T.2.1 31 0 0), .int (T.1 54 0 0), .int (T.1 55 0 0), .ref 122, .long (T.2.1 33 0 0), .long (T.2.1 34 0 0), .long (T.2.1 35 0 0), .long (T.2.1 36 0 0), .long (T.2.1 37 0 0), .long (T.2.1 38 0 0), .long (T.2.1 39 0 0), .long (T.2.1 40 0 0), .long (T.2.1 41 0 0)])) := rfl
theorem k_M  : eg_cls (WX S (WM T)) 95 12 = True := eg_cls_of (w_M)
theorem g_M_many  {F : Value → Prop} : eg_gf (WX S (WM T)) 95 12 0 F = F (.ref 97) := eg_gf_of (w_M) rfl
theorem w_M_many_  : (WX S (WM T))[96]? = some (.inl (0, 4, .inl (T.1 33 0))) := rfl
set_option maxRecDepth 20000 in
theorem u_M_many_  {g : Nat → Int32} : (WX S (WM T)).set 96 (.inl (0, 4, .inl (g))) = WX S (WM (sI T 33 0 (g))) := rfl
theorem r_M_many  {i : Int32} {F : Int32 → Prop} : eg_ia (WX S (WM T)) 96 i F = (vp_in i 4 ∧ F (T.1 33 0 i.toNatClampNeg)) := eg_ia_of (w_M_many_)
theorem t_M_many  {i : Int32} {v : Int32} {F : List eg_E → Prop} : eg_is (WX S (WM T)) 96 i v F = (vp_in i 4 ∧ F (WX S (WM (sI T 33 0 (upd (T.1 33 0) i.toNatClampNeg v))))) := eg_is_of (w_M_many_) (u_M_many_)
theorem l_M_many  {F : Int32 → Prop} : eg_al (WX S (WM T)) 96 F = F (Int32.ofNat 4) := eg_al_of (w_M_many_) (by decide)
theorem g_M_px  {F : Value → Prop} : eg_gf (WX S (WM T)) 95 12 1 F = F (.ref 98) := eg_gf_of (w_M) rfl
theorem w_M_px_  : (WX S (WM T))[97]? = some (.inl (0, 64, .inl (T.1 34 0))) := rfl
set_option maxRecDepth 20000 in
theorem u_M_px_  {g : Nat → Int32} : (WX S (WM T)).set 97 (.inl (0, 64, .inl (g))) = WX S (WM (sI T 34 0 (g))) := rfl
theorem r_M_px  {i : Int32} {F : Int32 → Prop} : eg_ia (WX S (WM T)) 97 i F = (vp_in i 64 ∧ F (T.1 34 0 i.toNatClampNeg)) := eg_ia_of (w_M_px_)
theorem t_M_px  {i : Int32} {v : Int32} {F : List eg_E → Prop} : eg_is (WX S (WM T)) 97 i v F = (vp_in i 64 ∧ F (WX S (WM (sI T 34 0 (upd (T.1 34 0) i.toNatClampNeg v))))) := eg_is_of (w_M_px_) (u_M_px_)
theorem l_M_px  {F : Int32 → Prop} : eg_al (WX S (WM T)) 97 F = F (Int32.ofNat 64) := eg_al_of (w_M_px_) (by decide)
theorem g_M_py  {F : Value → Prop} : eg_gf (WX S (WM T)) 95 12 2 F = F (.ref 99) := eg_gf_of (w_M) rfl
theorem w_M_py_  : (WX S (WM T))[98]? = some (.inl (0, 64, .inl (T.1 35 0))) := rfl
set_option maxRecDepth 20000 in
theorem u_M_py_  {g : Nat → Int32} : (WX S (WM T)).set 98 (.inl (0, 64, .inl (g))) = WX S (WM (sI T 35 0 (g))) := rfl
theorem r_M_py  {i : Int32} {F : Int32 → Prop} : eg_ia (WX S (WM T)) 98 i F = (vp_in i 64 ∧ F (T.1 35 0 i.toNatClampNeg)) := eg_ia_of (w_M_py_)
theorem t_M_py  {i : Int32} {v : Int32} {F : List eg_E → Prop} : eg_is (WX S (WM T)) 98 i v F = (vp_in i 64 ∧ F (WX S (WM (sI T 35 0 (upd (T.1 35 0) i.toNatClampNeg v))))) := eg_is_of (w_M_py_) (u_M_py_)
theorem l_M_py  {F : Int32 → Prop} : eg_al (WX S (WM T)) 98 F = F (Int32.ofNat 64) := eg_al_of (w_M_py_) (by decide)
theorem g_M_pz  {F : Value → Prop} : eg_gf (WX S (WM T)) 95 12 3 F = F (.ref 100) := eg_gf_of (w_M) rfl
theorem w_M_pz_  : (WX S (WM T))[99]? = some (.inl (0, 64, .inl (T.1 36 0))) := rfl
set_option maxRecDepth 20000 in
theorem u_M_pz_  {g : Nat → Int32} : (WX S (WM T)).set 99 (.inl (0, 64, .inl (g))) = WX S (WM (sI T 36 0 (g))) := rfl
theorem r_M_pz  {i : Int32} {F : Int32 → Prop} : eg_ia (WX S (WM T)) 99 i F = (vp_in i 64 ∧ F (T.1 36 0 i.toNatClampNeg)) := eg_ia_of (w_M_pz_)
theorem t_M_pz  {i : Int32} {v : Int32} {F : List eg_E → Prop} : eg_is (WX S (WM T)) 99 i v F = (vp_in i 64 ∧ F (WX S (WM (sI T 36 0 (upd (T.1 36 0) i.toNatClampNeg v))))) := eg_is_of (w_M_pz_) (u_M_pz_)
theorem l_M_pz  {F : Int32 → Prop} : eg_al (WX S (WM T)) 99 F = F (Int32.ofNat 64) := eg_al_of (w_M_pz_) (by decide)
theorem g_M_gone  {F : Value → Prop} : eg_gf (WX S (WM T)) 95 12 4 F = F (.ref 101) := eg_gf_of (w_M) rfl
theorem w_M_gone_  : (WX S (WM T))[100]? = some (.inl (2, 64, .inl (T.1 37 0))) := rfl
set_option maxRecDepth 20000 in
theorem u_M_gone_  {g : Nat → Int32} : (WX S (WM T)).set 100 (.inl (2, 64, .inl (g))) = WX S (WM (sI T 37 0 (g))) := rfl
theorem r_M_gone  {i : Int32} {F : Int32 → Prop} : eg_ba (WX S (WM T)) 100 i F = (vp_in i 64 ∧ F (T.1 37 0 i.toNatClampNeg)) := eg_ba_of (w_M_gone_)
theorem t_M_gone  {i : Int32} {v : Int32} {F : List eg_E → Prop} : eg_bs (WX S (WM T)) 100 i v F = (vp_in i 64 ∧ F (WX S (WM (sI T 37 0 (upd (T.1 37 0) i.toNatClampNeg (vp_nar .boolean v)))))) := eg_bs_of (w_M_gone_) (u_M_gone_)
theorem l_M_gone  {F : Int32 → Prop} : eg_al (WX S (WM T)) 100 F = F (Int32.ofNat 64) := eg_al_of (w_M_gone_) (by decide)
theorem g_M_gridX  {F : Value → Prop} : eg_gf (WX S (WM T)) 95 12 5 F = F (.ref 102) := eg_gf_of (w_M) rfl
theorem w_M_gridX_  : (WX S (WM T))[101]? = some (.inl (0, 9, .inl (T.1 38 0))) := rfl
set_option maxRecDepth 20000 in
theorem u_M_gridX_  {g : Nat → Int32} : (WX S (WM T)).set 101 (.inl (0, 9, .inl (g))) = WX S (WM (sI T 38 0 (g))) := rfl
theorem r_M_gridX  {i : Int32} {F : Int32 → Prop} : eg_ia (WX S (WM T)) 101 i F = (vp_in i 9 ∧ F (T.1 38 0 i.toNatClampNeg)) := eg_ia_of (w_M_gridX_)
theorem t_M_gridX  {i : Int32} {v : Int32} {F : List eg_E → Prop} : eg_is (WX S (WM T)) 101 i v F = (vp_in i 9 ∧ F (WX S (WM (sI T 38 0 (upd (T.1 38 0) i.toNatClampNeg v))))) := eg_is_of (w_M_gridX_) (u_M_gridX_)
theorem l_M_gridX  {F : Int32 → Prop} : eg_al (WX S (WM T)) 101 F = F (Int32.ofNat 9) := eg_al_of (w_M_gridX_) (by decide)
theorem g_M_gridY  {F : Value → Prop} : eg_gf (WX S (WM T)) 95 12 6 F = F (.ref 103) := eg_gf_of (w_M) rfl
theorem w_M_gridY_  : (WX S (WM T))[102]? = some (.inl (0, 9, .inl (T.1 39 0))) := rfl
set_option maxRecDepth 20000 in
theorem u_M_gridY_  {g : Nat → Int32} : (WX S (WM T)).set 102 (.inl (0, 9, .inl (g))) = WX S (WM (sI T 39 0 (g))) := rfl
theorem r_M_gridY  {i : Int32} {F : Int32 → Prop} : eg_ia (WX S (WM T)) 102 i F = (vp_in i 9 ∧ F (T.1 39 0 i.toNatClampNeg)) := eg_ia_of (w_M_gridY_)
theorem t_M_gridY  {i : Int32} {v : Int32} {F : List eg_E → Prop} : eg_is (WX S (WM T)) 102 i v F = (vp_in i 9 ∧ F (WX S (WM (sI T 39 0 (upd (T.1 39 0) i.toNatClampNeg v))))) := eg_is_of (w_M_gridY_) (u_M_gridY_)
theorem l_M_gridY  {F : Int32 → Prop} : eg_al (WX S (WM T)) 102 F = F (Int32.ofNat 9) := eg_al_of (w_M_gridY_) (by decide)
theorem g_M_kinds  {F : Value → Prop} : eg_gf (WX S (WM T)) 95 12 7 F = F (.ref 104) := eg_gf_of (w_M) rfl
theorem w_M_kinds_  : (WX S (WM T))[103]? = some (.inl (0, 6, .inl (T.1 40 0))) := rfl
set_option maxRecDepth 20000 in
theorem u_M_kinds_  {g : Nat → Int32} : (WX S (WM T)).set 103 (.inl (0, 6, .inl (g))) = WX S (WM (sI T 40 0 (g))) := rfl
theorem r_M_kinds  {i : Int32} {F : Int32 → Prop} : eg_ia (WX S (WM T)) 103 i F = (vp_in i 6 ∧ F (T.1 40 0 i.toNatClampNeg)) := eg_ia_of (w_M_kinds_)
theorem t_M_kinds  {i : Int32} {v : Int32} {F : List eg_E → Prop} : eg_is (WX S (WM T)) 103 i v F = (vp_in i 6 ∧ F (WX S (WM (sI T 40 0 (upd (T.1 40 0) i.toNatClampNeg v))))) := eg_is_of (w_M_kinds_) (u_M_kinds_)
theorem l_M_kinds  {F : Int32 → Prop} : eg_al (WX S (WM T)) 103 F = F (Int32.ofNat 6) := eg_al_of (w_M_kinds_) (by decide)
theorem g_M_heldMany  {F : Value → Prop} : eg_gf (WX S (WM T)) 95 12 8 F = F (.ref 105) := eg_gf_of (w_M) rfl
theorem w_M_heldMany_  : (WX S (WM T))[104]? = some (.inl (0, 6, .inl (T.1 41 0))) := rfl
set_option maxRecDepth 20000 in
theorem u_M_heldMany_  {g : Nat → Int32} : (WX S (WM T)).set 104 (.inl (0, 6, .inl (g))) = WX S (WM (sI T 41 0 (g))) := rfl
theorem r_M_heldMany  {i : Int32} {F : Int32 → Prop} : eg_ia (WX S (WM T)) 104 i F = (vp_in i 6 ∧ F (T.1 41 0 i.toNatClampNeg)) := eg_ia_of (w_M_heldMany_)
theorem t_M_heldMany  {i : Int32} {v : Int32} {F : List eg_E → Prop} : eg_is (WX S (WM T)) 104 i v F = (vp_in i 6 ∧ F (WX S (WM (sI T 41 0 (upd (T.1 41 0) i.toNatClampNeg v))))) := eg_is_of (w_M_heldMany_) (u_M_heldMany_)
theorem l_M_heldMany  {F : Int32 → Prop} : eg_al (WX S (WM T)) 104 F = F (Int32.ofNat 6) := eg_al_of (w_M_heldMany_) (by decide)
theorem g_M_held  {F : Value → Prop} : eg_gf (WX S (WM T)) 95 12 9 F = F (.ref 106) := eg_gf_of (w_M) rfl
theorem w_M_held_  : (WX S (WM T))[105]? = some (.inl (0, 36, .inl (T.1 42 0))) := rfl
set_option maxRecDepth 20000 in
theorem u_M_held_  {g : Nat → Int32} : (WX S (WM T)).set 105 (.inl (0, 36, .inl (g))) = WX S (WM (sI T 42 0 (g))) := rfl
theorem r_M_held  {i : Int32} {F : Int32 → Prop} : eg_ia (WX S (WM T)) 105 i F = (vp_in i 36 ∧ F (T.1 42 0 i.toNatClampNeg)) := eg_ia_of (w_M_held_)
theorem t_M_held  {i : Int32} {v : Int32} {F : List eg_E → Prop} : eg_is (WX S (WM T)) 105 i v F = (vp_in i 36 ∧ F (WX S (WM (sI T 42 0 (upd (T.1 42 0) i.toNatClampNeg v))))) := eg_is_of (w_M_held_) (u_M_held_)
theorem l_M_held  {F : Int32 → Prop} : eg_al (WX S (WM T)) 105 F = F (Int32.ofNat 36) := eg_al_of (w_M_held_) (by decide)
theorem g_M_above  {F : Value → Prop} : eg_gf (WX S (WM T)) 95 12 10 F = F (.ref 107) := eg_gf_of (w_M) rfl
theorem w_M_above_  : (WX S (WM T))[106]? = some (.inl (1, 6, .inr (.inl (T.2.1 24 0)))) := rfl
set_option maxRecDepth 20000 in
theorem u_M_above_  {g : Nat → Int64} : (WX S (WM T)).set 106 (.inl (1, 6, .inr (.inl (g)))) = WX S (WM (sL T 24 0 (g))) := rfl
theorem r_M_above  {i : Int32} {F : Int64 → Prop} : eg_la (WX S (WM T)) 106 i F = (vp_in i 6 ∧ F (T.2.1 24 0 i.toNatClampNeg)) := eg_la_of (w_M_above_)
theorem t_M_above  {i : Int32} {v : Int64} {F : List eg_E → Prop} : eg_lst (WX S (WM T)) 106 i v F = (vp_in i 6 ∧ F (WX S (WM (sL T 24 0 (vp_updL (T.2.1 24 0) i.toNatClampNeg v))))) := eg_lst_of (w_M_above_) (u_M_above_)
theorem l_M_above  {F : Int32 → Prop} : eg_al (WX S (WM T)) 106 F = F (Int32.ofNat 6) := eg_al_of (w_M_above_) (by decide)
theorem g_M_under  {F : Value → Prop} : eg_gf (WX S (WM T)) 95 12 11 F = F (.ref 108) := eg_gf_of (w_M) rfl
theorem w_M_under_  : (WX S (WM T))[107]? = some (.inl (1, 6, .inr (.inl (T.2.1 25 0)))) := rfl
set_option maxRecDepth 20000 in
theorem u_M_under_  {g : Nat → Int64} : (WX S (WM T)).set 107 (.inl (1, 6, .inr (.inl (g)))) = WX S (WM (sL T 25 0 (g))) := rfl
theorem r_M_under  {i : Int32} {F : Int64 → Prop} : eg_la (WX S (WM T)) 107 i F = (vp_in i 6 ∧ F (T.2.1 25 0 i.toNatClampNeg)) := eg_la_of (w_M_under_)
theorem t_M_under  {i : Int32} {v : Int64} {F : List eg_E → Prop} : eg_lst (WX S (WM T)) 107 i v F = (vp_in i 6 ∧ F (WX S (WM (sL T 25 0 (vp_updL (T.2.1 25 0) i.toNatClampNeg v))))) := eg_lst_of (w_M_under_) (u_M_under_)
theorem l_M_under  {F : Int32 → Prop} : eg_al (WX S (WM T)) 107 F = F (Int32.ofNat 6) := eg_al_of (w_M_under_) (by decide)
theorem g_M_ways  {F : Value → Prop} : eg_gf (WX S (WM T)) 95 12 12 F = F (.ref 109) := eg_gf_of (w_M) rfl
theorem w_M_ways_  : (WX S (WM T))[108]? = some (.inl (1, 18, .inr (.inl (T.2.1 26 0)))) := rfl
set_option maxRecDepth 20000 in
theorem u_M_ways_  {g : Nat → Int64} : (WX S (WM T)).set 108 (.inl (1, 18, .inr (.inl (g)))) = WX S (WM (sL T 26 0 (g))) := rfl
theorem r_M_ways  {i : Int32} {F : Int64 → Prop} : eg_la (WX S (WM T)) 108 i F = (vp_in i 18 ∧ F (T.2.1 26 0 i.toNatClampNeg)) := eg_la_of (w_M_ways_)
theorem t_M_ways  {i : Int32} {v : Int64} {F : List eg_E → Prop} : eg_lst (WX S (WM T)) 108 i v F = (vp_in i 18 ∧ F (WX S (WM (sL T 26 0 (vp_updL (T.2.1 26 0) i.toNatClampNeg v))))) := eg_lst_of (w_M_ways_) (u_M_ways_)
theorem l_M_ways  {F : Int32 → Prop} : eg_al (WX S (WM T)) 108 F = F (Int32.ofNat 18) := eg_al_of (w_M_ways_) (by decide)
theorem g_M_middles  {F : Value → Prop} : eg_gf (WX S (WM T)) 95 12 13 F = F (.ref 110) := eg_gf_of (w_M) rfl
theorem w_M_middles_  : (WX S (WM T))[109]? = some (.inl (1, 24, .inr (.inl (T.2.1 27 0)))) := rfl
set_option maxRecDepth 20000 in
theorem u_M_middles_  {g : Nat → Int64} : (WX S (WM T)).set 109 (.inl (1, 24, .inr (.inl (g)))) = WX S (WM (sL T 27 0 (g))) := rfl
theorem r_M_middles  {i : Int32} {F : Int64 → Prop} : eg_la (WX S (WM T)) 109 i F = (vp_in i 24 ∧ F (T.2.1 27 0 i.toNatClampNeg)) := eg_la_of (w_M_middles_)
theorem t_M_middles  {i : Int32} {v : Int64} {F : List eg_E → Prop} : eg_lst (WX S (WM T)) 109 i v F = (vp_in i 24 ∧ F (WX S (WM (sL T 27 0 (vp_updL (T.2.1 27 0) i.toNatClampNeg v))))) := eg_lst_of (w_M_middles_) (u_M_middles_)
theorem l_M_middles  {F : Int32 → Prop} : eg_al (WX S (WM T)) 109 F = F (Int32.ofNat 24) := eg_al_of (w_M_middles_) (by decide)
theorem g_M_hasFrame  {F : Value → Prop} : eg_gf (WX S (WM T)) 95 12 14 F = F (.int (T.1 43 0 0)) := eg_gf_of (w_M) rfl
set_option maxRecDepth 20000 in
theorem u_M_hasFrame  {v : Int32} : (WX S (WM T)).set 95 (.inr (12, [.ref 97, .ref 98, .ref 99, .ref 100, .ref 101, .ref 102, .ref 103, .ref 104, .ref 105, .ref 106, .ref 107, .ref 108, .ref 109, .ref 110, .int v, .ref 111, .ref 112, .int (T.1 45 0 0), .ref 113, .ref 114, .int (T.1 48 0 0), .ref 115, .ref 116, .ref 117, .ref 118, .ref 119, .long (T.2.1 29 0 0), .ref 120, .ref 121, .long (T.2.1 30 0 0), .long (T.2.1 31 0 0), .int (T.1 54 0 0), .int (T.1 55 0 0), .ref 122, .long (T.2.1 33 0 0), .long (T.2.1 34 0 0), .long (T.2.1 35 0 0), .long (T.2.1 36 0 0), .long (T.2.1 37 0 0), .long (T.2.1 38 0 0), .long (T.2.1 39 0 0), .long (T.2.1 40 0 0), .long (T.2.1 41 0 0)])) = WX S (WM (sI T 43 0 (fun _ => v))) := rfl
theorem f_M_hasFrame  {v : Int32} {F : List eg_E → Prop} : eg_pb (WX S (WM T)) 95 12 14 v F = ((v = 0 ∨ v = 1) ∧ F (WX S (WM (sI T 43 0 (fun _ => v))))) := eg_pb_of (w_M) (Nat.le_of_ble_eq_true rfl) (u_M_hasFrame)
theorem g_M_axes  {F : Value → Prop} : eg_gf (WX S (WM T)) 95 12 15 F = F (.ref 111) := eg_gf_of (w_M) rfl
theorem w_M_axes_  : (WX S (WM T))[110]? = some (.inl (1, 9, .inr (.inl (T.2.1 28 0)))) := rfl
set_option maxRecDepth 20000 in
theorem u_M_axes_  {g : Nat → Int64} : (WX S (WM T)).set 110 (.inl (1, 9, .inr (.inl (g)))) = WX S (WM (sL T 28 0 (g))) := rfl
theorem r_M_axes  {i : Int32} {F : Int64 → Prop} : eg_la (WX S (WM T)) 110 i F = (vp_in i 9 ∧ F (T.2.1 28 0 i.toNatClampNeg)) := eg_la_of (w_M_axes_)
theorem t_M_axes  {i : Int32} {v : Int64} {F : List eg_E → Prop} : eg_lst (WX S (WM T)) 110 i v F = (vp_in i 9 ∧ F (WX S (WM (sL T 28 0 (vp_updL (T.2.1 28 0) i.toNatClampNeg v))))) := eg_lst_of (w_M_axes_) (u_M_axes_)
theorem l_M_axes  {F : Int32 → Prop} : eg_al (WX S (WM T)) 110 F = F (Int32.ofNat 9) := eg_al_of (w_M_axes_) (by decide)
theorem g_M_beginning  {F : Value → Prop} : eg_gf (WX S (WM T)) 95 12 16 F = F (.ref 112) := eg_gf_of (w_M) rfl
theorem w_M_beginning_  : (WX S (WM T))[111]? = some (.inl (0, 3, .inl (T.1 44 0))) := rfl
set_option maxRecDepth 20000 in
theorem u_M_beginning_  {g : Nat → Int32} : (WX S (WM T)).set 111 (.inl (0, 3, .inl (g))) = WX S (WM (sI T 44 0 (g))) := rfl
theorem r_M_beginning  {i : Int32} {F : Int32 → Prop} : eg_ia (WX S (WM T)) 111 i F = (vp_in i 3 ∧ F (T.1 44 0 i.toNatClampNeg)) := eg_ia_of (w_M_beginning_)
theorem t_M_beginning  {i : Int32} {v : Int32} {F : List eg_E → Prop} : eg_is (WX S (WM T)) 111 i v F = (vp_in i 3 ∧ F (WX S (WM (sI T 44 0 (upd (T.1 44 0) i.toNatClampNeg v))))) := eg_is_of (w_M_beginning_) (u_M_beginning_)
theorem l_M_beginning  {F : Int32 → Prop} : eg_al (WX S (WM T)) 111 F = F (Int32.ofNat 3) := eg_al_of (w_M_beginning_) (by decide)
theorem g_M_corners  {F : Value → Prop} : eg_gf (WX S (WM T)) 95 12 17 F = F (.int (T.1 45 0 0)) := eg_gf_of (w_M) rfl
set_option maxRecDepth 20000 in
theorem u_M_corners  {v : Int32} : (WX S (WM T)).set 95 (.inr (12, [.ref 97, .ref 98, .ref 99, .ref 100, .ref 101, .ref 102, .ref 103, .ref 104, .ref 105, .ref 106, .ref 107, .ref 108, .ref 109, .ref 110, .int (T.1 43 0 0), .ref 111, .ref 112, .int v, .ref 113, .ref 114, .int (T.1 48 0 0), .ref 115, .ref 116, .ref 117, .ref 118, .ref 119, .long (T.2.1 29 0 0), .ref 120, .ref 121, .long (T.2.1 30 0 0), .long (T.2.1 31 0 0), .int (T.1 54 0 0), .int (T.1 55 0 0), .ref 122, .long (T.2.1 33 0 0), .long (T.2.1 34 0 0), .long (T.2.1 35 0 0), .long (T.2.1 36 0 0), .long (T.2.1 37 0 0), .long (T.2.1 38 0 0), .long (T.2.1 39 0 0), .long (T.2.1 40 0 0), .long (T.2.1 41 0 0)])) = WX S (WM (sI T 45 0 (fun _ => v))) := rfl
theorem f_M_corners  {v : Int32} {F : List eg_E → Prop} : eg_pf (WX S (WM T)) 95 12 17 (.int v) F = F (WX S (WM (sI T 45 0 (fun _ => v)))) := eg_pf_of (w_M) (Nat.le_of_ble_eq_true rfl) rfl (u_M_corners)
theorem g_M_cx  {F : Value → Prop} : eg_gf (WX S (WM T)) 95 12 18 F = F (.ref 113) := eg_gf_of (w_M) rfl
theorem w_M_cx_  : (WX S (WM T))[112]? = some (.inl (0, 10, .inl (T.1 46 0))) := rfl
set_option maxRecDepth 20000 in
theorem u_M_cx_  {g : Nat → Int32} : (WX S (WM T)).set 112 (.inl (0, 10, .inl (g))) = WX S (WM (sI T 46 0 (g))) := rfl
theorem r_M_cx  {i : Int32} {F : Int32 → Prop} : eg_ia (WX S (WM T)) 112 i F = (vp_in i 10 ∧ F (T.1 46 0 i.toNatClampNeg)) := eg_ia_of (w_M_cx_)
theorem t_M_cx  {i : Int32} {v : Int32} {F : List eg_E → Prop} : eg_is (WX S (WM T)) 112 i v F = (vp_in i 10 ∧ F (WX S (WM (sI T 46 0 (upd (T.1 46 0) i.toNatClampNeg v))))) := eg_is_of (w_M_cx_) (u_M_cx_)
theorem l_M_cx  {F : Int32 → Prop} : eg_al (WX S (WM T)) 112 F = F (Int32.ofNat 10) := eg_al_of (w_M_cx_) (by decide)
theorem g_M_cy  {F : Value → Prop} : eg_gf (WX S (WM T)) 95 12 19 F = F (.ref 114) := eg_gf_of (w_M) rfl
theorem w_M_cy_  : (WX S (WM T))[113]? = some (.inl (0, 10, .inl (T.1 47 0))) := rfl
set_option maxRecDepth 20000 in
theorem u_M_cy_  {g : Nat → Int32} : (WX S (WM T)).set 113 (.inl (0, 10, .inl (g))) = WX S (WM (sI T 47 0 (g))) := rfl
theorem r_M_cy  {i : Int32} {F : Int32 → Prop} : eg_ia (WX S (WM T)) 113 i F = (vp_in i 10 ∧ F (T.1 47 0 i.toNatClampNeg)) := eg_ia_of (w_M_cy_)
theorem t_M_cy  {i : Int32} {v : Int32} {F : List eg_E → Prop} : eg_is (WX S (WM T)) 113 i v F = (vp_in i 10 ∧ F (WX S (WM (sI T 47 0 (upd (T.1 47 0) i.toNatClampNeg v))))) := eg_is_of (w_M_cy_) (u_M_cy_)
theorem l_M_cy  {F : Int32 → Prop} : eg_al (WX S (WM T)) 113 F = F (Int32.ofNat 10) := eg_al_of (w_M_cy_) (by decide)
theorem g_M_boxes  {F : Value → Prop} : eg_gf (WX S (WM T)) 95 12 20 F = F (.int (T.1 48 0 0)) := eg_gf_of (w_M) rfl
set_option maxRecDepth 20000 in
theorem u_M_boxes  {v : Int32} : (WX S (WM T)).set 95 (.inr (12, [.ref 97, .ref 98, .ref 99, .ref 100, .ref 101, .ref 102, .ref 103, .ref 104, .ref 105, .ref 106, .ref 107, .ref 108, .ref 109, .ref 110, .int (T.1 43 0 0), .ref 111, .ref 112, .int (T.1 45 0 0), .ref 113, .ref 114, .int v, .ref 115, .ref 116, .ref 117, .ref 118, .ref 119, .long (T.2.1 29 0 0), .ref 120, .ref 121, .long (T.2.1 30 0 0), .long (T.2.1 31 0 0), .int (T.1 54 0 0), .int (T.1 55 0 0), .ref 122, .long (T.2.1 33 0 0), .long (T.2.1 34 0 0), .long (T.2.1 35 0 0), .long (T.2.1 36 0 0), .long (T.2.1 37 0 0), .long (T.2.1 38 0 0), .long (T.2.1 39 0 0), .long (T.2.1 40 0 0), .long (T.2.1 41 0 0)])) = WX S (WM (sI T 48 0 (fun _ => v))) := rfl
theorem f_M_boxes  {v : Int32} {F : List eg_E → Prop} : eg_pf (WX S (WM T)) 95 12 20 (.int v) F = F (WX S (WM (sI T 48 0 (fun _ => v)))) := eg_pf_of (w_M) (Nat.le_of_ble_eq_true rfl) rfl (u_M_boxes)
theorem g_M_box  {F : Value → Prop} : eg_gf (WX S (WM T)) 95 12 21 F = F (.ref 115) := eg_gf_of (w_M) rfl
theorem w_M_box_  : (WX S (WM T))[114]? = some (.inl (0, 36, .inl (T.1 49 0))) := rfl
set_option maxRecDepth 20000 in
theorem u_M_box_  {g : Nat → Int32} : (WX S (WM T)).set 114 (.inl (0, 36, .inl (g))) = WX S (WM (sI T 49 0 (g))) := rfl
theorem r_M_box  {i : Int32} {F : Int32 → Prop} : eg_ia (WX S (WM T)) 114 i F = (vp_in i 36 ∧ F (T.1 49 0 i.toNatClampNeg)) := eg_ia_of (w_M_box_)
theorem t_M_box  {i : Int32} {v : Int32} {F : List eg_E → Prop} : eg_is (WX S (WM T)) 114 i v F = (vp_in i 36 ∧ F (WX S (WM (sI T 49 0 (upd (T.1 49 0) i.toNatClampNeg v))))) := eg_is_of (w_M_box_) (u_M_box_)
theorem l_M_box  {F : Int32 → Prop} : eg_al (WX S (WM T)) 114 F = F (Int32.ofNat 36) := eg_al_of (w_M_box_) (by decide)
theorem g_M_sheetKind  {F : Value → Prop} : eg_gf (WX S (WM T)) 95 12 22 F = F (.ref 116) := eg_gf_of (w_M) rfl
theorem w_M_sheetKind_  : (WX S (WM T))[115]? = some (.inl (0, 4, .inl (T.1 50 0))) := rfl
set_option maxRecDepth 20000 in
theorem u_M_sheetKind_  {g : Nat → Int32} : (WX S (WM T)).set 115 (.inl (0, 4, .inl (g))) = WX S (WM (sI T 50 0 (g))) := rfl
theorem r_M_sheetKind  {i : Int32} {F : Int32 → Prop} : eg_ia (WX S (WM T)) 115 i F = (vp_in i 4 ∧ F (T.1 50 0 i.toNatClampNeg)) := eg_ia_of (w_M_sheetKind_)
theorem t_M_sheetKind  {i : Int32} {v : Int32} {F : List eg_E → Prop} : eg_is (WX S (WM T)) 115 i v F = (vp_in i 4 ∧ F (WX S (WM (sI T 50 0 (upd (T.1 50 0) i.toNatClampNeg v))))) := eg_is_of (w_M_sheetKind_) (u_M_sheetKind_)
theorem l_M_sheetKind  {F : Int32 → Prop} : eg_al (WX S (WM T)) 115 F = F (Int32.ofNat 4) := eg_al_of (w_M_sheetKind_) (by decide)
theorem g_M_sheetSize  {F : Value → Prop} : eg_gf (WX S (WM T)) 95 12 23 F = F (.ref 117) := eg_gf_of (w_M) rfl
theorem w_M_sheetSize_  : (WX S (WM T))[116]? = some (.inl (0, 4, .inl (T.1 51 0))) := rfl
set_option maxRecDepth 20000 in
theorem u_M_sheetSize_  {g : Nat → Int32} : (WX S (WM T)).set 116 (.inl (0, 4, .inl (g))) = WX S (WM (sI T 51 0 (g))) := rfl
theorem r_M_sheetSize  {i : Int32} {F : Int32 → Prop} : eg_ia (WX S (WM T)) 116 i F = (vp_in i 4 ∧ F (T.1 51 0 i.toNatClampNeg)) := eg_ia_of (w_M_sheetSize_)
theorem t_M_sheetSize  {i : Int32} {v : Int32} {F : List eg_E → Prop} : eg_is (WX S (WM T)) 116 i v F = (vp_in i 4 ∧ F (WX S (WM (sI T 51 0 (upd (T.1 51 0) i.toNatClampNeg v))))) := eg_is_of (w_M_sheetSize_) (u_M_sheetSize_)
theorem l_M_sheetSize  {F : Int32 → Prop} : eg_al (WX S (WM T)) 116 F = F (Int32.ofNat 4) := eg_al_of (w_M_sheetSize_) (by decide)
theorem g_M_sheet  {F : Value → Prop} : eg_gf (WX S (WM T)) 95 12 24 F = F (.ref 118) := eg_gf_of (w_M) rfl
theorem w_M_sheet_  : (WX S (WM T))[117]? = some (.inl (0, 192, .inl (T.1 52 0))) := rfl
set_option maxRecDepth 20000 in
theorem u_M_sheet_  {g : Nat → Int32} : (WX S (WM T)).set 117 (.inl (0, 192, .inl (g))) = WX S (WM (sI T 52 0 (g))) := rfl
theorem r_M_sheet  {i : Int32} {F : Int32 → Prop} : eg_ia (WX S (WM T)) 117 i F = (vp_in i 192 ∧ F (T.1 52 0 i.toNatClampNeg)) := eg_ia_of (w_M_sheet_)
theorem t_M_sheet  {i : Int32} {v : Int32} {F : List eg_E → Prop} : eg_is (WX S (WM T)) 117 i v F = (vp_in i 192 ∧ F (WX S (WM (sI T 52 0 (upd (T.1 52 0) i.toNatClampNeg v))))) := eg_is_of (w_M_sheet_) (u_M_sheet_)
theorem l_M_sheet  {F : Int32 → Prop} : eg_al (WX S (WM T)) 117 F = F (Int32.ofNat 192) := eg_al_of (w_M_sheet_) (by decide)
theorem g_M_doubles  {F : Value → Prop} : eg_gf (WX S (WM T)) 95 12 25 F = F (.ref 119) := eg_gf_of (w_M) rfl
theorem w_M_doubles_  : (WX S (WM T))[118]? = some (.inl (3, 192, .inr (.inr (.inr (.inl (T.2.2 0 0)))))) := rfl
set_option maxRecDepth 20000 in
theorem u_M_doubles_  {g : Nat → UInt64} : (WX S (WM T)).set 118 (.inl (3, 192, .inr (.inr (.inr (.inl (g)))))) = WX S (WM (sD T 0 0 (g))) := rfl
theorem r_M_doubles  {i : Int32} {F : UInt64 → Prop} : eg_da (WX S (WM T)) 118 i F = (vp_in i 192 ∧ F (T.2.2 0 0 i.toNatClampNeg)) := eg_da_of (w_M_doubles_)
theorem t_M_doubles  {i : Int32} {v : UInt64} {F : List eg_E → Prop} : eg_ds (WX S (WM T)) 118 i v F = (vp_in i 192 ∧ F (WX S (WM (sD T 0 0 (vf_upd (T.2.2 0 0) i.toNatClampNeg v))))) := eg_ds_of (w_M_doubles_) (u_M_doubles_)
theorem l_M_doubles  {F : Int32 → Prop} : eg_al (WX S (WM T)) 118 F = F (Int32.ofNat 192) := eg_al_of (w_M_doubles_) (by decide)
theorem g_M_found  {F : Value → Prop} : eg_gf (WX S (WM T)) 95 12 26 F = F (.long (T.2.1 29 0 0)) := eg_gf_of (w_M) rfl
set_option maxRecDepth 20000 in
theorem u_M_found  {v : Int64} : (WX S (WM T)).set 95 (.inr (12, [.ref 97, .ref 98, .ref 99, .ref 100, .ref 101, .ref 102, .ref 103, .ref 104, .ref 105, .ref 106, .ref 107, .ref 108, .ref 109, .ref 110, .int (T.1 43 0 0), .ref 111, .ref 112, .int (T.1 45 0 0), .ref 113, .ref 114, .int (T.1 48 0 0), .ref 115, .ref 116, .ref 117, .ref 118, .ref 119, .long v, .ref 120, .ref 121, .long (T.2.1 30 0 0), .long (T.2.1 31 0 0), .int (T.1 54 0 0), .int (T.1 55 0 0), .ref 122, .long (T.2.1 33 0 0), .long (T.2.1 34 0 0), .long (T.2.1 35 0 0), .long (T.2.1 36 0 0), .long (T.2.1 37 0 0), .long (T.2.1 38 0 0), .long (T.2.1 39 0 0), .long (T.2.1 40 0 0), .long (T.2.1 41 0 0)])) = WX S (WM (sL T 29 0 (fun _ => v))) := rfl
theorem f_M_found  {v : Int64} {F : List eg_E → Prop} : eg_pf (WX S (WM T)) 95 12 26 (.long v) F = F (WX S (WM (sL T 29 0 (fun _ => v)))) := eg_pf_of (w_M) (Nat.le_of_ble_eq_true rfl) rfl (u_M_found)
theorem g_M_carried  {F : Value → Prop} : eg_gf (WX S (WM T)) 95 12 27 F = F (.ref 120) := eg_gf_of (w_M) rfl
theorem w_M_carried_  : (WX S (WM T))[119]? = some (.inl (0, 48, .inl (T.1 53 0))) := rfl
set_option maxRecDepth 20000 in
theorem u_M_carried_  {g : Nat → Int32} : (WX S (WM T)).set 119 (.inl (0, 48, .inl (g))) = WX S (WM (sI T 53 0 (g))) := rfl
theorem r_M_carried  {i : Int32} {F : Int32 → Prop} : eg_ia (WX S (WM T)) 119 i F = (vp_in i 48 ∧ F (T.1 53 0 i.toNatClampNeg)) := eg_ia_of (w_M_carried_)
theorem t_M_carried  {i : Int32} {v : Int32} {F : List eg_E → Prop} : eg_is (WX S (WM T)) 119 i v F = (vp_in i 48 ∧ F (WX S (WM (sI T 53 0 (upd (T.1 53 0) i.toNatClampNeg v))))) := eg_is_of (w_M_carried_) (u_M_carried_)
theorem l_M_carried  {F : Int32 → Prop} : eg_al (WX S (WM T)) 119 F = F (Int32.ofNat 48) := eg_al_of (w_M_carried_) (by decide)
theorem g_M_carriedDoubles  {F : Value → Prop} : eg_gf (WX S (WM T)) 95 12 28 F = F (.ref 121) := eg_gf_of (w_M) rfl
theorem w_M_carriedDoubles_  : (WX S (WM T))[120]? = some (.inl (3, 48, .inr (.inr (.inr (.inl (T.2.2 1 0)))))) := rfl
set_option maxRecDepth 20000 in
theorem u_M_carriedDoubles_  {g : Nat → UInt64} : (WX S (WM T)).set 120 (.inl (3, 48, .inr (.inr (.inr (.inl (g)))))) = WX S (WM (sD T 1 0 (g))) := rfl
theorem r_M_carriedDoubles  {i : Int32} {F : UInt64 → Prop} : eg_da (WX S (WM T)) 120 i F = (vp_in i 48 ∧ F (T.2.2 1 0 i.toNatClampNeg)) := eg_da_of (w_M_carriedDoubles_)
theorem t_M_carriedDoubles  {i : Int32} {v : UInt64} {F : List eg_E → Prop} : eg_ds (WX S (WM T)) 120 i v F = (vp_in i 48 ∧ F (WX S (WM (sD T 1 0 (vf_upd (T.2.2 1 0) i.toNatClampNeg v))))) := eg_ds_of (w_M_carriedDoubles_) (u_M_carriedDoubles_)
theorem l_M_carriedDoubles  {F : Int32 → Prop} : eg_al (WX S (WM T)) 120 F = F (Int32.ofNat 48) := eg_al_of (w_M_carriedDoubles_) (by decide)
theorem g_M_high  {F : Value → Prop} : eg_gf (WX S (WM T)) 95 12 29 F = F (.long (T.2.1 30 0 0)) := eg_gf_of (w_M) rfl
set_option maxRecDepth 20000 in
theorem u_M_high  {v : Int64} : (WX S (WM T)).set 95 (.inr (12, [.ref 97, .ref 98, .ref 99, .ref 100, .ref 101, .ref 102, .ref 103, .ref 104, .ref 105, .ref 106, .ref 107, .ref 108, .ref 109, .ref 110, .int (T.1 43 0 0), .ref 111, .ref 112, .int (T.1 45 0 0), .ref 113, .ref 114, .int (T.1 48 0 0), .ref 115, .ref 116, .ref 117, .ref 118, .ref 119, .long (T.2.1 29 0 0), .ref 120, .ref 121, .long v, .long (T.2.1 31 0 0), .int (T.1 54 0 0), .int (T.1 55 0 0), .ref 122, .long (T.2.1 33 0 0), .long (T.2.1 34 0 0), .long (T.2.1 35 0 0), .long (T.2.1 36 0 0), .long (T.2.1 37 0 0), .long (T.2.1 38 0 0), .long (T.2.1 39 0 0), .long (T.2.1 40 0 0), .long (T.2.1 41 0 0)])) = WX S (WM (sL T 30 0 (fun _ => v))) := rfl
theorem f_M_high  {v : Int64} {F : List eg_E → Prop} : eg_pf (WX S (WM T)) 95 12 29 (.long v) F = F (WX S (WM (sL T 30 0 (fun _ => v)))) := eg_pf_of (w_M) (Nat.le_of_ble_eq_true rfl) rfl (u_M_high)
theorem g_M_low  {F : Value → Prop} : eg_gf (WX S (WM T)) 95 12 30 F = F (.long (T.2.1 31 0 0)) := eg_gf_of (w_M) rfl
set_option maxRecDepth 20000 in
theorem u_M_low  {v : Int64} : (WX S (WM T)).set 95 (.inr (12, [.ref 97, .ref 98, .ref 99, .ref 100, .ref 101, .ref 102, .ref 103, .ref 104, .ref 105, .ref 106, .ref 107, .ref 108, .ref 109, .ref 110, .int (T.1 43 0 0), .ref 111, .ref 112, .int (T.1 45 0 0), .ref 113, .ref 114, .int (T.1 48 0 0), .ref 115, .ref 116, .ref 117, .ref 118, .ref 119, .long (T.2.1 29 0 0), .ref 120, .ref 121, .long (T.2.1 30 0 0), .long v, .int (T.1 54 0 0), .int (T.1 55 0 0), .ref 122, .long (T.2.1 33 0 0), .long (T.2.1 34 0 0), .long (T.2.1 35 0 0), .long (T.2.1 36 0 0), .long (T.2.1 37 0 0), .long (T.2.1 38 0 0), .long (T.2.1 39 0 0), .long (T.2.1 40 0 0), .long (T.2.1 41 0 0)])) = WX S (WM (sL T 31 0 (fun _ => v))) := rfl
theorem f_M_low  {v : Int64} {F : List eg_E → Prop} : eg_pf (WX S (WM T)) 95 12 30 (.long v) F = F (WX S (WM (sL T 31 0 (fun _ => v)))) := eg_pf_of (w_M) (Nat.le_of_ble_eq_true rfl) rfl (u_M_low)
theorem g_M_highAt  {F : Value → Prop} : eg_gf (WX S (WM T)) 95 12 31 F = F (.int (T.1 54 0 0)) := eg_gf_of (w_M) rfl
set_option maxRecDepth 20000 in
theorem u_M_highAt  {v : Int32} : (WX S (WM T)).set 95 (.inr (12, [.ref 97, .ref 98, .ref 99, .ref 100, .ref 101, .ref 102, .ref 103, .ref 104, .ref 105, .ref 106, .ref 107, .ref 108, .ref 109, .ref 110, .int (T.1 43 0 0), .ref 111, .ref 112, .int (T.1 45 0 0), .ref 113, .ref 114, .int (T.1 48 0 0), .ref 115, .ref 116, .ref 117, .ref 118, .ref 119, .long (T.2.1 29 0 0), .ref 120, .ref 121, .long (T.2.1 30 0 0), .long (T.2.1 31 0 0), .int v, .int (T.1 55 0 0), .ref 122, .long (T.2.1 33 0 0), .long (T.2.1 34 0 0), .long (T.2.1 35 0 0), .long (T.2.1 36 0 0), .long (T.2.1 37 0 0), .long (T.2.1 38 0 0), .long (T.2.1 39 0 0), .long (T.2.1 40 0 0), .long (T.2.1 41 0 0)])) = WX S (WM (sI T 54 0 (fun _ => v))) := rfl
theorem f_M_highAt  {v : Int32} {F : List eg_E → Prop} : eg_pf (WX S (WM T)) 95 12 31 (.int v) F = F (WX S (WM (sI T 54 0 (fun _ => v)))) := eg_pf_of (w_M) (Nat.le_of_ble_eq_true rfl) rfl (u_M_highAt)
theorem g_M_lowAt  {F : Value → Prop} : eg_gf (WX S (WM T)) 95 12 32 F = F (.int (T.1 55 0 0)) := eg_gf_of (w_M) rfl
set_option maxRecDepth 20000 in
theorem u_M_lowAt  {v : Int32} : (WX S (WM T)).set 95 (.inr (12, [.ref 97, .ref 98, .ref 99, .ref 100, .ref 101, .ref 102, .ref 103, .ref 104, .ref 105, .ref 106, .ref 107, .ref 108, .ref 109, .ref 110, .int (T.1 43 0 0), .ref 111, .ref 112, .int (T.1 45 0 0), .ref 113, .ref 114, .int (T.1 48 0 0), .ref 115, .ref 116, .ref 117, .ref 118, .ref 119, .long (T.2.1 29 0 0), .ref 120, .ref 121, .long (T.2.1 30 0 0), .long (T.2.1 31 0 0), .int (T.1 54 0 0), .int v, .ref 122, .long (T.2.1 33 0 0), .long (T.2.1 34 0 0), .long (T.2.1 35 0 0), .long (T.2.1 36 0 0), .long (T.2.1 37 0 0), .long (T.2.1 38 0 0), .long (T.2.1 39 0 0), .long (T.2.1 40 0 0), .long (T.2.1 41 0 0)])) = WX S (WM (sI T 55 0 (fun _ => v))) := rfl
theorem f_M_lowAt  {v : Int32} {F : List eg_E → Prop} : eg_pf (WX S (WM T)) 95 12 32 (.int v) F = F (WX S (WM (sI T 55 0 (fun _ => v)))) := eg_pf_of (w_M) (Nat.le_of_ble_eq_true rfl) rfl (u_M_lowAt)
theorem g_M_normal  {F : Value → Prop} : eg_gf (WX S (WM T)) 95 12 33 F = F (.ref 122) := eg_gf_of (w_M) rfl
theorem w_M_normal_  : (WX S (WM T))[121]? = some (.inl (1, 3, .inr (.inl (T.2.1 32 0)))) := rfl
set_option maxRecDepth 20000 in
theorem u_M_normal_  {g : Nat → Int64} : (WX S (WM T)).set 121 (.inl (1, 3, .inr (.inl (g)))) = WX S (WM (sL T 32 0 (g))) := rfl
theorem r_M_normal  {i : Int32} {F : Int64 → Prop} : eg_la (WX S (WM T)) 121 i F = (vp_in i 3 ∧ F (T.2.1 32 0 i.toNatClampNeg)) := eg_la_of (w_M_normal_)
theorem t_M_normal  {i : Int32} {v : Int64} {F : List eg_E → Prop} : eg_lst (WX S (WM T)) 121 i v F = (vp_in i 3 ∧ F (WX S (WM (sL T 32 0 (vp_updL (T.2.1 32 0) i.toNatClampNeg v))))) := eg_lst_of (w_M_normal_) (u_M_normal_)
theorem l_M_normal  {F : Int32 → Prop} : eg_al (WX S (WM T)) 121 F = F (Int32.ofNat 3) := eg_al_of (w_M_normal_) (by decide)
theorem g_M_midX  {F : Value → Prop} : eg_gf (WX S (WM T)) 95 12 34 F = F (.long (T.2.1 33 0 0)) := eg_gf_of (w_M) rfl
set_option maxRecDepth 20000 in
theorem u_M_midX  {v : Int64} : (WX S (WM T)).set 95 (.inr (12, [.ref 97, .ref 98, .ref 99, .ref 100, .ref 101, .ref 102, .ref 103, .ref 104, .ref 105, .ref 106, .ref 107, .ref 108, .ref 109, .ref 110, .int (T.1 43 0 0), .ref 111, .ref 112, .int (T.1 45 0 0), .ref 113, .ref 114, .int (T.1 48 0 0), .ref 115, .ref 116, .ref 117, .ref 118, .ref 119, .long (T.2.1 29 0 0), .ref 120, .ref 121, .long (T.2.1 30 0 0), .long (T.2.1 31 0 0), .int (T.1 54 0 0), .int (T.1 55 0 0), .ref 122, .long v, .long (T.2.1 34 0 0), .long (T.2.1 35 0 0), .long (T.2.1 36 0 0), .long (T.2.1 37 0 0), .long (T.2.1 38 0 0), .long (T.2.1 39 0 0), .long (T.2.1 40 0 0), .long (T.2.1 41 0 0)])) = WX S (WM (sL T 33 0 (fun _ => v))) := rfl
theorem f_M_midX  {v : Int64} {F : List eg_E → Prop} : eg_pf (WX S (WM T)) 95 12 34 (.long v) F = F (WX S (WM (sL T 33 0 (fun _ => v)))) := eg_pf_of (w_M) (Nat.le_of_ble_eq_true rfl) rfl (u_M_midX)
theorem g_M_midY  {F : Value → Prop} : eg_gf (WX S (WM T)) 95 12 35 F = F (.long (T.2.1 34 0 0)) := eg_gf_of (w_M) rfl
set_option maxRecDepth 20000 in
theorem u_M_midY  {v : Int64} : (WX S (WM T)).set 95 (.inr (12, [.ref 97, .ref 98, .ref 99, .ref 100, .ref 101, .ref 102, .ref 103, .ref 104, .ref 105, .ref 106, .ref 107, .ref 108, .ref 109, .ref 110, .int (T.1 43 0 0), .ref 111, .ref 112, .int (T.1 45 0 0), .ref 113, .ref 114, .int (T.1 48 0 0), .ref 115, .ref 116, .ref 117, .ref 118, .ref 119, .long (T.2.1 29 0 0), .ref 120, .ref 121, .long (T.2.1 30 0 0), .long (T.2.1 31 0 0), .int (T.1 54 0 0), .int (T.1 55 0 0), .ref 122, .long (T.2.1 33 0 0), .long v, .long (T.2.1 35 0 0), .long (T.2.1 36 0 0), .long (T.2.1 37 0 0), .long (T.2.1 38 0 0), .long (T.2.1 39 0 0), .long (T.2.1 40 0 0), .long (T.2.1 41 0 0)])) = WX S (WM (sL T 34 0 (fun _ => v))) := rfl
theorem f_M_midY  {v : Int64} {F : List eg_E → Prop} : eg_pf (WX S (WM T)) 95 12 35 (.long v) F = F (WX S (WM (sL T 34 0 (fun _ => v)))) := eg_pf_of (w_M) (Nat.le_of_ble_eq_true rfl) rfl (u_M_midY)
theorem g_M_midUnder  {F : Value → Prop} : eg_gf (WX S (WM T)) 95 12 36 F = F (.long (T.2.1 35 0 0)) := eg_gf_of (w_M) rfl
set_option maxRecDepth 20000 in
theorem u_M_midUnder  {v : Int64} : (WX S (WM T)).set 95 (.inr (12, [.ref 97, .ref 98, .ref 99, .ref 100, .ref 101, .ref 102, .ref 103, .ref 104, .ref 105, .ref 106, .ref 107, .ref 108, .ref 109, .ref 110, .int (T.1 43 0 0), .ref 111, .ref 112, .int (T.1 45 0 0), .ref 113, .ref 114, .int (T.1 48 0 0), .ref 115, .ref 116, .ref 117, .ref 118, .ref 119, .long (T.2.1 29 0 0), .ref 120, .ref 121, .long (T.2.1 30 0 0), .long (T.2.1 31 0 0), .int (T.1 54 0 0), .int (T.1 55 0 0), .ref 122, .long (T.2.1 33 0 0), .long (T.2.1 34 0 0), .long v, .long (T.2.1 36 0 0), .long (T.2.1 37 0 0), .long (T.2.1 38 0 0), .long (T.2.1 39 0 0), .long (T.2.1 40 0 0), .long (T.2.1 41 0 0)])) = WX S (WM (sL T 35 0 (fun _ => v))) := rfl
theorem f_M_midUnder  {v : Int64} {F : List eg_E → Prop} : eg_pf (WX S (WM T)) 95 12 36 (.long v) F = F (WX S (WM (sL T 35 0 (fun _ => v)))) := eg_pf_of (w_M) (Nat.le_of_ble_eq_true rfl) rfl (u_M_midUnder)
theorem g_M_farAbove  {F : Value → Prop} : eg_gf (WX S (WM T)) 95 12 37 F = F (.long (T.2.1 36 0 0)) := eg_gf_of (w_M) rfl
set_option maxRecDepth 20000 in
theorem u_M_farAbove  {v : Int64} : (WX S (WM T)).set 95 (.inr (12, [.ref 97, .ref 98, .ref 99, .ref 100, .ref 101, .ref 102, .ref 103, .ref 104, .ref 105, .ref 106, .ref 107, .ref 108, .ref 109, .ref 110, .int (T.1 43 0 0), .ref 111, .ref 112, .int (T.1 45 0 0), .ref 113, .ref 114, .int (T.1 48 0 0), .ref 115, .ref 116, .ref 117, .ref 118, .ref 119, .long (T.2.1 29 0 0), .ref 120, .ref 121, .long (T.2.1 30 0 0), .long (T.2.1 31 0 0), .int (T.1 54 0 0), .int (T.1 55 0 0), .ref 122, .long (T.2.1 33 0 0), .long (T.2.1 34 0 0), .long (T.2.1 35 0 0), .long v, .long (T.2.1 37 0 0), .long (T.2.1 38 0 0), .long (T.2.1 39 0 0), .long (T.2.1 40 0 0), .long (T.2.1 41 0 0)])) = WX S (WM (sL T 36 0 (fun _ => v))) := rfl
theorem f_M_farAbove  {v : Int64} {F : List eg_E → Prop} : eg_pf (WX S (WM T)) 95 12 37 (.long v) F = F (WX S (WM (sL T 36 0 (fun _ => v)))) := eg_pf_of (w_M) (Nat.le_of_ble_eq_true rfl) rfl (u_M_farAbove)
theorem g_M_farUnder  {F : Value → Prop} : eg_gf (WX S (WM T)) 95 12 38 F = F (.long (T.2.1 37 0 0)) := eg_gf_of (w_M) rfl
set_option maxRecDepth 20000 in
theorem u_M_farUnder  {v : Int64} : (WX S (WM T)).set 95 (.inr (12, [.ref 97, .ref 98, .ref 99, .ref 100, .ref 101, .ref 102, .ref 103, .ref 104, .ref 105, .ref 106, .ref 107, .ref 108, .ref 109, .ref 110, .int (T.1 43 0 0), .ref 111, .ref 112, .int (T.1 45 0 0), .ref 113, .ref 114, .int (T.1 48 0 0), .ref 115, .ref 116, .ref 117, .ref 118, .ref 119, .long (T.2.1 29 0 0), .ref 120, .ref 121, .long (T.2.1 30 0 0), .long (T.2.1 31 0 0), .int (T.1 54 0 0), .int (T.1 55 0 0), .ref 122, .long (T.2.1 33 0 0), .long (T.2.1 34 0 0), .long (T.2.1 35 0 0), .long (T.2.1 36 0 0), .long v, .long (T.2.1 38 0 0), .long (T.2.1 39 0 0), .long (T.2.1 40 0 0), .long (T.2.1 41 0 0)])) = WX S (WM (sL T 37 0 (fun _ => v))) := rfl
theorem f_M_farUnder  {v : Int64} {F : List eg_E → Prop} : eg_pf (WX S (WM T)) 95 12 38 (.long v) F = F (WX S (WM (sL T 37 0 (fun _ => v)))) := eg_pf_of (w_M) (Nat.le_of_ble_eq_true rfl) rfl (u_M_farUnder)
theorem g_M_fromAbove  {F : Value → Prop} : eg_gf (WX S (WM T)) 95 12 39 F = F (.long (T.2.1 38 0 0)) := eg_gf_of (w_M) rfl
set_option maxRecDepth 20000 in
theorem u_M_fromAbove  {v : Int64} : (WX S (WM T)).set 95 (.inr (12, [.ref 97, .ref 98, .ref 99, .ref 100, .ref 101, .ref 102, .ref 103, .ref 104, .ref 105, .ref 106, .ref 107, .ref 108, .ref 109, .ref 110, .int (T.1 43 0 0), .ref 111, .ref 112, .int (T.1 45 0 0), .ref 113, .ref 114, .int (T.1 48 0 0), .ref 115, .ref 116, .ref 117, .ref 118, .ref 119, .long (T.2.1 29 0 0), .ref 120, .ref 121, .long (T.2.1 30 0 0), .long (T.2.1 31 0 0), .int (T.1 54 0 0), .int (T.1 55 0 0), .ref 122, .long (T.2.1 33 0 0), .long (T.2.1 34 0 0), .long (T.2.1 35 0 0), .long (T.2.1 36 0 0), .long (T.2.1 37 0 0), .long v, .long (T.2.1 39 0 0), .long (T.2.1 40 0 0), .long (T.2.1 41 0 0)])) = WX S (WM (sL T 38 0 (fun _ => v))) := rfl
theorem f_M_fromAbove  {v : Int64} {F : List eg_E → Prop} : eg_pf (WX S (WM T)) 95 12 39 (.long v) F = F (WX S (WM (sL T 38 0 (fun _ => v)))) := eg_pf_of (w_M) (Nat.le_of_ble_eq_true rfl) rfl (u_M_fromAbove)
theorem g_M_fromUnder  {F : Value → Prop} : eg_gf (WX S (WM T)) 95 12 40 F = F (.long (T.2.1 39 0 0)) := eg_gf_of (w_M) rfl
set_option maxRecDepth 20000 in
theorem u_M_fromUnder  {v : Int64} : (WX S (WM T)).set 95 (.inr (12, [.ref 97, .ref 98, .ref 99, .ref 100, .ref 101, .ref 102, .ref 103, .ref 104, .ref 105, .ref 106, .ref 107, .ref 108, .ref 109, .ref 110, .int (T.1 43 0 0), .ref 111, .ref 112, .int (T.1 45 0 0), .ref 113, .ref 114, .int (T.1 48 0 0), .ref 115, .ref 116, .ref 117, .ref 118, .ref 119, .long (T.2.1 29 0 0), .ref 120, .ref 121, .long (T.2.1 30 0 0), .long (T.2.1 31 0 0), .int (T.1 54 0 0), .int (T.1 55 0 0), .ref 122, .long (T.2.1 33 0 0), .long (T.2.1 34 0 0), .long (T.2.1 35 0 0), .long (T.2.1 36 0 0), .long (T.2.1 37 0 0), .long (T.2.1 38 0 0), .long v, .long (T.2.1 40 0 0), .long (T.2.1 41 0 0)])) = WX S (WM (sL T 39 0 (fun _ => v))) := rfl
theorem f_M_fromUnder  {v : Int64} {F : List eg_E → Prop} : eg_pf (WX S (WM T)) 95 12 40 (.long v) F = F (WX S (WM (sL T 39 0 (fun _ => v)))) := eg_pf_of (w_M) (Nat.le_of_ble_eq_true rfl) rfl (u_M_fromUnder)
theorem g_M_toAbove  {F : Value → Prop} : eg_gf (WX S (WM T)) 95 12 41 F = F (.long (T.2.1 40 0 0)) := eg_gf_of (w_M) rfl
set_option maxRecDepth 20000 in
theorem u_M_toAbove  {v : Int64} : (WX S (WM T)).set 95 (.inr (12, [.ref 97, .ref 98, .ref 99, .ref 100, .ref 101, .ref 102, .ref 103, .ref 104, .ref 105, .ref 106, .ref 107, .ref 108, .ref 109, .ref 110, .int (T.1 43 0 0), .ref 111, .ref 112, .int (T.1 45 0 0), .ref 113, .ref 114, .int (T.1 48 0 0), .ref 115, .ref 116, .ref 117, .ref 118, .ref 119, .long (T.2.1 29 0 0), .ref 120, .ref 121, .long (T.2.1 30 0 0), .long (T.2.1 31 0 0), .int (T.1 54 0 0), .int (T.1 55 0 0), .ref 122, .long (T.2.1 33 0 0), .long (T.2.1 34 0 0), .long (T.2.1 35 0 0), .long (T.2.1 36 0 0), .long (T.2.1 37 0 0), .long (T.2.1 38 0 0), .long (T.2.1 39 0 0), .long v, .long (T.2.1 41 0 0)])) = WX S (WM (sL T 40 0 (fun _ => v))) := rfl
theorem f_M_toAbove  {v : Int64} {F : List eg_E → Prop} : eg_pf (WX S (WM T)) 95 12 41 (.long v) F = F (WX S (WM (sL T 40 0 (fun _ => v)))) := eg_pf_of (w_M) (Nat.le_of_ble_eq_true rfl) rfl (u_M_toAbove)
theorem g_M_toUnder  {F : Value → Prop} : eg_gf (WX S (WM T)) 95 12 42 F = F (.long (T.2.1 41 0 0)) := eg_gf_of (w_M) rfl
set_option maxRecDepth 20000 in
theorem u_M_toUnder  {v : Int64} : (WX S (WM T)).set 95 (.inr (12, [.ref 97, .ref 98, .ref 99, .ref 100, .ref 101, .ref 102, .ref 103, .ref 104, .ref 105, .ref 106, .ref 107, .ref 108, .ref 109, .ref 110, .int (T.1 43 0 0), .ref 111, .ref 112, .int (T.1 45 0 0), .ref 113, .ref 114, .int (T.1 48 0 0), .ref 115, .ref 116, .ref 117, .ref 118, .ref 119, .long (T.2.1 29 0 0), .ref 120, .ref 121, .long (T.2.1 30 0 0), .long (T.2.1 31 0 0), .int (T.1 54 0 0), .int (T.1 55 0 0), .ref 122, .long (T.2.1 33 0 0), .long (T.2.1 34 0 0), .long (T.2.1 35 0 0), .long (T.2.1 36 0 0), .long (T.2.1 37 0 0), .long (T.2.1 38 0 0), .long (T.2.1 39 0 0), .long (T.2.1 40 0 0), .long v])) = WX S (WM (sL T 41 0 (fun _ => v))) := rfl
theorem f_M_toUnder  {v : Int64} {F : List eg_E → Prop} : eg_pf (WX S (WM T)) 95 12 42 (.long v) F = F (WX S (WM (sL T 41 0 (fun _ => v)))) := eg_pf_of (w_M) (Nat.le_of_ble_eq_true rfl) rfl (u_M_toUnder)
theorem rw_parts : ∀ j, j < 4 → eg_rows4 j = some (31 + 5 * j + 1) := by decide +kernel
theorem r_X_parts {i : Int32} {F : Value → Prop} : eg_aa (WX S t) 1 i F = (vp_in i 4 ∧ F (.ref (31 + 5 * i.toNatClampNeg + 1))) := eg_aa_of (t := 4) (k := 4) (f := eg_rows4) rfl (by decide) (by decide) rw_parts
theorem rw_sheets : ∀ j, j < 4 → eg_rows5 j = some (51 + 2 * j + 1) := by decide +kernel
theorem r_X_sheets {i : Int32} {F : Value → Prop} : eg_aa (WX S t) 2 i F = (vp_in i 4 ∧ F (.ref (51 + 2 * i.toNatClampNeg + 1))) := eg_aa_of (t := 5) (k := 4) (f := eg_rows5) rfl (by decide) (by decide) rw_sheets
theorem rw_figures : ∀ j, j < 6 → eg_rows6 j = some (59 + 6 * j + 1) := by decide +kernel
theorem r_X_figures {i : Int32} {F : Value → Prop} : eg_aa (WX S t) 3 i F = (vp_in i 6 ∧ F (.ref (59 + 6 * i.toNatClampNeg + 1))) := eg_aa_of (t := 6) (k := 6) (f := eg_rows6) rfl (by decide) (by decide) rw_figures
end Wd
