/-! THE LAW: the static row at its start -/
section Static
variable {s : State} {args : Array Value}
abbrev tU : Term := .static "TouchBench" "UNDER" "[I"
theorem eqT {t : Term} {z : Int32} (h : (Cond.eq t (.int z)).before args s = true) : t.eval args s none [] s = some (.int z) := by
  cases hv : t.eval args s none [] s with
  | none => simp [Cond.before, Cond.holds, Cond.value, hv] at h
  | some w =>
    have hz : (Term.int z).eval args s none [] s = some (.int z) := rfl
    simp only [Cond.before, Cond.holds, Cond.value, hv, hz] at h
    cases w <;> simp_all
theorem lenB {t : Term} {v : Value} {u : Addr} {cell : Cell} (h2 : (Term.length t).eval args s none [] s = some v) (ht : t.eval args s none [] s = some (.ref u)) (harr : s.arrayAt? u = some cell) : cell.slots.size < 2147483648 := by
  simp only [Term.eval, ht, harr, Option.bind_eq_bind, Option.bind_some] at h2
  by_cases hlt : cell.slots.size < 2147483648
  · exact hlt
  · simp [hlt] at h2
theorem law_X (hts : ∀ w ∈ lw_tbl, w.before args s = true) (hgv : (Jvm.Cond.and given_1 narrow_1).before args s = true) : ∃ u, eg_X u s.heap.size s := by
  have hs := flat_of_before _ hgv
  have h1 : (Cond.arrayOf tU .int).before args s = true := hs _ (by decide +kernel)
  have h2 := eqT (t := .length tU) (z := 6) (hs _ (by decide +kernel))
  obtain ⟨u, cell, ht, harr, hx⟩ := Term.length_spec h2
  obtain ⟨hcell, hkn, -, -⟩ := State.arrayAt?_spec harr
  have hlt : u < s.heap.size := (Array.getElem?_eq_some_iff.mp hcell).1
  have hof := (Cond.arrayOf_spec h1 ht hcell).1
  have hsz : cell.slots.size = 6 := by
    have hb := lenB h2 ht harr
    have he : nI 6 = nI cell.slots.size := by
      injection hx
    exact ((nI_eq (by decide) hb).mp he).symm
  have hel : ∀ (k : Nat) (z : Int32), (Cond.eq (.elem tU (.int (Int32.ofNat k))) (.int z)).before args s = true → k < 6 → cell.slots[k]? = some (.int z) := by
    intro k z hk hk6
    obtain ⟨a, j, cell', g1, g2, g3, -, g5⟩ := Term.elem_spec (eqT hk)
    cases ht.symm.trans g1
    cases harr.symm.trans g3
    have g2' : (Term.int (Int32.ofNat k)).eval args s none [] s = some (.int (Int32.ofNat k)) := rfl
    cases g2'.symm.trans g2
    have e : (Int32.ofNat k).toNatClampNeg = k := nI_clamp (by omega)
    rw [e] at g5
    exact g5
  refine ⟨u, hlt, va_Zof (hts _ (by decide +kernel)) (hts _ (by decide +kernel)) ht (fun a ha => Nat.not_le.mpr ha), cell, hcell, hof, hkn, hsz, fun j hj => ?_⟩
  have : j = 0 ∨ j = 1 ∨ j = 2 ∨ j = 3 ∨ j = 4 ∨ j = 5 := by omega
  rcases this with rfl | rfl | rfl | rfl | rfl | rfl
  · exact hel 0 _ (hs _ (by decide +kernel)) (by decide)
  · exact hel 1 _ (hs _ (by decide +kernel)) (by decide)
  · exact hel 2 _ (hs _ (by decide +kernel)) (by decide)
  · exact hel 3 _ (hs _ (by decide +kernel)) (by decide)
  · exact hel 4 _ (hs _ (by decide +kernel)) (by decide)
  · exact hel 5 _ (hs _ (by decide +kernel)) (by decide)
end Static
