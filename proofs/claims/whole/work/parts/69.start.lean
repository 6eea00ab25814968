/-! THE LAW: what holds at its start -/
section Start
variable {s : State} {args : Array Value}
theorem inst_in {ci : Nat} (h : ci < 13) : Cond.instantiable (eg_cl ci).1 (eg_cl ci).2.2 ∈ lw_tbl := by
  have : ci = 0 ∨ ci = 1 ∨ ci = 2 ∨ ci = 3 ∨ ci = 4 ∨ ci = 5 ∨ ci = 6 ∨ ci = 7 ∨ ci = 8 ∨ ci = 9 ∨ ci = 10 ∨ ci = 11 ∨ ci = 12 := by omega
  rcases this with rfl | rfl | rfl | rfl | rfl | rfl | rfl | rfl | rfl | rfl | rfl | rfl | rfl <;> decide +kernel
theorem ty_prim {ty : FieldType} (h : (Cond.arrayClass ty).before args s = true) (hr : ∀ cA, s.vm.findClass ("[" ++ ty.toString) = some cA → va_RA s cA ty) : ∃ cA, ArrOfT s cA ty ∧ va_RA s cA ty := by
  obtain ⟨cA, kA, comp, h1, h2, h3⟩ := Cond.arrayClass_spec h
  exact ⟨cA, fun n z => ⟨(fun k h => by cases h), kA, h2, comp, h3⟩, hr cA h1⟩
theorem ty_obj {C : String} (h : (Cond.arrayOver (.object C)).before args s = true) : ∃ cA, ArrOfT s cA (.object C) ∧ va_RA s cA (.object C) := by
  obtain ⟨comp, cA, kA, h1, h2, h3, h4, h5⟩ := Cond.arrayOver_spec h
  exact ⟨cA, fun n z => ⟨(fun k h => by cases h), kA, h3, comp, h4⟩, kA, comp, h3, h4, h1, h5⟩
theorem law_K (hts : ∀ w ∈ lw_tbl, w.before args s = true) : ∃ (D : va_G) (tc : Nat → ClassId), va_K D vwCl (eg_tys tc) s := by
  have kn : ∀ ci : Nat, ∃ x : ClassId × (Nat → Nat), ci < 13 → u_Kn s (eg_cl ci).1 (eg_cl ci).2.1 (eg_cl ci).2.2 x.1 x.2 := by
    intro ci
    by_cases h : ci < 13
    · obtain ⟨cC, iS, hk⟩ := u_known (ws := eg_tbl) (fun w hw => hts w (List.mem_filter.mp hw).1) (eg_lays ci h) (hts _ (inst_in h))
      exact ⟨(cC, iS), fun _ => hk⟩
    · exact ⟨(0, fun _ => 0), fun z => absurd z h⟩
  have kt : ∀ k : Nat, ∃ cA : ClassId, ∀ t, eg_tyl[k]? = some t → ArrOfT s cA t ∧ va_RA s cA t := by
    intro k
    match k with
    | 0 => obtain ⟨cA, h⟩ := ty_prim (ty := .int) (hts _ (by decide +kernel)) (fun _ z => z); exact ⟨cA, fun t e => by cases e; exact h⟩
    | 1 => obtain ⟨cA, h⟩ := ty_prim (ty := .long) (hts _ (by decide +kernel)) (fun _ z => z); exact ⟨cA, fun t e => by cases e; exact h⟩
    | 2 => obtain ⟨cA, h⟩ := ty_prim (ty := .boolean) (hts _ (by decide +kernel)) (fun _ z => z); exact ⟨cA, fun t e => by cases e; exact h⟩
    | 3 => obtain ⟨cA, h⟩ := ty_prim (ty := .double) (hts _ (by decide +kernel)) (fun _ z => z); exact ⟨cA, fun t e => by cases e; exact h⟩
    | 4 => obtain ⟨cA, h⟩ := ty_obj (C := "TouchBench$Part") (hts _ (by decide +kernel)); exact ⟨cA, fun t e => by cases e; exact h⟩
    | 5 => obtain ⟨cA, h⟩ := ty_obj (C := "TouchBench$Sheet") (hts _ (by decide +kernel)); exact ⟨cA, fun t e => by cases e; exact h⟩
    | 6 => obtain ⟨cA, h⟩ := ty_obj (C := "TouchBench$Figure") (hts _ (by decide +kernel)); exact ⟨cA, fun t e => by cases e; exact h⟩
    | k + 7 => exact ⟨0, fun t e => by cases e⟩
  obtain ⟨f, hf⟩ := Classical.axiomOfChoice kn
  obtain ⟨tc, ht⟩ := Classical.axiomOfChoice kt
  refine ⟨(fun c => (f c).1, fun c => (f c).2), tc, fun c q hq => ?_, fun k q hk => ?_⟩
  · by_cases h : c < 13
    · rw [eg_cl_get h] at hq
      cases hq
      exact hf c h
    · rw [List.getElem?_eq_none (by show 13 ≤ c; omega)] at hq
      cases hq
  · unfold eg_tys at hk
    rw [List.getElem?_mapIdx] at hk
    cases he : eg_tyl[k]? with
    | none => rw [he] at hk; cases hk
    | some t =>
      rw [he] at hk
      cases hk
      exact ht k t he
theorem law_N (hts : ∀ w ∈ lw_tbl, w.before args s = true) : eg_N s := by
  have hcn : ∀ q ∈ eg_CN, eg_cnw q ∈ lw_tbl := by decide +kernel
  exact ⟨fun q hq => va_Nw.of rfl (hts _ (hcn q hq)), va_Nw.of rfl (hts _ (by decide +kernel)), va_AO.of (hts _ (by decide +kernel)), va_AO.of (hts _ (by decide +kernel)), va_AO.of (hts _ (by decide +kernel))⟩
end Start
