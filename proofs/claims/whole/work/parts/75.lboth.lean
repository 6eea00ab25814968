/-! THE LAW: both calls of a case -/
section LBoth
variable {Z : State → Prop} {p : Program} {l : Launch} {e : Env} {s : State} {m : MethodId} {below : List Frame} {meth : Method} {c : Code} {D : va_G} {tc : Nat → ClassId} {u : Nat}
/-- what a program checks of a call of the law -/
def lawC (n idx np ci pc : Nat) : Prop := eg_np (eg_md n) = np ∧ eg_co (eg_md n) = ci ∧ eg_st (eg_md n) = 1 ∧ ((eg_rm (eg_md n)).cells = 0 ∧ (eg_rm (eg_md n)).slots = 0) ∧ ((eg_rm (eg_md n)).frames + 1 ≤ room_1.frames ∧ 8 + (eg_ml (eg_md n) + 11) + (eg_rm (eg_md n)).locals ≤ room_1.locals) ∧ decode code pc = .ok (.invokevirtual idx, 3)
theorem LW_callX {b L : Nat} {xs : Nat → Int32} (hC : LC p s m meth c b L xs D tc u) {n idx pc i kc ks : Nat} {as st : List Value} {S T : eg_S} {P : Int64 → eg_S → Prop} (hc : lawC n idx as.length 11 pc) (hn : n < 202) (k122 : kc = 122) (hlk : Cond.methodLink R_law idx (eg_y (eg_md n)) ∈ lw_tbl) (hkc : kc ≤ room_1.cells) (hks : ks ≤ room_1.slots) (hcat : (st.map fun v => v.category).sum ≤ 8) (has : ∀ f, as.map (eg_v f) = as)
    (h1 : ∀ Q : Option Value → List eg_E → Prop, (∀ r S', P r S' → Q (some (.long r)) (WX S' (WM T))) → eg_Runs n (.ref 1 :: as) (WX S (WM T)) Q) (kk : ∀ r S', P r S' → LW Z p l e s m below meth c D tc u b kc ks i (pc + 3) (.long r :: st) S' T) : LW Z p l e s m below meth c D tc u b kc ks i pc (as.reverse ++ .ref s.heap.size :: st) S T := by
  intro d0 H locs ls g1 g2 g3 g4 g5
  obtain ⟨c1, c2, c3, c4, c5, c6⟩ := hc
  have r := L_callV (l := l) (e := e) (below := below) (Z := Z) (rest := st) (k := 0) (as := as) (fs := [.ref 2, .ref 3, .ref 4, .ref 5, .ref 8, .ref 17, .ref 23, .ref 25, .ref 29, .long (S.2.1 0 0 0)]) (ls := ls) hC g1 (eg_RunsD_of (h1 (fun r h' => ∃ r0 S', P r0 S' ∧ r = some (.long r0) ∧ h' = WX S' (WM T)) (fun r S' hP => ⟨r, S', hP, rfl, rfl⟩))) hn c1 c2 (by decide) c3 c4 c5 hlk c6 rfl g2 g3 g4 g5.1 hcat hkc hks (fun r h' H1 locs1 d1 a1 a2 a3 a4 a5 => by
    obtain ⟨r0, S', hP, rfl, rfl⟩ := a2
    refine eg_size (fun hsz => ?_)
    have hz : H1.size = s.heap.size + 122 := eg_sz (s := s) (kc := 122) a3 rfl a5 (by rw [← k122]; exact hsz) (Nat.le_refl _)
    exact kk r0 S' hP d1 H1 locs1 ls a1 a3 hz a5 g5)
  rw [has] at r
  exact r
theorem LW_callM {b L : Nat} {xs : Nat → Int32} (hC : LC p s m meth c b L xs D tc u) {n idx pc i kc ks : Nat} {as st : List Value} {S T : eg_S} {r : Int64} (hc : lawC n idx as.length 12 pc) (hn : n < 202) (k122 : kc = 122) (hlk : Cond.methodLink R_law idx (eg_y (eg_md n)) ∈ lw_tbl) (hkc : kc ≤ room_1.cells) (hks : ks ≤ room_1.slots) (hcat : (st.map fun v => v.category).sum ≤ 8) (has : ∀ f, as.map (eg_v f) = as)
    (h1 : ∀ Q : Option Value → List eg_E → Prop, (∀ T', Rel S T' → Q (some (.long r)) (WX S (WM T'))) → eg_RunsD n (.ref 96 :: as) (WX S (WM T)) Q) (kk : ∀ T', Rel S T' → LW Z p l e s m below meth c D tc u b kc ks i (pc + 3) (.long r :: st) S T') : LW Z p l e s m below meth c D tc u b kc ks i pc (as.reverse ++ .ref (s.heap.size + 95) :: st) S T := by
  intro d0 H locs ls g1 g2 g3 g4 g5
  obtain ⟨c1, c2, c3, c4, c5, c6⟩ := hc
  have r := L_callV (l := l) (e := e) (below := below) (Z := Z) (rest := st) (k := 95) (as := as) (ls := ls) hC g1 (h1 (fun r0 h' => ∃ T', Rel S T' ∧ r0 = some (.long r) ∧ h' = WX S (WM T')) (fun T' hR => ⟨T', hR, rfl, rfl⟩)) hn c1 c2 (by decide) c3 c4 c5 hlk c6 rfl g2 g3 g4 g5.1 hcat hkc hks (fun r h' H1 locs1 d1 a1 a2 a3 a4 a5 => by
    obtain ⟨T', hR, rfl, rfl⟩ := a2
    refine eg_size (fun hsz => ?_)
    have hz : H1.size = s.heap.size + 122 := eg_sz (s := s) (kc := 122) a3 rfl a5 (by rw [← k122]; exact hsz) (Nat.le_refl _)
    exact kk T' hR d1 H1 locs1 ls a1 a3 hz a5 g5)
  rw [has] at r
  exact r
/-- equal answers: on with the loop -/
theorem LW_eq {b L : Nat} {xs : Nat → Int32} (hC : LC p s m meth c b L xs D tc u) {pc i kc ks : Nat} {S T : eg_S} {r : Int64} {off : Int} (hd : decode code pc = .ok (.lcmp, 1) ∧ decode code (pc + 1) = .ok (.ifCond .eq off, 3) ∧ ((pc + 1 : Nat) : Int) + off = 1706) (kk : LW Z p l e s m below meth c D tc u b kc ks i 1706 [] S T) : LW Z p l e s m below meth c D tc u b kc ks i pc [.long r, .long r] S T := by
  intro d0 H locs ls g1 g2 g3 g4 g5
  refine W.lcmp hC.1.1 hC.1.2.1 hd.1 ?_
  refine lv_if_eq (tgt := 1706) hC.1.1 hC.1.2.1 hd.2.1 hd.2.2 (fun _ => kk d0 H locs ls g1 g2 g3 g4 g5) (fun z => absurd ((lg_cmp_eq r r).mpr rfl) z)
end LBoth
