/-! THE ENGINE: bytecode, normalised, run over worlds of numbered cells; a handle 0 is the static row UNDER, a handle n+1 the cell n -/
abbrev eg_E : Type := (Nat × vp_A) ⊕ (Nat × List Value)
abbrev eg_Lo : Type := List (Option Value)
def eg_ad (u base : Nat) (n : Nat) : Nat := match n with
  | 0 => u
  | k + 1 => base + k
def eg_v (f : Nat → Nat) (v : Value) : Value := match v with
  | .ref n => .ref (f n)
  | v => v
def eg_a (f : Nat → Nat) (a : vp_A) : vp_A := match a with
  | (n, .inr (.inr (.inr (.inr q)))) => (n, .inr (.inr (.inr (.inr (fun i => (q i).map f)))))
  | (n, .inr (.inr (.inr (.inl q)))) => (n, .inr (.inr (.inr (.inl q))))
  | (n, .inr (.inr (.inl q))) => (n, .inr (.inr (.inl q)))
  | (n, .inr (.inl q)) => (n, .inr (.inl q))
  | (n, .inl q) => (n, .inl q)
def eg_e (f : Nat → Nat) (tc : Nat → ClassId) (x : eg_E) : va_E := match x with
  | .inl (t, a) => .inl (tc t, eg_a f a)
  | .inr (ci, fs) => .inr (ci, fs.map (eg_v f))
def eg_w (u base : Nat) (tc : Nat → ClassId) (h : List eg_E) : va_W := h.mapIdx (fun i e => (base + i, eg_e (eg_ad u base) tc e))
def eg_tyl : List FieldType := [.int, .long, .boolean, .double, .object "TouchBench$Part", .object "TouchBench$Sheet", .object "TouchBench$Figure"]
def eg_tys (tc : Nat → ClassId) : List (ClassId × FieldType) := eg_tyl.mapIdx (fun i t => (tc i, t))
def eg_under (k : Nat) : Int32 := match k with
  | 0 => -1
  | 1 => 0
  | 2 => 1
  | 3 => 1
  | 4 => 0
  | _ => 4
theorem eg_w_get {u base : Nat} {tc : Nat → ClassId} {h : List eg_E} {n : Nat} {e : eg_E} (hn : h[n]? = some e) : (eg_w u base tc h)[n]? = some (base + n, eg_e (eg_ad u base) tc e) := by
  unfold eg_w
  rw [List.getElem?_mapIdx, hn]
  rfl
theorem eg_w_inv {u base : Nat} {tc : Nat → ClassId} {h : List eg_E} {n : Nat} {q : Nat × va_E} (hn : (eg_w u base tc h)[n]? = some q) : ∃ e, h[n]? = some e ∧ q = (base + n, eg_e (eg_ad u base) tc e) := by
  unfold eg_w at hn
  rw [List.getElem?_mapIdx] at hn
  cases he : h[n]? with
  | none => rw [he] at hn; cases hn
  | some e => rw [he] at hn; exact ⟨e, rfl, (Option.some.inj hn).symm⟩
theorem eg_w_set {u base : Nat} {tc : Nat → ClassId} {h : List eg_E} {n : Nat} {e : eg_E} : (eg_w u base tc h).set n (base + n, eg_e (eg_ad u base) tc e) = eg_w u base tc (h.set n e) := by
  apply List.ext_getElem?
  intro i
  unfold eg_w
  rw [List.getElem?_set, List.getElem?_mapIdx, List.getElem?_mapIdx, List.getElem?_set, List.length_mapIdx]
  by_cases hi : n = i
  · subst hi
    by_cases hl : n < h.length <;> simp [hl]
  · simp [hi]
theorem eg_w_len {u base : Nat} {tc : Nat → ClassId} {h : List eg_E} : (eg_w u base tc h).length = h.length := by
  unfold eg_w
  rw [List.length_mapIdx]
theorem eg_w_app {u base : Nat} {tc : Nat → ClassId} {h : List eg_E} {e : eg_E} : eg_w u base tc (h ++ [e]) = eg_w u base tc h ++ [(base + h.length, eg_e (eg_ad u base) tc e)] := by
  unfold eg_w
  rw [List.mapIdx_append]
  simp
theorem eg_wD {u base : Nat} {tc : Nat → ClassId} {h : List eg_E} : va_D (fun q => base ≤ q) (eg_w u base tc h) := by
  refine ⟨fun i j p q hi hj hpq => ?_, fun k q hk => ?_⟩
  · obtain ⟨e1, -, rfl⟩ := eg_w_inv hi
    obtain ⟨e2, -, rfl⟩ := eg_w_inv hj
    simp only at hpq
    omega
  · obtain ⟨e1, -, rfl⟩ := eg_w_inv hk
    exact Nat.le_add_right _ _
/-- what stays: the static row, and the links of nest mates -/
def eg_X (u base : Nat) (U : State) : Prop := u < base ∧ va_Z "TouchBench" "UNDER" "[I" (.ref u) (fun q => base ≤ q) U U.heap ∧ va_X u 6 eg_under U U.heap
def eg_N (U : State) : Prop := (∀ q ∈ eg_CN, va_Nw (eg_cnw q) U) ∧ va_Nw (.fieldLinkNest "TouchBench$Figure" 36 "TouchBench" "UNDER" "[I" "TouchBench") U ∧ va_AO "TouchBench$Part" U ∧ va_AO "TouchBench$Sheet" U ∧ va_AO "TouchBench$Figure" U
def eg_H (D : va_G) (tc : Nat → ClassId) (u base : Nat) (h : List eg_E) (H : Heap) : Prop := va_P D vwCl (eg_w u base tc h) H ∧ H.size = base + h.length
def eg_Pre (D : va_G) (tc : Nat → ClassId) (u base : Nat) (h : List eg_E) (U : State) : Prop := eg_H D tc u base h U.heap ∧ va_K D vwCl (eg_tys tc) U ∧ eg_X u base U ∧ eg_N U
def eg_Qc (D : va_G) (tc : Nat → ClassId) (u base n0 : Nat) (Q : Option Value → List eg_E → Prop) : Array Value → State → Outcome → State → Prop := fun _ st oc t => (∃ (r : Option Value) (h' : List eg_E), oc = .returned (r.map (eg_v (eg_ad u base))) ∧ Q r h' ∧ va_P D vwCl (eg_w u base tc h') t.heap ∧ h'.length = n0) ∧ va_F (fun q => base ≤ q) st t
def eg_ws (d : eg_M) : List Cond := eg_cdw d :: eg_tbl
/-- method n, called with as over h, ends, and Q holds of its answer and of what it leaves -/
def eg_Runs (n : Nat) (as : List Value) (h : List eg_E) (Q : Option Value → List eg_E → Prop) : Prop := ∀ (l : Launch) (D : va_G) (tc : Nat → ClassId) (u base : Nat), Met l (eg_y (eg_md n)) (eg_ws (eg_md n)) (eg_rm (eg_md n)) (va_Pc (as.map (eg_v (eg_ad u base))) (eg_Pre D tc u base h)) (eg_Qc D tc u base (h.length + (eg_rm (eg_md n)).cells) Q) (eg_rm (eg_md n)).cells (eg_rm (eg_md n)).slots (fun q => base ≤ q)
theorem eg_N_warm {s U : State} (hW : s.WarmedH U.vm) (h : eg_N s) : eg_N U :=
  ⟨fun q hq => va_Nw.warmM hW (h.1 q hq), va_Nw.warmF hW h.2.1, h.2.2.1.moved hW.alike, h.2.2.2.1.moved hW.alike, h.2.2.2.2.moved hW.alike⟩
theorem eg_X_move {u base : Nat} {s U : State} {locs : List Loc} (hb : base ≤ s.heap.size) (hW : s.WarmedH U.vm) (hS : va_S (fun q => base ≤ q) s.heap U.heap locs) (h : eg_X u base s) : eg_X u base U := by
  obtain ⟨h1, h2, h3⟩ := h
  refine ⟨h1, (h2.kept (fun a ha hn => hS.2.1 a ha hn)).moved hW.alike, (h3.kept (hS.2.1 u (by omega) (by omega))).moved hW.alike⟩
/-- locals -/
def eg_L (f : Nat → Nat) (ls : Array Slot) (nL : Nat) (loc : eg_Lo) : Prop := ls.size = nL ∧ lv_wf ls ∧ ∀ (i : Nat) (v : Value), loc[i]? = some (some v) → ls[i]? = some (.val (eg_v f v))
def eg_kill (loc : eg_Lo) (i : Nat) : eg_Lo := match i with
  | 0 => loc
  | j + 1 => match loc[j]? with
    | some (some w) => if w.category = 2 then loc.set j none else loc
    | _ => loc
def eg_set1 (loc : eg_Lo) (i : Nat) (v : Value) : eg_Lo := (eg_kill loc i).set i (some v)
def eg_set2 (loc : eg_Lo) (i : Nat) (v : Value) : eg_Lo := ((eg_kill loc i).set (i + 1) none).set i (some v)
theorem eg_cat (f : Nat → Nat) (v : Value) : (eg_v f v).category = v.category := by cases v <;> rfl
theorem eg_kill_get {loc : eg_Lo} {i j : Nat} {w : Value} (h : (eg_kill loc i)[j]? = some (some w)) : loc[j]? = some (some w) ∧ ¬ (j + 1 = i ∧ w.category = 2) := by
  unfold eg_kill at h
  split at h
  · exact ⟨h, fun q => by omega⟩
  · rename_i k
    split at h
    · rename_i w' hw'
      split at h
      · rename_i hc
        rw [List.getElem?_set] at h
        by_cases hj : k = j
        · rw [if_pos hj] at h
          split at h <;> cases h
        · rw [if_neg hj] at h
          exact ⟨h, fun q => hj (by omega)⟩
      · rename_i hc
        refine ⟨h, fun q => hc ?_⟩
        have hk : k = j := by omega
        subst hk
        rw [hw'] at h
        cases h
        exact q.2
    · rename_i hn
      refine ⟨h, fun q => ?_⟩
      have hk : k = j := by omega
      subst hk
      exact hn _ h
def eg_ll (f : Nat → Nat) (loc : eg_Lo) : List (Nat × Value) := (List.range loc.length).filterMap (fun i => (loc[i]?.join).map (fun v => (i, eg_v f v)))
theorem eg_ll_mem {f : Nat → Nat} {loc : eg_Lo} {q : Nat × Value} : q ∈ eg_ll f loc ↔ ∃ v, loc[q.1]? = some (some v) ∧ q.2 = eg_v f v := by
  unfold eg_ll
  rw [List.mem_filterMap]
  constructor
  · rintro ⟨i, -, hi⟩
    cases hl : loc[i]? with
    | none => rw [hl] at hi; cases hi
    | some o =>
      cases o with
      | none => rw [hl] at hi; cases hi
      | some v =>
        rw [hl] at hi
        cases hi
        exact ⟨v, hl, rfl⟩
  · rintro ⟨v, hv, he⟩
    refine ⟨q.1, List.mem_range.mpr (List.getElem?_eq_some_iff.mp hv).1, ?_⟩
    rw [hv]
    show some (q.1, eg_v f v) = some q
    rw [← he]
theorem eg_L_has {f : Nat → Nat} {ls : Array Slot} {nL : Nat} {loc : eg_Lo} (h : eg_L f ls nL loc) : lv_has ls nL (eg_ll f loc) := by
  refine ⟨h.1, h.2.1, fun q hq => ?_⟩
  obtain ⟨v, hv, he⟩ := eg_ll_mem.mp hq
  rw [he]
  exact h.2.2 _ _ hv
theorem eg_L_set1 {f : Nat → Nat} {ls : Array Slot} {nL i : Nat} {loc : eg_Lo} {v : Value} (h : lv_has ls nL ((i, eg_v f v) :: (eg_ll f loc).filter (fun q => !(q.1 == i) && !(q.1 + 1 == i && q.2.category == 2)))) : eg_L f ls nL (eg_set1 loc i v) := by
  refine ⟨h.1, h.2.1, fun j w hj => ?_⟩
  unfold eg_set1 at hj
  rw [List.getElem?_set] at hj
  by_cases hij : i = j
  · rw [if_pos hij] at hj
    split at hj
    · cases hj
      subst hij
      exact h.2.2 (i, eg_v f v) List.mem_cons_self
    · cases hj
  · rw [if_neg hij] at hj
    obtain ⟨h1, h2⟩ := eg_kill_get hj
    refine h.2.2 (j, eg_v f w) (List.mem_cons_of_mem _ (List.mem_filter.mpr ⟨eg_ll_mem.mpr ⟨w, h1, rfl⟩, ?_⟩))
    simp only [eg_cat]
    have h3 : ¬ j = i := fun q => hij q.symm
    by_cases h4 : j + 1 = i
    · have h5 : ¬ w.category = 2 := fun q => h2 ⟨h4, q⟩
      simp [h3, h5]
    · simp [h3, h4]
theorem eg_L_set2 {f : Nat → Nat} {ls : Array Slot} {nL i : Nat} {loc : eg_Lo} {v : Value} (h : lv_has ls nL ((i, eg_v f v) :: (eg_ll f loc).filter (fun q => !(q.1 == i) && (!(q.1 == i + 1) && !(q.1 + 1 == i && q.2.category == 2))))) : eg_L f ls nL (eg_set2 loc i v) := by
  refine ⟨h.1, h.2.1, fun j w hj => ?_⟩
  unfold eg_set2 at hj
  rw [List.getElem?_set] at hj
  by_cases hij : i = j
  · rw [if_pos hij] at hj
    split at hj
    · cases hj
      subst hij
      exact h.2.2 (i, eg_v f v) List.mem_cons_self
    · cases hj
  · rw [if_neg hij] at hj
    rw [List.getElem?_set] at hj
    by_cases hi1 : i + 1 = j
    · rw [if_pos hi1] at hj
      split at hj <;> cases hj
    · rw [if_neg hi1] at hj
      obtain ⟨h1, h2⟩ := eg_kill_get hj
      refine h.2.2 (j, eg_v f w) (List.mem_cons_of_mem _ (List.mem_filter.mpr ⟨eg_ll_mem.mpr ⟨w, h1, rfl⟩, ?_⟩))
      simp only [eg_cat]
      have h3 : ¬ j = i := fun q => hij q.symm
      have h6 : ¬ j = i + 1 := fun q => hi1 q.symm
      by_cases h4 : j + 1 = i
      · have h5 : ¬ w.category = 2 := fun q => h2 ⟨h4, q⟩
        simp [h3, h5, h6]
      · simp [h3, h4, h6]
