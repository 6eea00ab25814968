section EgS
variable {d : eg_M} {Z : State → Prop} {p : Program} {l : Launch} {e : Env} {s : State} {m : MethodId} {args : Array Value} {below : List Frame} {meth : Method} {c : Code} {D : va_G} {tc : Nat → ClassId} {u base : Nat}
theorem eg_mono {R : Room} {H : Heap} {locs : List Loc} {cells slots : Nat} {g : JFrame} {Z1 Z2 : State → Prop} (h : ∀ t, Z1 t → Z2 t) (k : W p l e R s m args below meth c H locs cells slots Z1 g) : W p l e R s m args below meth c H locs cells slots Z2 g := fun T hT X => by
  obtain ⟨t, a, b⟩ := k T hT X
  exact ⟨t, a, h t b⟩
theorem eg_size {R : Room} {H : Heap} {locs : List Loc} {cells slots : Nat} {g : JFrame} (k : H.size ≤ s.heap.size + cells → W p l e R s m args below meth c H locs cells slots Z g) : W p l e R s m args below meth c H locs cells slots Z g := fun T hT X => by
  have h1 := X.same.2.2.1
  exact k (by rw [← hT]; exact h1) T hT X
/-- the heap's size, from the world's -/
theorem eg_sz {H : Heap} {h : List eg_E} {kc : Nat} {locs : List Loc} (hP : va_P D vwCl (eg_w u base tc h) H) (hn : base + h.length = s.heap.size + kc) (hS : va_S (fun q => base ≤ q) s.heap H locs) (hsz : H.size ≤ s.heap.size + kc) (hb : base ≤ s.heap.size) : H.size = base + h.length := by
  by_cases hl : h.length = 0
  · have := hS.1
    omega
  · have hlt : h.length - 1 < h.length := by omega
    have hq := eg_w_get (u := u) (base := base) (tc := tc) (List.getElem?_eq_getElem hlt)
    have h2 := (hP _ _ hq).lt
    simp only at h2
    omega
theorem eg_adS (n : Nat) : eg_ad u base (n + 1) = base + n := rfl
theorem eg_tc {t : Nat} {ty : FieldType} (h : eg_tyl[t]? = some ty) : (eg_tys tc)[t]? = some (tc t, ty) := by
  unfold eg_tys
  rw [List.getElem?_mapIdx, h]
  rfl
theorem eg_tup (f : Nat → Nat) (q : Nat → Option Nat) (i x : Nat) : (fun j => (va_up q i (some x) j).map f) = va_up (fun j => (q j).map f) i (some (f x)) := by
  funext j
  unfold va_up
  split <;> rfl
theorem eg_rf (f : Nat → Nat) (r : Option Nat) : eg_v f (va_rf r) = va_rf (r.map f) := by cases r <;> rfl
theorem eg_fit_v {f : Nat → Nat} {t : FieldType} {v : Value} (h : eg_fit t v = true) : narrow t (eg_v f v) = eg_v f v ∧ fits t (eg_v f v) = true := by
  unfold eg_fit at h
  split at h
  all_goals first | exact ⟨rfl, rfl⟩ | cases h
theorem eg_cl_get {ci : Nat} (h : ci < 13) : vwCl[ci]? = some (eg_cl ci) := by
  unfold eg_cl
  rw [List.getD_eq_getElem?_getD]
  have hl : ci < vwCl.length := h
  rw [List.getElem?_eq_getElem hl]
  rfl
theorem eg_lays : ∀ ci, ci < 13 → ∀ w ∈ u_ws (eg_cl ci).1 (eg_cl ci).2.1 (eg_cl ci).2.2, w ∈ eg_tbl := by
  intro ci hci
  match ci, hci with
  | 0, _ => exact inX0
  | 1, _ => exact inX1
  | 2, _ => exact inX2
  | 3, _ => exact inX3
  | 4, _ => exact inX4
  | 5, _ => exact inX5
  | 6, _ => exact inX6
  | 7, _ => exact inX7
  | 8, _ => exact inX8
  | 9, _ => exact inX9
  | 10, _ => exact inX10
  | 11, _ => exact inX11
  | 12, _ => exact inX12
theorem eg_names : ∀ ci, ci < 13 → ∀ a, a < (eg_cl ci).2.2 → ∀ b, b < (eg_cl ci).2.2 → a ≠ b → ((eg_cl ci).2.1 a).2.1 ≠ ((eg_cl ci).2.1 b).2.1 := by
  intro ci hci
  match ci, hci with
  | 0, _ => exact nmX0
  | 1, _ => exact nmX1
  | 2, _ => exact nmX2
  | 3, _ => exact nmX3
  | 4, _ => exact nmX4
  | 5, _ => exact nmX5
  | 6, _ => exact nmX6
  | 7, _ => exact nmX7
  | 8, _ => exact nmX8
  | 9, _ => exact nmX9
  | 10, _ => exact nmX10
  | 11, _ => exact nmX11
  | 12, _ => exact nmX12
theorem eg_types : ∀ ci, ci < 13 → ∀ k, k < (eg_cl ci).2.2 → parseFieldDescriptor ((eg_cl ci).2.1 k).2.2.1 = some (eg_fty ci k) := by
  intro ci hci
  match ci, hci with
  | 0, _ => exact tyX0_ok
  | 1, _ => exact tyX1_ok
  | 2, _ => exact tyX2_ok
  | 3, _ => exact tyX3_ok
  | 4, _ => exact tyX4_ok
  | 5, _ => exact tyX5_ok
  | 6, _ => exact tyX6_ok
  | 7, _ => exact tyX7_ok
  | 8, _ => exact tyX8_ok
  | 9, _ => exact tyX9_ok
  | 10, _ => exact tyX10_ok
  | 11, _ => exact tyX11_ok
  | 12, _ => exact tyX12_ok
theorem eg_FL_s {q : Nat × Nat × Nat × Nat} (h : q ∈ eg_FL) : q.2.2.1 < 13 ∧ q.2.2.2 < (eg_cl q.2.2.1).2.2 ∧ eg_fw q ∈ eg_tbl := by
  have h1 := List.all_eq_true.mp eg_FL_k q h
  simp only [Bool.and_eq_true, decide_eq_true_eq] at h1
  exact ⟨h1.1, h1.2, eg_FL_w _ (List.mem_map.mpr ⟨q, h, rfl⟩)⟩
set_option maxHeartbeats 1000000 in
theorem eg_s_nop {K : Nat → Nat → Nat → eg_Lo → List Value → List eg_E → Prop} {Q : Option Value → List eg_E → Prop} {N : Nat → Nat → eg_Lo → List Value → List eg_E → Prop} {n0 pc len a b kc ks : Nat} {loc : eg_Lo} {st : List Value} {h : List eg_E}  (hC : eg_C d p s m args meth c D tc u base) (hn0 : s.heap.size + (eg_rm d).cells = base + n0) (hZ : ∀ t, MQ below (eg_Qc D tc u base n0 Q) args s (eg_rm d).cells (eg_rm d).slots (fun q => base ≤ q) t → Z t) (hK : ∀ pc kc ks loc st h, K pc kc ks loc st h → eg_At d Z p l e s m args below meth c D tc u base pc kc ks loc st h) (hN : ∀ kc ks loc st h, N kc ks loc st h → eg_At d Z p l e s m args below meth c D tc u base (pc + len) kc ks loc st h) (ok : eg_okI d pc len .nop a b = true) (hw : eg_stepI (eg_rm d) K Q N pc .nop a b kc ks loc st h) : eg_At d Z p l e s m args below meth c D tc u base pc kc ks loc st h := by
  obtain ⟨hx, hb, hr, hml, hown, hts, hlocks, hname, hK0, hX, hNst, hbs, hmk⟩ := id hC
  simp only [eg_okI, eg_dec, Bool.and_eq_true, Bool.or_eq_true, beq_iff_eq, decide_eq_true_eq] at ok
  subst ok
  exact hK _ _ _ _ _ _ hw
set_option maxHeartbeats 1000000 in
theorem eg_s_iconst {K : Nat → Nat → Nat → eg_Lo → List Value → List eg_E → Prop} {Q : Option Value → List eg_E → Prop} {N : Nat → Nat → eg_Lo → List Value → List eg_E → Prop} {n0 pc len a b kc ks : Nat} {loc : eg_Lo} {st : List Value} {h : List eg_E} {z : Int} (hC : eg_C d p s m args meth c D tc u base) (hn0 : s.heap.size + (eg_rm d).cells = base + n0) (hZ : ∀ t, MQ below (eg_Qc D tc u base n0 Q) args s (eg_rm d).cells (eg_rm d).slots (fun q => base ≤ q) t → Z t) (hK : ∀ pc kc ks loc st h, K pc kc ks loc st h → eg_At d Z p l e s m args below meth c D tc u base pc kc ks loc st h) (hN : ∀ kc ks loc st h, N kc ks loc st h → eg_At d Z p l e s m args below meth c D tc u base (pc + len) kc ks loc st h) (ok : eg_okI d pc len (.iconst z) a b = true) (hw : eg_stepI (eg_rm d) K Q N pc (.iconst z) a b kc ks loc st h) : eg_At d Z p l e s m args below meth c D tc u base pc kc ks loc st h := by
  obtain ⟨hx, hb, hr, hml, hown, hts, hlocks, hname, hK0, hX, hNst, hbs, hmk⟩ := id hC
  simp only [eg_okI, eg_dec, Bool.and_eq_true, Bool.or_eq_true, beq_iff_eq, decide_eq_true_eq] at ok
  simp only [eg_stepI] at hw
  intro H locs ls hP hn hS hL hkc hks
  rcases ok with ((⟨rfl, hd⟩ | ⟨⟨rfl, hd⟩, hv⟩) | ⟨⟨rfl, hd⟩, hv⟩) | ⟨⟨rfl, hd⟩, hv⟩
  · exact lv_iconst hx hb hd rfl (hN _ _ _ _ _ hw H locs ls hP hn hS hL hkc hks)
  · exact lv_bipush hx hb hd hv (hN _ _ _ _ _ hw H locs ls hP hn hS hL hkc hks)
  · exact lv_sipush hx hb hd hv (hN _ _ _ _ _ hw H locs ls hP hn hS hL hkc hks)
  · exact lv_ldc hx hb hown (hts _ (eg_KL_w _ (List.mem_map.mpr ⟨_, hv, rfl⟩))) hd (hN _ _ _ _ _ hw H locs ls hP hn hS hL hkc hks)
set_option maxHeartbeats 1000000 in
theorem eg_s_sipush {K : Nat → Nat → Nat → eg_Lo → List Value → List eg_E → Prop} {Q : Option Value → List eg_E → Prop} {N : Nat → Nat → eg_Lo → List Value → List eg_E → Prop} {n0 pc len a b kc ks : Nat} {loc : eg_Lo} {st : List Value} {h : List eg_E} {z : Int} (hC : eg_C d p s m args meth c D tc u base) (hn0 : s.heap.size + (eg_rm d).cells = base + n0) (hZ : ∀ t, MQ below (eg_Qc D tc u base n0 Q) args s (eg_rm d).cells (eg_rm d).slots (fun q => base ≤ q) t → Z t) (hK : ∀ pc kc ks loc st h, K pc kc ks loc st h → eg_At d Z p l e s m args below meth c D tc u base pc kc ks loc st h) (hN : ∀ kc ks loc st h, N kc ks loc st h → eg_At d Z p l e s m args below meth c D tc u base (pc + len) kc ks loc st h) (ok : eg_okI d pc len (.sipush z) a b = true) (hw : eg_stepI (eg_rm d) K Q N pc (.sipush z) a b kc ks loc st h) : eg_At d Z p l e s m args below meth c D tc u base pc kc ks loc st h := by
  obtain ⟨hx, hb, hr, hml, hown, hts, hlocks, hname, hK0, hX, hNst, hbs, hmk⟩ := id hC
  simp only [eg_okI, eg_dec, Bool.and_eq_true, Bool.or_eq_true, beq_iff_eq, decide_eq_true_eq] at ok
  simp only [eg_stepI] at hw
  intro H locs ls hP hn hS hL hkc hks
  rcases ok with (⟨⟨rfl, hd⟩, hv⟩ | ⟨⟨rfl, hd⟩, hv⟩) | ⟨⟨rfl, hd⟩, hv⟩
  · exact lv_lconst hx hb hd (by rw [hv]; rfl) (hN _ _ _ _ _ hw H locs ls hP hn hS hL hkc hks)
  · exact lv_lconst hx hb hd (by rw [hv]; rfl) (hN _ _ _ _ _ hw H locs ls hP hn hS hL hkc hks)
  · exact lv_ldc2 hx hb hown (hts _ (eg_LL_w _ (List.mem_map.mpr ⟨_, hv, rfl⟩))) hd (hN _ _ _ _ _ hw H locs ls hP hn hS hL hkc hks)
set_option maxHeartbeats 1000000 in
theorem eg_s_dconst {K : Nat → Nat → Nat → eg_Lo → List Value → List eg_E → Prop} {Q : Option Value → List eg_E → Prop} {N : Nat → Nat → eg_Lo → List Value → List eg_E → Prop} {n0 pc len a b kc ks : Nat} {loc : eg_Lo} {st : List Value} {h : List eg_E} {z : Fin 2} (hC : eg_C d p s m args meth c D tc u base) (hn0 : s.heap.size + (eg_rm d).cells = base + n0) (hZ : ∀ t, MQ below (eg_Qc D tc u base n0 Q) args s (eg_rm d).cells (eg_rm d).slots (fun q => base ≤ q) t → Z t) (hK : ∀ pc kc ks loc st h, K pc kc ks loc st h → eg_At d Z p l e s m args below meth c D tc u base pc kc ks loc st h) (hN : ∀ kc ks loc st h, N kc ks loc st h → eg_At d Z p l e s m args below meth c D tc u base (pc + len) kc ks loc st h) (ok : eg_okI d pc len (.dconst z) a b = true) (hw : eg_stepI (eg_rm d) K Q N pc (.dconst z) a b kc ks loc st h) : eg_At d Z p l e s m args below meth c D tc u base pc kc ks loc st h := by
  obtain ⟨hx, hb, hr, hml, hown, hts, hlocks, hname, hK0, hX, hNst, hbs, hmk⟩ := id hC
  simp only [eg_okI, eg_dec, Bool.and_eq_true, Bool.or_eq_true, beq_iff_eq, decide_eq_true_eq] at ok
  obtain ⟨rfl, hd⟩ := ok
  simp only [eg_stepI] at hw
  intro H locs ls hP hn hS hL hkc hks
  exact lv_dconst0 hx hb hd (hN _ _ _ _ _ hw H locs ls hP hn hS hL hkc hks)
set_option maxHeartbeats 1000000 in
theorem eg_s_ldc2_w {K : Nat → Nat → Nat → eg_Lo → List Value → List eg_E → Prop} {Q : Option Value → List eg_E → Prop} {N : Nat → Nat → eg_Lo → List Value → List eg_E → Prop} {n0 pc len a b kc ks : Nat} {loc : eg_Lo} {st : List Value} {h : List eg_E} {z : Nat} (hC : eg_C d p s m args meth c D tc u base) (hn0 : s.heap.size + (eg_rm d).cells = base + n0) (hZ : ∀ t, MQ below (eg_Qc D tc u base n0 Q) args s (eg_rm d).cells (eg_rm d).slots (fun q => base ≤ q) t → Z t) (hK : ∀ pc kc ks loc st h, K pc kc ks loc st h → eg_At d Z p l e s m args below meth c D tc u base pc kc ks loc st h) (hN : ∀ kc ks loc st h, N kc ks loc st h → eg_At d Z p l e s m args below meth c D tc u base (pc + len) kc ks loc st h) (ok : eg_okI d pc len (.ldc2_w z) a b = true) (hw : eg_stepI (eg_rm d) K Q N pc (.ldc2_w z) a b kc ks loc st h) : eg_At d Z p l e s m args below meth c D tc u base pc kc ks loc st h := by
  obtain ⟨hx, hb, hr, hml, hown, hts, hlocks, hname, hK0, hX, hNst, hbs, hmk⟩ := id hC
  simp only [eg_okI, eg_dec, Bool.and_eq_true, Bool.or_eq_true, beq_iff_eq, decide_eq_true_eq] at ok
  obtain ⟨⟨rfl, hd⟩, hv⟩ := ok
  simp only [eg_stepI] at hw
  intro H locs ls hP hn hS hL hkc hks
  exact lv_ldc2d hx hb hown (hts _ (eg_DL_w _ (List.mem_map.mpr ⟨_, hv, rfl⟩))) hd (hN _ _ _ _ _ hw H locs ls hP hn hS hL hkc hks)
set_option maxHeartbeats 1000000 in
theorem eg_s_iload {K : Nat → Nat → Nat → eg_Lo → List Value → List eg_E → Prop} {Q : Option Value → List eg_E → Prop} {N : Nat → Nat → eg_Lo → List Value → List eg_E → Prop} {n0 pc len a b kc ks : Nat} {loc : eg_Lo} {st : List Value} {h : List eg_E} {i : Nat} (hC : eg_C d p s m args meth c D tc u base) (hn0 : s.heap.size + (eg_rm d).cells = base + n0) (hZ : ∀ t, MQ below (eg_Qc D tc u base n0 Q) args s (eg_rm d).cells (eg_rm d).slots (fun q => base ≤ q) t → Z t) (hK : ∀ pc kc ks loc st h, K pc kc ks loc st h → eg_At d Z p l e s m args below meth c D tc u base pc kc ks loc st h) (hN : ∀ kc ks loc st h, N kc ks loc st h → eg_At d Z p l e s m args below meth c D tc u base (pc + len) kc ks loc st h) (ok : eg_okI d pc len (.iload i) a b = true) (hw : eg_stepI (eg_rm d) K Q N pc (.iload i) a b kc ks loc st h) : eg_At d Z p l e s m args below meth c D tc u base pc kc ks loc st h := by
  obtain ⟨hx, hb, hr, hml, hown, hts, hlocks, hname, hK0, hX, hNst, hbs, hmk⟩ := id hC
  simp only [eg_okI, eg_dec, Bool.and_eq_true, Bool.or_eq_true, beq_iff_eq, decide_eq_true_eq] at ok
  simp only [eg_stepI] at hw
  split at hw
  · rename_i x hv
    intro H locs ls hP hn hS hL hkc hks
    have hl := hL.2.2 _ _ hv
    rcases ok with ⟨rfl, hd⟩ | ⟨⟨rfl, hi⟩, hd⟩
    · exact lv_iload hx hb hd hl (hN _ _ _ _ _ hw H locs ls hP hn hS hL hkc hks)
    · exact lv_iload_n hx hb hd (Nat.mod_eq_of_lt hi) hl (hN _ _ _ _ _ hw H locs ls hP hn hS hL hkc hks)
  · exact hw.elim
set_option maxHeartbeats 1000000 in
theorem eg_s_lload {K : Nat → Nat → Nat → eg_Lo → List Value → List eg_E → Prop} {Q : Option Value → List eg_E → Prop} {N : Nat → Nat → eg_Lo → List Value → List eg_E → Prop} {n0 pc len a b kc ks : Nat} {loc : eg_Lo} {st : List Value} {h : List eg_E} {i : Nat} (hC : eg_C d p s m args meth c D tc u base) (hn0 : s.heap.size + (eg_rm d).cells = base + n0) (hZ : ∀ t, MQ below (eg_Qc D tc u base n0 Q) args s (eg_rm d).cells (eg_rm d).slots (fun q => base ≤ q) t → Z t) (hK : ∀ pc kc ks loc st h, K pc kc ks loc st h → eg_At d Z p l e s m args below meth c D tc u base pc kc ks loc st h) (hN : ∀ kc ks loc st h, N kc ks loc st h → eg_At d Z p l e s m args below meth c D tc u base (pc + len) kc ks loc st h) (ok : eg_okI d pc len (.lload i) a b = true) (hw : eg_stepI (eg_rm d) K Q N pc (.lload i) a b kc ks loc st h) : eg_At d Z p l e s m args below meth c D tc u base pc kc ks loc st h := by
  obtain ⟨hx, hb, hr, hml, hown, hts, hlocks, hname, hK0, hX, hNst, hbs, hmk⟩ := id hC
  simp only [eg_okI, eg_dec, Bool.and_eq_true, Bool.or_eq_true, beq_iff_eq, decide_eq_true_eq] at ok
  simp only [eg_stepI] at hw
  split at hw
  · rename_i x hv
    intro H locs ls hP hn hS hL hkc hks
    have hl := hL.2.2 _ _ hv
    rcases ok with ⟨rfl, hd⟩ | ⟨⟨rfl, hi⟩, hd⟩
    · exact lv_lload hx hb hd hl (hN _ _ _ _ _ hw H locs ls hP hn hS hL hkc hks)
    · exact lv_lload_n hx hb hd (Nat.mod_eq_of_lt hi) hl (hN _ _ _ _ _ hw H locs ls hP hn hS hL hkc hks)
  · exact hw.elim
set_option maxHeartbeats 1000000 in
theorem eg_s_dload {K : Nat → Nat → Nat → eg_Lo → List Value → List eg_E → Prop} {Q : Option Value → List eg_E → Prop} {N : Nat → Nat → eg_Lo → List Value → List eg_E → Prop} {n0 pc len a b kc ks : Nat} {loc : eg_Lo} {st : List Value} {h : List eg_E} {i : Nat} (hC : eg_C d p s m args meth c D tc u base) (hn0 : s.heap.size + (eg_rm d).cells = base + n0) (hZ : ∀ t, MQ below (eg_Qc D tc u base n0 Q) args s (eg_rm d).cells (eg_rm d).slots (fun q => base ≤ q) t → Z t) (hK : ∀ pc kc ks loc st h, K pc kc ks loc st h → eg_At d Z p l e s m args below meth c D tc u base pc kc ks loc st h) (hN : ∀ kc ks loc st h, N kc ks loc st h → eg_At d Z p l e s m args below meth c D tc u base (pc + len) kc ks loc st h) (ok : eg_okI d pc len (.dload i) a b = true) (hw : eg_stepI (eg_rm d) K Q N pc (.dload i) a b kc ks loc st h) : eg_At d Z p l e s m args below meth c D tc u base pc kc ks loc st h := by
  obtain ⟨hx, hb, hr, hml, hown, hts, hlocks, hname, hK0, hX, hNst, hbs, hmk⟩ := id hC
  simp only [eg_okI, eg_dec, Bool.and_eq_true, Bool.or_eq_true, beq_iff_eq, decide_eq_true_eq] at ok
  simp only [eg_stepI] at hw
  split at hw
  · rename_i x hv
    intro H locs ls hP hn hS hL hkc hks
    have hl := hL.2.2 _ _ hv
    rcases ok with ⟨rfl, hd⟩ | ⟨⟨rfl, hi⟩, hd⟩
    · exact lv_dload hx hb hd hl (hN _ _ _ _ _ hw H locs ls hP hn hS hL hkc hks)
    · exact lv_dload_n hx hb hd (Nat.mod_eq_of_lt hi) hl (hN _ _ _ _ _ hw H locs ls hP hn hS hL hkc hks)
  · exact hw.elim
set_option maxHeartbeats 1000000 in
theorem eg_s_aload {K : Nat → Nat → Nat → eg_Lo → List Value → List eg_E → Prop} {Q : Option Value → List eg_E → Prop} {N : Nat → Nat → eg_Lo → List Value → List eg_E → Prop} {n0 pc len a b kc ks : Nat} {loc : eg_Lo} {st : List Value} {h : List eg_E} {i : Nat} (hC : eg_C d p s m args meth c D tc u base) (hn0 : s.heap.size + (eg_rm d).cells = base + n0) (hZ : ∀ t, MQ below (eg_Qc D tc u base n0 Q) args s (eg_rm d).cells (eg_rm d).slots (fun q => base ≤ q) t → Z t) (hK : ∀ pc kc ks loc st h, K pc kc ks loc st h → eg_At d Z p l e s m args below meth c D tc u base pc kc ks loc st h) (hN : ∀ kc ks loc st h, N kc ks loc st h → eg_At d Z p l e s m args below meth c D tc u base (pc + len) kc ks loc st h) (ok : eg_okI d pc len (.aload i) a b = true) (hw : eg_stepI (eg_rm d) K Q N pc (.aload i) a b kc ks loc st h) : eg_At d Z p l e s m args below meth c D tc u base pc kc ks loc st h := by
  obtain ⟨hx, hb, hr, hml, hown, hts, hlocks, hname, hK0, hX, hNst, hbs, hmk⟩ := id hC
  simp only [eg_okI, eg_dec, Bool.and_eq_true, Bool.or_eq_true, beq_iff_eq, decide_eq_true_eq] at ok
  simp only [eg_stepI] at hw
  split at hw
  · rename_i x hv
    intro H locs ls hP hn hS hL hkc hks
    have hl := hL.2.2 _ _ hv
    rcases ok with ⟨rfl, hd⟩ | ⟨⟨rfl, hi⟩, hd⟩
    · exact lv_aload hx hb hd hl (hN _ _ _ _ _ hw H locs ls hP hn hS hL hkc hks)
    · exact lv_aload_n hx hb hd (Nat.mod_eq_of_lt hi) hl (hN _ _ _ _ _ hw H locs ls hP hn hS hL hkc hks)
  · exact hw.elim
set_option maxHeartbeats 1000000 in
theorem eg_s_istore {K : Nat → Nat → Nat → eg_Lo → List Value → List eg_E → Prop} {Q : Option Value → List eg_E → Prop} {N : Nat → Nat → eg_Lo → List Value → List eg_E → Prop} {n0 pc len a b kc ks : Nat} {loc : eg_Lo} {st : List Value} {h : List eg_E} {i : Nat} (hC : eg_C d p s m args meth c D tc u base) (hn0 : s.heap.size + (eg_rm d).cells = base + n0) (hZ : ∀ t, MQ below (eg_Qc D tc u base n0 Q) args s (eg_rm d).cells (eg_rm d).slots (fun q => base ≤ q) t → Z t) (hK : ∀ pc kc ks loc st h, K pc kc ks loc st h → eg_At d Z p l e s m args below meth c D tc u base pc kc ks loc st h) (hN : ∀ kc ks loc st h, N kc ks loc st h → eg_At d Z p l e s m args below meth c D tc u base (pc + len) kc ks loc st h) (ok : eg_okI d pc len (.istore i) a b = true) (hw : eg_stepI (eg_rm d) K Q N pc (.istore i) a b kc ks loc st h) : eg_At d Z p l e s m args below meth c D tc u base pc kc ks loc st h := by
  obtain ⟨hx, hb, hr, hml, hown, hts, hlocks, hname, hK0, hX, hNst, hbs, hmk⟩ := id hC
  simp only [eg_okI, eg_dec, Bool.and_eq_true, Bool.or_eq_true, beq_iff_eq, decide_eq_true_eq] at ok
  simp only [eg_stepI] at hw
  split at hw
  · rename_i x s9
    intro H locs ls hP hn hS hL hkc hks
    obtain ⟨hi0, ok⟩ := ok
    rcases ok with ⟨rfl, hd⟩ | ⟨⟨rfl, hi⟩, hd⟩
    · exact lv_istore hx hb hd (eg_L_has hL) hi0 rfl (fun ls' hL' => hN _ _ _ _ _ hw H locs ls' hP hn hS (eg_L_set1 (v := .int x) hL') hkc hks)
    · exact lv_istore_n hx hb hd (Nat.mod_eq_of_lt hi) (eg_L_has hL) hi0 rfl (fun ls' hL' => hN _ _ _ _ _ hw H locs ls' hP hn hS (eg_L_set1 (v := .int x) hL') hkc hks)
  · exact hw.elim
set_option maxHeartbeats 1000000 in
theorem eg_s_lstore {K : Nat → Nat → Nat → eg_Lo → List Value → List eg_E → Prop} {Q : Option Value → List eg_E → Prop} {N : Nat → Nat → eg_Lo → List Value → List eg_E → Prop} {n0 pc len a b kc ks : Nat} {loc : eg_Lo} {st : List Value} {h : List eg_E} {i : Nat} (hC : eg_C d p s m args meth c D tc u base) (hn0 : s.heap.size + (eg_rm d).cells = base + n0) (hZ : ∀ t, MQ below (eg_Qc D tc u base n0 Q) args s (eg_rm d).cells (eg_rm d).slots (fun q => base ≤ q) t → Z t) (hK : ∀ pc kc ks loc st h, K pc kc ks loc st h → eg_At d Z p l e s m args below meth c D tc u base pc kc ks loc st h) (hN : ∀ kc ks loc st h, N kc ks loc st h → eg_At d Z p l e s m args below meth c D tc u base (pc + len) kc ks loc st h) (ok : eg_okI d pc len (.lstore i) a b = true) (hw : eg_stepI (eg_rm d) K Q N pc (.lstore i) a b kc ks loc st h) : eg_At d Z p l e s m args below meth c D tc u base pc kc ks loc st h := by
  obtain ⟨hx, hb, hr, hml, hown, hts, hlocks, hname, hK0, hX, hNst, hbs, hmk⟩ := id hC
  simp only [eg_okI, eg_dec, Bool.and_eq_true, Bool.or_eq_true, beq_iff_eq, decide_eq_true_eq] at ok
  simp only [eg_stepI] at hw
  split at hw
  · rename_i x s9
    intro H locs ls hP hn hS hL hkc hks
    obtain ⟨hi0, ok⟩ := ok
    rcases ok with ⟨rfl, hd⟩ | ⟨⟨rfl, hi⟩, hd⟩
    · exact lv_lstore hx hb hd (eg_L_has hL) hi0 rfl (fun ls' hL' => hN _ _ _ _ _ hw H locs ls' hP hn hS (eg_L_set2 (v := .long x) hL') hkc hks)
    · exact lv_lstore_n hx hb hd (Nat.mod_eq_of_lt hi) (eg_L_has hL) hi0 rfl (fun ls' hL' => hN _ _ _ _ _ hw H locs ls' hP hn hS (eg_L_set2 (v := .long x) hL') hkc hks)
  · exact hw.elim
set_option maxHeartbeats 1000000 in
theorem eg_s_dstore {K : Nat → Nat → Nat → eg_Lo → List Value → List eg_E → Prop} {Q : Option Value → List eg_E → Prop} {N : Nat → Nat → eg_Lo → List Value → List eg_E → Prop} {n0 pc len a b kc ks : Nat} {loc : eg_Lo} {st : List Value} {h : List eg_E} {i : Nat} (hC : eg_C d p s m args meth c D tc u base) (hn0 : s.heap.size + (eg_rm d).cells = base + n0) (hZ : ∀ t, MQ below (eg_Qc D tc u base n0 Q) args s (eg_rm d).cells (eg_rm d).slots (fun q => base ≤ q) t → Z t) (hK : ∀ pc kc ks loc st h, K pc kc ks loc st h → eg_At d Z p l e s m args below meth c D tc u base pc kc ks loc st h) (hN : ∀ kc ks loc st h, N kc ks loc st h → eg_At d Z p l e s m args below meth c D tc u base (pc + len) kc ks loc st h) (ok : eg_okI d pc len (.dstore i) a b = true) (hw : eg_stepI (eg_rm d) K Q N pc (.dstore i) a b kc ks loc st h) : eg_At d Z p l e s m args below meth c D tc u base pc kc ks loc st h := by
  obtain ⟨hx, hb, hr, hml, hown, hts, hlocks, hname, hK0, hX, hNst, hbs, hmk⟩ := id hC
  simp only [eg_okI, eg_dec, Bool.and_eq_true, Bool.or_eq_true, beq_iff_eq, decide_eq_true_eq] at ok
  simp only [eg_stepI] at hw
  split at hw
  · rename_i x s9
    intro H locs ls hP hn hS hL hkc hks
    obtain ⟨hi0, ok⟩ := ok
    rcases ok with ⟨rfl, hd⟩ | ⟨⟨rfl, hi⟩, hd⟩
    · exact lv_dstore hx hb hd (eg_L_has hL) hi0 rfl (fun ls' hL' => hN _ _ _ _ _ hw H locs ls' hP hn hS (eg_L_set2 (v := .double x) hL') hkc hks)
    · exact lv_dstore_n hx hb hd (Nat.mod_eq_of_lt hi) (eg_L_has hL) hi0 rfl (fun ls' hL' => hN _ _ _ _ _ hw H locs ls' hP hn hS (eg_L_set2 (v := .double x) hL') hkc hks)
  · exact hw.elim
set_option maxHeartbeats 1000000 in
theorem eg_s_astore {K : Nat → Nat → Nat → eg_Lo → List Value → List eg_E → Prop} {Q : Option Value → List eg_E → Prop} {N : Nat → Nat → eg_Lo → List Value → List eg_E → Prop} {n0 pc len a b kc ks : Nat} {loc : eg_Lo} {st : List Value} {h : List eg_E} {i : Nat} (hC : eg_C d p s m args meth c D tc u base) (hn0 : s.heap.size + (eg_rm d).cells = base + n0) (hZ : ∀ t, MQ below (eg_Qc D tc u base n0 Q) args s (eg_rm d).cells (eg_rm d).slots (fun q => base ≤ q) t → Z t) (hK : ∀ pc kc ks loc st h, K pc kc ks loc st h → eg_At d Z p l e s m args below meth c D tc u base pc kc ks loc st h) (hN : ∀ kc ks loc st h, N kc ks loc st h → eg_At d Z p l e s m args below meth c D tc u base (pc + len) kc ks loc st h) (ok : eg_okI d pc len (.astore i) a b = true) (hw : eg_stepI (eg_rm d) K Q N pc (.astore i) a b kc ks loc st h) : eg_At d Z p l e s m args below meth c D tc u base pc kc ks loc st h := by
  obtain ⟨hx, hb, hr, hml, hown, hts, hlocks, hname, hK0, hX, hNst, hbs, hmk⟩ := id hC
  simp only [eg_okI, eg_dec, Bool.and_eq_true, Bool.or_eq_true, beq_iff_eq, decide_eq_true_eq] at ok
  simp only [eg_stepI] at hw
  split at hw
  · rename_i x s9
    intro H locs ls hP hn hS hL hkc hks
    obtain ⟨hi0, ok⟩ := ok
    rcases ok with ⟨rfl, hd⟩ | ⟨⟨rfl, hi⟩, hd⟩
    · exact lv_astore hx hb hd (eg_L_has hL) hi0 rfl (fun ls' hL' => hN _ _ _ _ _ hw H locs ls' hP hn hS (eg_L_set1 (v := .ref x) hL') hkc hks)
    · exact lv_astore_n hx hb hd (Nat.mod_eq_of_lt hi) (eg_L_has hL) hi0 rfl (fun ls' hL' => hN _ _ _ _ _ hw H locs ls' hP hn hS (eg_L_set1 (v := .ref x) hL') hkc hks)
  · exact hw.elim
set_option maxHeartbeats 1000000 in
theorem eg_s_iinc {K : Nat → Nat → Nat → eg_Lo → List Value → List eg_E → Prop} {Q : Option Value → List eg_E → Prop} {N : Nat → Nat → eg_Lo → List Value → List eg_E → Prop} {n0 pc len a b kc ks : Nat} {loc : eg_Lo} {st : List Value} {h : List eg_E} {i : Nat} {z : Int} (hC : eg_C d p s m args meth c D tc u base) (hn0 : s.heap.size + (eg_rm d).cells = base + n0) (hZ : ∀ t, MQ below (eg_Qc D tc u base n0 Q) args s (eg_rm d).cells (eg_rm d).slots (fun q => base ≤ q) t → Z t) (hK : ∀ pc kc ks loc st h, K pc kc ks loc st h → eg_At d Z p l e s m args below meth c D tc u base pc kc ks loc st h) (hN : ∀ kc ks loc st h, N kc ks loc st h → eg_At d Z p l e s m args below meth c D tc u base (pc + len) kc ks loc st h) (ok : eg_okI d pc len (.iinc i z) a b = true) (hw : eg_stepI (eg_rm d) K Q N pc (.iinc i z) a b kc ks loc st h) : eg_At d Z p l e s m args below meth c D tc u base pc kc ks loc st h := by
  obtain ⟨hx, hb, hr, hml, hown, hts, hlocks, hname, hK0, hX, hNst, hbs, hmk⟩ := id hC
  simp only [eg_okI, eg_dec, Bool.and_eq_true, Bool.or_eq_true, beq_iff_eq, decide_eq_true_eq] at ok
  obtain ⟨⟨rfl, hd⟩, hi0⟩ := ok
  simp only [eg_stepI] at hw
  split at hw
  · rename_i x hv
    intro H locs ls hP hn hS hL hkc hks
    obtain ⟨k, hk⟩ := List.getElem?_of_mem (eg_ll_mem (f := eg_ad u base) (q := (i, .int x)).mpr ⟨_, hv, rfl⟩)
    exact lv_iinc hx hb hd (eg_L_has hL) hk rfl hi0 rfl (fun ls' hL' => hN _ _ _ _ _ hw H locs ls' hP hn hS (eg_L_set1 (v := .int (x + Int32.ofInt z)) hL') hkc hks)
  · exact hw.elim
set_option maxHeartbeats 1000000 in
theorem eg_s_iadd {K : Nat → Nat → Nat → eg_Lo → List Value → List eg_E → Prop} {Q : Option Value → List eg_E → Prop} {N : Nat → Nat → eg_Lo → List Value → List eg_E → Prop} {n0 pc len a b kc ks : Nat} {loc : eg_Lo} {st : List Value} {h : List eg_E}  (hC : eg_C d p s m args meth c D tc u base) (hn0 : s.heap.size + (eg_rm d).cells = base + n0) (hZ : ∀ t, MQ below (eg_Qc D tc u base n0 Q) args s (eg_rm d).cells (eg_rm d).slots (fun q => base ≤ q) t → Z t) (hK : ∀ pc kc ks loc st h, K pc kc ks loc st h → eg_At d Z p l e s m args below meth c D tc u base pc kc ks loc st h) (hN : ∀ kc ks loc st h, N kc ks loc st h → eg_At d Z p l e s m args below meth c D tc u base (pc + len) kc ks loc st h) (ok : eg_okI d pc len .iadd a b = true) (hw : eg_stepI (eg_rm d) K Q N pc .iadd a b kc ks loc st h) : eg_At d Z p l e s m args below meth c D tc u base pc kc ks loc st h := by
  obtain ⟨hx, hb, hr, hml, hown, hts, hlocks, hname, hK0, hX, hNst, hbs, hmk⟩ := id hC
  simp only [eg_okI, eg_dec, Bool.and_eq_true, Bool.or_eq_true, beq_iff_eq, decide_eq_true_eq] at ok
  obtain ⟨rfl, hd⟩ := ok
  simp only [eg_stepI] at hw
  split at hw
  · rename_i y x s9
    intro H locs ls hP hn hS hL hkc hks
    exact lv_iadd hx hb hd (hN _ _ _ _ _ hw H locs ls hP hn hS hL hkc hks)
  · exact hw.elim
set_option maxHeartbeats 1000000 in
theorem eg_s_isub {K : Nat → Nat → Nat → eg_Lo → List Value → List eg_E → Prop} {Q : Option Value → List eg_E → Prop} {N : Nat → Nat → eg_Lo → List Value → List eg_E → Prop} {n0 pc len a b kc ks : Nat} {loc : eg_Lo} {st : List Value} {h : List eg_E}  (hC : eg_C d p s m args meth c D tc u base) (hn0 : s.heap.size + (eg_rm d).cells = base + n0) (hZ : ∀ t, MQ below (eg_Qc D tc u base n0 Q) args s (eg_rm d).cells (eg_rm d).slots (fun q => base ≤ q) t → Z t) (hK : ∀ pc kc ks loc st h, K pc kc ks loc st h → eg_At d Z p l e s m args below meth c D tc u base pc kc ks loc st h) (hN : ∀ kc ks loc st h, N kc ks loc st h → eg_At d Z p l e s m args below meth c D tc u base (pc + len) kc ks loc st h) (ok : eg_okI d pc len .isub a b = true) (hw : eg_stepI (eg_rm d) K Q N pc .isub a b kc ks loc st h) : eg_At d Z p l e s m args below meth c D tc u base pc kc ks loc st h := by
  obtain ⟨hx, hb, hr, hml, hown, hts, hlocks, hname, hK0, hX, hNst, hbs, hmk⟩ := id hC
  simp only [eg_okI, eg_dec, Bool.and_eq_true, Bool.or_eq_true, beq_iff_eq, decide_eq_true_eq] at ok
  obtain ⟨rfl, hd⟩ := ok
  simp only [eg_stepI] at hw
  split at hw
  · rename_i y x s9
    intro H locs ls hP hn hS hL hkc hks
    exact lv_isub hx hb hd (hN _ _ _ _ _ hw H locs ls hP hn hS hL hkc hks)
  · exact hw.elim
set_option maxHeartbeats 1000000 in
theorem eg_s_imul {K : Nat → Nat → Nat → eg_Lo → List Value → List eg_E → Prop} {Q : Option Value → List eg_E → Prop} {N : Nat → Nat → eg_Lo → List Value → List eg_E → Prop} {n0 pc len a b kc ks : Nat} {loc : eg_Lo} {st : List Value} {h : List eg_E}  (hC : eg_C d p s m args meth c D tc u base) (hn0 : s.heap.size + (eg_rm d).cells = base + n0) (hZ : ∀ t, MQ below (eg_Qc D tc u base n0 Q) args s (eg_rm d).cells (eg_rm d).slots (fun q => base ≤ q) t → Z t) (hK : ∀ pc kc ks loc st h, K pc kc ks loc st h → eg_At d Z p l e s m args below meth c D tc u base pc kc ks loc st h) (hN : ∀ kc ks loc st h, N kc ks loc st h → eg_At d Z p l e s m args below meth c D tc u base (pc + len) kc ks loc st h) (ok : eg_okI d pc len .imul a b = true) (hw : eg_stepI (eg_rm d) K Q N pc .imul a b kc ks loc st h) : eg_At d Z p l e s m args below meth c D tc u base pc kc ks loc st h := by
  obtain ⟨hx, hb, hr, hml, hown, hts, hlocks, hname, hK0, hX, hNst, hbs, hmk⟩ := id hC
  simp only [eg_okI, eg_dec, Bool.and_eq_true, Bool.or_eq_true, beq_iff_eq, decide_eq_true_eq] at ok
  obtain ⟨rfl, hd⟩ := ok
  simp only [eg_stepI] at hw
  split at hw
  · rename_i y x s9
    intro H locs ls hP hn hS hL hkc hks
    exact lv_imul hx hb hd (hN _ _ _ _ _ hw H locs ls hP hn hS hL hkc hks)
  · exact hw.elim
set_option maxHeartbeats 1000000 in
theorem eg_s_iand {K : Nat → Nat → Nat → eg_Lo → List Value → List eg_E → Prop} {Q : Option Value → List eg_E → Prop} {N : Nat → Nat → eg_Lo → List Value → List eg_E → Prop} {n0 pc len a b kc ks : Nat} {loc : eg_Lo} {st : List Value} {h : List eg_E}  (hC : eg_C d p s m args meth c D tc u base) (hn0 : s.heap.size + (eg_rm d).cells = base + n0) (hZ : ∀ t, MQ below (eg_Qc D tc u base n0 Q) args s (eg_rm d).cells (eg_rm d).slots (fun q => base ≤ q) t → Z t) (hK : ∀ pc kc ks loc st h, K pc kc ks loc st h → eg_At d Z p l e s m args below meth c D tc u base pc kc ks loc st h) (hN : ∀ kc ks loc st h, N kc ks loc st h → eg_At d Z p l e s m args below meth c D tc u base (pc + len) kc ks loc st h) (ok : eg_okI d pc len .iand a b = true) (hw : eg_stepI (eg_rm d) K Q N pc .iand a b kc ks loc st h) : eg_At d Z p l e s m args below meth c D tc u base pc kc ks loc st h := by
  obtain ⟨hx, hb, hr, hml, hown, hts, hlocks, hname, hK0, hX, hNst, hbs, hmk⟩ := id hC
  simp only [eg_okI, eg_dec, Bool.and_eq_true, Bool.or_eq_true, beq_iff_eq, decide_eq_true_eq] at ok
  obtain ⟨rfl, hd⟩ := ok
  simp only [eg_stepI] at hw
  split at hw
  · rename_i y x s9
    intro H locs ls hP hn hS hL hkc hks
    exact lv_iand hx hb hd (hN _ _ _ _ _ hw H locs ls hP hn hS hL hkc hks)
  · exact hw.elim
set_option maxHeartbeats 1000000 in
theorem eg_s_ior {K : Nat → Nat → Nat → eg_Lo → List Value → List eg_E → Prop} {Q : Option Value → List eg_E → Prop} {N : Nat → Nat → eg_Lo → List Value → List eg_E → Prop} {n0 pc len a b kc ks : Nat} {loc : eg_Lo} {st : List Value} {h : List eg_E}  (hC : eg_C d p s m args meth c D tc u base) (hn0 : s.heap.size + (eg_rm d).cells = base + n0) (hZ : ∀ t, MQ below (eg_Qc D tc u base n0 Q) args s (eg_rm d).cells (eg_rm d).slots (fun q => base ≤ q) t → Z t) (hK : ∀ pc kc ks loc st h, K pc kc ks loc st h → eg_At d Z p l e s m args below meth c D tc u base pc kc ks loc st h) (hN : ∀ kc ks loc st h, N kc ks loc st h → eg_At d Z p l e s m args below meth c D tc u base (pc + len) kc ks loc st h) (ok : eg_okI d pc len .ior a b = true) (hw : eg_stepI (eg_rm d) K Q N pc .ior a b kc ks loc st h) : eg_At d Z p l e s m args below meth c D tc u base pc kc ks loc st h := by
  obtain ⟨hx, hb, hr, hml, hown, hts, hlocks, hname, hK0, hX, hNst, hbs, hmk⟩ := id hC
  simp only [eg_okI, eg_dec, Bool.and_eq_true, Bool.or_eq_true, beq_iff_eq, decide_eq_true_eq] at ok
  obtain ⟨rfl, hd⟩ := ok
  simp only [eg_stepI] at hw
  split at hw
  · rename_i y x s9
    intro H locs ls hP hn hS hL hkc hks
    exact lv_ior hx hb hd (hN _ _ _ _ _ hw H locs ls hP hn hS hL hkc hks)
  · exact hw.elim
set_option maxHeartbeats 1000000 in
theorem eg_s_ixor {K : Nat → Nat → Nat → eg_Lo → List Value → List eg_E → Prop} {Q : Option Value → List eg_E → Prop} {N : Nat → Nat → eg_Lo → List Value → List eg_E → Prop} {n0 pc len a b kc ks : Nat} {loc : eg_Lo} {st : List Value} {h : List eg_E}  (hC : eg_C d p s m args meth c D tc u base) (hn0 : s.heap.size + (eg_rm d).cells = base + n0) (hZ : ∀ t, MQ below (eg_Qc D tc u base n0 Q) args s (eg_rm d).cells (eg_rm d).slots (fun q => base ≤ q) t → Z t) (hK : ∀ pc kc ks loc st h, K pc kc ks loc st h → eg_At d Z p l e s m args below meth c D tc u base pc kc ks loc st h) (hN : ∀ kc ks loc st h, N kc ks loc st h → eg_At d Z p l e s m args below meth c D tc u base (pc + len) kc ks loc st h) (ok : eg_okI d pc len .ixor a b = true) (hw : eg_stepI (eg_rm d) K Q N pc .ixor a b kc ks loc st h) : eg_At d Z p l e s m args below meth c D tc u base pc kc ks loc st h := by
  obtain ⟨hx, hb, hr, hml, hown, hts, hlocks, hname, hK0, hX, hNst, hbs, hmk⟩ := id hC
  simp only [eg_okI, eg_dec, Bool.and_eq_true, Bool.or_eq_true, beq_iff_eq, decide_eq_true_eq] at ok
  obtain ⟨rfl, hd⟩ := ok
  simp only [eg_stepI] at hw
  split at hw
  · rename_i y x s9
    intro H locs ls hP hn hS hL hkc hks
    exact lv_ixor hx hb hd (hN _ _ _ _ _ hw H locs ls hP hn hS hL hkc hks)
  · exact hw.elim
set_option maxHeartbeats 1000000 in
theorem eg_s_ladd {K : Nat → Nat → Nat → eg_Lo → List Value → List eg_E → Prop} {Q : Option Value → List eg_E → Prop} {N : Nat → Nat → eg_Lo → List Value → List eg_E → Prop} {n0 pc len a b kc ks : Nat} {loc : eg_Lo} {st : List Value} {h : List eg_E}  (hC : eg_C d p s m args meth c D tc u base) (hn0 : s.heap.size + (eg_rm d).cells = base + n0) (hZ : ∀ t, MQ below (eg_Qc D tc u base n0 Q) args s (eg_rm d).cells (eg_rm d).slots (fun q => base ≤ q) t → Z t) (hK : ∀ pc kc ks loc st h, K pc kc ks loc st h → eg_At d Z p l e s m args below meth c D tc u base pc kc ks loc st h) (hN : ∀ kc ks loc st h, N kc ks loc st h → eg_At d Z p l e s m args below meth c D tc u base (pc + len) kc ks loc st h) (ok : eg_okI d pc len .ladd a b = true) (hw : eg_stepI (eg_rm d) K Q N pc .ladd a b kc ks loc st h) : eg_At d Z p l e s m args below meth c D tc u base pc kc ks loc st h := by
  obtain ⟨hx, hb, hr, hml, hown, hts, hlocks, hname, hK0, hX, hNst, hbs, hmk⟩ := id hC
  simp only [eg_okI, eg_dec, Bool.and_eq_true, Bool.or_eq_true, beq_iff_eq, decide_eq_true_eq] at ok
  obtain ⟨rfl, hd⟩ := ok
  simp only [eg_stepI] at hw
  split at hw
  · rename_i y x s9
    intro H locs ls hP hn hS hL hkc hks
    exact lv_ladd hx hb hd (hN _ _ _ _ _ hw H locs ls hP hn hS hL hkc hks)
  · exact hw.elim
set_option maxHeartbeats 1000000 in
theorem eg_s_lsub {K : Nat → Nat → Nat → eg_Lo → List Value → List eg_E → Prop} {Q : Option Value → List eg_E → Prop} {N : Nat → Nat → eg_Lo → List Value → List eg_E → Prop} {n0 pc len a b kc ks : Nat} {loc : eg_Lo} {st : List Value} {h : List eg_E}  (hC : eg_C d p s m args meth c D tc u base) (hn0 : s.heap.size + (eg_rm d).cells = base + n0) (hZ : ∀ t, MQ below (eg_Qc D tc u base n0 Q) args s (eg_rm d).cells (eg_rm d).slots (fun q => base ≤ q) t → Z t) (hK : ∀ pc kc ks loc st h, K pc kc ks loc st h → eg_At d Z p l e s m args below meth c D tc u base pc kc ks loc st h) (hN : ∀ kc ks loc st h, N kc ks loc st h → eg_At d Z p l e s m args below meth c D tc u base (pc + len) kc ks loc st h) (ok : eg_okI d pc len .lsub a b = true) (hw : eg_stepI (eg_rm d) K Q N pc .lsub a b kc ks loc st h) : eg_At d Z p l e s m args below meth c D tc u base pc kc ks loc st h := by
  obtain ⟨hx, hb, hr, hml, hown, hts, hlocks, hname, hK0, hX, hNst, hbs, hmk⟩ := id hC
  simp only [eg_okI, eg_dec, Bool.and_eq_true, Bool.or_eq_true, beq_iff_eq, decide_eq_true_eq] at ok
  obtain ⟨rfl, hd⟩ := ok
  simp only [eg_stepI] at hw
  split at hw
  · rename_i y x s9
    intro H locs ls hP hn hS hL hkc hks
    exact lv_lsub hx hb hd (hN _ _ _ _ _ hw H locs ls hP hn hS hL hkc hks)
  · exact hw.elim
set_option maxHeartbeats 1000000 in
theorem eg_s_lmul {K : Nat → Nat → Nat → eg_Lo → List Value → List eg_E → Prop} {Q : Option Value → List eg_E → Prop} {N : Nat → Nat → eg_Lo → List Value → List eg_E → Prop} {n0 pc len a b kc ks : Nat} {loc : eg_Lo} {st : List Value} {h : List eg_E}  (hC : eg_C d p s m args meth c D tc u base) (hn0 : s.heap.size + (eg_rm d).cells = base + n0) (hZ : ∀ t, MQ below (eg_Qc D tc u base n0 Q) args s (eg_rm d).cells (eg_rm d).slots (fun q => base ≤ q) t → Z t) (hK : ∀ pc kc ks loc st h, K pc kc ks loc st h → eg_At d Z p l e s m args below meth c D tc u base pc kc ks loc st h) (hN : ∀ kc ks loc st h, N kc ks loc st h → eg_At d Z p l e s m args below meth c D tc u base (pc + len) kc ks loc st h) (ok : eg_okI d pc len .lmul a b = true) (hw : eg_stepI (eg_rm d) K Q N pc .lmul a b kc ks loc st h) : eg_At d Z p l e s m args below meth c D tc u base pc kc ks loc st h := by
  obtain ⟨hx, hb, hr, hml, hown, hts, hlocks, hname, hK0, hX, hNst, hbs, hmk⟩ := id hC
  simp only [eg_okI, eg_dec, Bool.and_eq_true, Bool.or_eq_true, beq_iff_eq, decide_eq_true_eq] at ok
  obtain ⟨rfl, hd⟩ := ok
  simp only [eg_stepI] at hw
  split at hw
  · rename_i y x s9
    intro H locs ls hP hn hS hL hkc hks
    exact lv_lmul hx hb hd (hN _ _ _ _ _ hw H locs ls hP hn hS hL hkc hks)
  · exact hw.elim
set_option maxHeartbeats 1000000 in
theorem eg_s_land {K : Nat → Nat → Nat → eg_Lo → List Value → List eg_E → Prop} {Q : Option Value → List eg_E → Prop} {N : Nat → Nat → eg_Lo → List Value → List eg_E → Prop} {n0 pc len a b kc ks : Nat} {loc : eg_Lo} {st : List Value} {h : List eg_E}  (hC : eg_C d p s m args meth c D tc u base) (hn0 : s.heap.size + (eg_rm d).cells = base + n0) (hZ : ∀ t, MQ below (eg_Qc D tc u base n0 Q) args s (eg_rm d).cells (eg_rm d).slots (fun q => base ≤ q) t → Z t) (hK : ∀ pc kc ks loc st h, K pc kc ks loc st h → eg_At d Z p l e s m args below meth c D tc u base pc kc ks loc st h) (hN : ∀ kc ks loc st h, N kc ks loc st h → eg_At d Z p l e s m args below meth c D tc u base (pc + len) kc ks loc st h) (ok : eg_okI d pc len .land a b = true) (hw : eg_stepI (eg_rm d) K Q N pc .land a b kc ks loc st h) : eg_At d Z p l e s m args below meth c D tc u base pc kc ks loc st h := by
  obtain ⟨hx, hb, hr, hml, hown, hts, hlocks, hname, hK0, hX, hNst, hbs, hmk⟩ := id hC
  simp only [eg_okI, eg_dec, Bool.and_eq_true, Bool.or_eq_true, beq_iff_eq, decide_eq_true_eq] at ok
  obtain ⟨rfl, hd⟩ := ok
  simp only [eg_stepI] at hw
  split at hw
  · rename_i y x s9
    intro H locs ls hP hn hS hL hkc hks
    exact lv_land hx hb hd (hN _ _ _ _ _ hw H locs ls hP hn hS hL hkc hks)
  · exact hw.elim
set_option maxHeartbeats 1000000 in
theorem eg_s_lor {K : Nat → Nat → Nat → eg_Lo → List Value → List eg_E → Prop} {Q : Option Value → List eg_E → Prop} {N : Nat → Nat → eg_Lo → List Value → List eg_E → Prop} {n0 pc len a b kc ks : Nat} {loc : eg_Lo} {st : List Value} {h : List eg_E}  (hC : eg_C d p s m args meth c D tc u base) (hn0 : s.heap.size + (eg_rm d).cells = base + n0) (hZ : ∀ t, MQ below (eg_Qc D tc u base n0 Q) args s (eg_rm d).cells (eg_rm d).slots (fun q => base ≤ q) t → Z t) (hK : ∀ pc kc ks loc st h, K pc kc ks loc st h → eg_At d Z p l e s m args below meth c D tc u base pc kc ks loc st h) (hN : ∀ kc ks loc st h, N kc ks loc st h → eg_At d Z p l e s m args below meth c D tc u base (pc + len) kc ks loc st h) (ok : eg_okI d pc len .lor a b = true) (hw : eg_stepI (eg_rm d) K Q N pc .lor a b kc ks loc st h) : eg_At d Z p l e s m args below meth c D tc u base pc kc ks loc st h := by
  obtain ⟨hx, hb, hr, hml, hown, hts, hlocks, hname, hK0, hX, hNst, hbs, hmk⟩ := id hC
  simp only [eg_okI, eg_dec, Bool.and_eq_true, Bool.or_eq_true, beq_iff_eq, decide_eq_true_eq] at ok
  obtain ⟨rfl, hd⟩ := ok
  simp only [eg_stepI] at hw
  split at hw
  · rename_i y x s9
    intro H locs ls hP hn hS hL hkc hks
    exact lv_lor hx hb hd (hN _ _ _ _ _ hw H locs ls hP hn hS hL hkc hks)
  · exact hw.elim
set_option maxHeartbeats 1000000 in
theorem eg_s_idiv {K : Nat → Nat → Nat → eg_Lo → List Value → List eg_E → Prop} {Q : Option Value → List eg_E → Prop} {N : Nat → Nat → eg_Lo → List Value → List eg_E → Prop} {n0 pc len a b kc ks : Nat} {loc : eg_Lo} {st : List Value} {h : List eg_E}  (hC : eg_C d p s m args meth c D tc u base) (hn0 : s.heap.size + (eg_rm d).cells = base + n0) (hZ : ∀ t, MQ below (eg_Qc D tc u base n0 Q) args s (eg_rm d).cells (eg_rm d).slots (fun q => base ≤ q) t → Z t) (hK : ∀ pc kc ks loc st h, K pc kc ks loc st h → eg_At d Z p l e s m args below meth c D tc u base pc kc ks loc st h) (hN : ∀ kc ks loc st h, N kc ks loc st h → eg_At d Z p l e s m args below meth c D tc u base (pc + len) kc ks loc st h) (ok : eg_okI d pc len .idiv a b = true) (hw : eg_stepI (eg_rm d) K Q N pc .idiv a b kc ks loc st h) : eg_At d Z p l e s m args below meth c D tc u base pc kc ks loc st h := by
  obtain ⟨hx, hb, hr, hml, hown, hts, hlocks, hname, hK0, hX, hNst, hbs, hmk⟩ := id hC
  simp only [eg_okI, eg_dec, Bool.and_eq_true, Bool.or_eq_true, beq_iff_eq, decide_eq_true_eq] at ok
  obtain ⟨rfl, hd⟩ := ok
  simp only [eg_stepI] at hw
  split at hw
  · rename_i y x s9
    intro H locs ls hP hn hS hL hkc hks
    exact lv_idiv hx hb hd hw.1 (hN _ _ _ _ _ hw.2 H locs ls hP hn hS hL hkc hks)
  · exact hw.elim
set_option maxHeartbeats 1000000 in
theorem eg_s_irem {K : Nat → Nat → Nat → eg_Lo → List Value → List eg_E → Prop} {Q : Option Value → List eg_E → Prop} {N : Nat → Nat → eg_Lo → List Value → List eg_E → Prop} {n0 pc len a b kc ks : Nat} {loc : eg_Lo} {st : List Value} {h : List eg_E}  (hC : eg_C d p s m args meth c D tc u base) (hn0 : s.heap.size + (eg_rm d).cells = base + n0) (hZ : ∀ t, MQ below (eg_Qc D tc u base n0 Q) args s (eg_rm d).cells (eg_rm d).slots (fun q => base ≤ q) t → Z t) (hK : ∀ pc kc ks loc st h, K pc kc ks loc st h → eg_At d Z p l e s m args below meth c D tc u base pc kc ks loc st h) (hN : ∀ kc ks loc st h, N kc ks loc st h → eg_At d Z p l e s m args below meth c D tc u base (pc + len) kc ks loc st h) (ok : eg_okI d pc len .irem a b = true) (hw : eg_stepI (eg_rm d) K Q N pc .irem a b kc ks loc st h) : eg_At d Z p l e s m args below meth c D tc u base pc kc ks loc st h := by
  obtain ⟨hx, hb, hr, hml, hown, hts, hlocks, hname, hK0, hX, hNst, hbs, hmk⟩ := id hC
  simp only [eg_okI, eg_dec, Bool.and_eq_true, Bool.or_eq_true, beq_iff_eq, decide_eq_true_eq] at ok
  obtain ⟨rfl, hd⟩ := ok
  simp only [eg_stepI] at hw
  split at hw
  · rename_i y x s9
    intro H locs ls hP hn hS hL hkc hks
    exact lv_irem hx hb hd hw.1 (hN _ _ _ _ _ hw.2 H locs ls hP hn hS hL hkc hks)
  · exact hw.elim
set_option maxHeartbeats 1000000 in
theorem eg_s_ldiv {K : Nat → Nat → Nat → eg_Lo → List Value → List eg_E → Prop} {Q : Option Value → List eg_E → Prop} {N : Nat → Nat → eg_Lo → List Value → List eg_E → Prop} {n0 pc len a b kc ks : Nat} {loc : eg_Lo} {st : List Value} {h : List eg_E}  (hC : eg_C d p s m args meth c D tc u base) (hn0 : s.heap.size + (eg_rm d).cells = base + n0) (hZ : ∀ t, MQ below (eg_Qc D tc u base n0 Q) args s (eg_rm d).cells (eg_rm d).slots (fun q => base ≤ q) t → Z t) (hK : ∀ pc kc ks loc st h, K pc kc ks loc st h → eg_At d Z p l e s m args below meth c D tc u base pc kc ks loc st h) (hN : ∀ kc ks loc st h, N kc ks loc st h → eg_At d Z p l e s m args below meth c D tc u base (pc + len) kc ks loc st h) (ok : eg_okI d pc len .ldiv a b = true) (hw : eg_stepI (eg_rm d) K Q N pc .ldiv a b kc ks loc st h) : eg_At d Z p l e s m args below meth c D tc u base pc kc ks loc st h := by
  obtain ⟨hx, hb, hr, hml, hown, hts, hlocks, hname, hK0, hX, hNst, hbs, hmk⟩ := id hC
  simp only [eg_okI, eg_dec, Bool.and_eq_true, Bool.or_eq_true, beq_iff_eq, decide_eq_true_eq] at ok
  obtain ⟨rfl, hd⟩ := ok
  simp only [eg_stepI] at hw
  split at hw
  · rename_i y x s9
    intro H locs ls hP hn hS hL hkc hks
    exact lv_ldiv hx hb hd hw.1 (hN _ _ _ _ _ hw.2 H locs ls hP hn hS hL hkc hks)
  · exact hw.elim
set_option maxHeartbeats 1000000 in
theorem eg_s_lrem {K : Nat → Nat → Nat → eg_Lo → List Value → List eg_E → Prop} {Q : Option Value → List eg_E → Prop} {N : Nat → Nat → eg_Lo → List Value → List eg_E → Prop} {n0 pc len a b kc ks : Nat} {loc : eg_Lo} {st : List Value} {h : List eg_E}  (hC : eg_C d p s m args meth c D tc u base) (hn0 : s.heap.size + (eg_rm d).cells = base + n0) (hZ : ∀ t, MQ below (eg_Qc D tc u base n0 Q) args s (eg_rm d).cells (eg_rm d).slots (fun q => base ≤ q) t → Z t) (hK : ∀ pc kc ks loc st h, K pc kc ks loc st h → eg_At d Z p l e s m args below meth c D tc u base pc kc ks loc st h) (hN : ∀ kc ks loc st h, N kc ks loc st h → eg_At d Z p l e s m args below meth c D tc u base (pc + len) kc ks loc st h) (ok : eg_okI d pc len .lrem a b = true) (hw : eg_stepI (eg_rm d) K Q N pc .lrem a b kc ks loc st h) : eg_At d Z p l e s m args below meth c D tc u base pc kc ks loc st h := by
  obtain ⟨hx, hb, hr, hml, hown, hts, hlocks, hname, hK0, hX, hNst, hbs, hmk⟩ := id hC
  simp only [eg_okI, eg_dec, Bool.and_eq_true, Bool.or_eq_true, beq_iff_eq, decide_eq_true_eq] at ok
  obtain ⟨rfl, hd⟩ := ok
  simp only [eg_stepI] at hw
  split at hw
  · rename_i y x s9
    intro H locs ls hP hn hS hL hkc hks
    exact lv_lrem hx hb hd hw.1 (hN _ _ _ _ _ hw.2 H locs ls hP hn hS hL hkc hks)
  · exact hw.elim
set_option maxHeartbeats 1000000 in
theorem eg_s_ineg {K : Nat → Nat → Nat → eg_Lo → List Value → List eg_E → Prop} {Q : Option Value → List eg_E → Prop} {N : Nat → Nat → eg_Lo → List Value → List eg_E → Prop} {n0 pc len a b kc ks : Nat} {loc : eg_Lo} {st : List Value} {h : List eg_E}  (hC : eg_C d p s m args meth c D tc u base) (hn0 : s.heap.size + (eg_rm d).cells = base + n0) (hZ : ∀ t, MQ below (eg_Qc D tc u base n0 Q) args s (eg_rm d).cells (eg_rm d).slots (fun q => base ≤ q) t → Z t) (hK : ∀ pc kc ks loc st h, K pc kc ks loc st h → eg_At d Z p l e s m args below meth c D tc u base pc kc ks loc st h) (hN : ∀ kc ks loc st h, N kc ks loc st h → eg_At d Z p l e s m args below meth c D tc u base (pc + len) kc ks loc st h) (ok : eg_okI d pc len .ineg a b = true) (hw : eg_stepI (eg_rm d) K Q N pc .ineg a b kc ks loc st h) : eg_At d Z p l e s m args below meth c D tc u base pc kc ks loc st h := by
  obtain ⟨hx, hb, hr, hml, hown, hts, hlocks, hname, hK0, hX, hNst, hbs, hmk⟩ := id hC
  simp only [eg_okI, eg_dec, Bool.and_eq_true, Bool.or_eq_true, beq_iff_eq, decide_eq_true_eq] at ok
  obtain ⟨rfl, hd⟩ := ok
  simp only [eg_stepI] at hw
  split at hw
  · rename_i x s9
    intro H locs ls hP hn hS hL hkc hks
    exact lv_ineg hx hb hd (hN _ _ _ _ _ hw H locs ls hP hn hS hL hkc hks)
  · exact hw.elim
set_option maxHeartbeats 1000000 in
theorem eg_s_lneg {K : Nat → Nat → Nat → eg_Lo → List Value → List eg_E → Prop} {Q : Option Value → List eg_E → Prop} {N : Nat → Nat → eg_Lo → List Value → List eg_E → Prop} {n0 pc len a b kc ks : Nat} {loc : eg_Lo} {st : List Value} {h : List eg_E}  (hC : eg_C d p s m args meth c D tc u base) (hn0 : s.heap.size + (eg_rm d).cells = base + n0) (hZ : ∀ t, MQ below (eg_Qc D tc u base n0 Q) args s (eg_rm d).cells (eg_rm d).slots (fun q => base ≤ q) t → Z t) (hK : ∀ pc kc ks loc st h, K pc kc ks loc st h → eg_At d Z p l e s m args below meth c D tc u base pc kc ks loc st h) (hN : ∀ kc ks loc st h, N kc ks loc st h → eg_At d Z p l e s m args below meth c D tc u base (pc + len) kc ks loc st h) (ok : eg_okI d pc len .lneg a b = true) (hw : eg_stepI (eg_rm d) K Q N pc .lneg a b kc ks loc st h) : eg_At d Z p l e s m args below meth c D tc u base pc kc ks loc st h := by
  obtain ⟨hx, hb, hr, hml, hown, hts, hlocks, hname, hK0, hX, hNst, hbs, hmk⟩ := id hC
  simp only [eg_okI, eg_dec, Bool.and_eq_true, Bool.or_eq_true, beq_iff_eq, decide_eq_true_eq] at ok
  obtain ⟨rfl, hd⟩ := ok
  simp only [eg_stepI] at hw
  split at hw
  · rename_i x s9
    intro H locs ls hP hn hS hL hkc hks
    exact lv_lneg hx hb hd (hN _ _ _ _ _ hw H locs ls hP hn hS hL hkc hks)
  · exact hw.elim
set_option maxHeartbeats 1000000 in
theorem eg_s_i2d {K : Nat → Nat → Nat → eg_Lo → List Value → List eg_E → Prop} {Q : Option Value → List eg_E → Prop} {N : Nat → Nat → eg_Lo → List Value → List eg_E → Prop} {n0 pc len a b kc ks : Nat} {loc : eg_Lo} {st : List Value} {h : List eg_E}  (hC : eg_C d p s m args meth c D tc u base) (hn0 : s.heap.size + (eg_rm d).cells = base + n0) (hZ : ∀ t, MQ below (eg_Qc D tc u base n0 Q) args s (eg_rm d).cells (eg_rm d).slots (fun q => base ≤ q) t → Z t) (hK : ∀ pc kc ks loc st h, K pc kc ks loc st h → eg_At d Z p l e s m args below meth c D tc u base pc kc ks loc st h) (hN : ∀ kc ks loc st h, N kc ks loc st h → eg_At d Z p l e s m args below meth c D tc u base (pc + len) kc ks loc st h) (ok : eg_okI d pc len .i2d a b = true) (hw : eg_stepI (eg_rm d) K Q N pc .i2d a b kc ks loc st h) : eg_At d Z p l e s m args below meth c D tc u base pc kc ks loc st h := by
  obtain ⟨hx, hb, hr, hml, hown, hts, hlocks, hname, hK0, hX, hNst, hbs, hmk⟩ := id hC
  simp only [eg_okI, eg_dec, Bool.and_eq_true, Bool.or_eq_true, beq_iff_eq, decide_eq_true_eq] at ok
  obtain ⟨rfl, hd⟩ := ok
  simp only [eg_stepI] at hw
  split at hw
  · rename_i x s9
    intro H locs ls hP hn hS hL hkc hks
    exact lv_i2d hx hb hd (hN _ _ _ _ _ hw H locs ls hP hn hS hL hkc hks)
  · exact hw.elim
set_option maxHeartbeats 1000000 in
theorem eg_s_d2i {K : Nat → Nat → Nat → eg_Lo → List Value → List eg_E → Prop} {Q : Option Value → List eg_E → Prop} {N : Nat → Nat → eg_Lo → List Value → List eg_E → Prop} {n0 pc len a b kc ks : Nat} {loc : eg_Lo} {st : List Value} {h : List eg_E}  (hC : eg_C d p s m args meth c D tc u base) (hn0 : s.heap.size + (eg_rm d).cells = base + n0) (hZ : ∀ t, MQ below (eg_Qc D tc u base n0 Q) args s (eg_rm d).cells (eg_rm d).slots (fun q => base ≤ q) t → Z t) (hK : ∀ pc kc ks loc st h, K pc kc ks loc st h → eg_At d Z p l e s m args below meth c D tc u base pc kc ks loc st h) (hN : ∀ kc ks loc st h, N kc ks loc st h → eg_At d Z p l e s m args below meth c D tc u base (pc + len) kc ks loc st h) (ok : eg_okI d pc len .d2i a b = true) (hw : eg_stepI (eg_rm d) K Q N pc .d2i a b kc ks loc st h) : eg_At d Z p l e s m args below meth c D tc u base pc kc ks loc st h := by
  obtain ⟨hx, hb, hr, hml, hown, hts, hlocks, hname, hK0, hX, hNst, hbs, hmk⟩ := id hC
  simp only [eg_okI, eg_dec, Bool.and_eq_true, Bool.or_eq_true, beq_iff_eq, decide_eq_true_eq] at ok
  obtain ⟨rfl, hd⟩ := ok
  simp only [eg_stepI] at hw
  split at hw
  · rename_i x s9
    intro H locs ls hP hn hS hL hkc hks
    exact lv_d2i hx hb hd (hN _ _ _ _ _ hw H locs ls hP hn hS hL hkc hks)
  · exact hw.elim
set_option maxHeartbeats 1000000 in
theorem eg_s_i2l {K : Nat → Nat → Nat → eg_Lo → List Value → List eg_E → Prop} {Q : Option Value → List eg_E → Prop} {N : Nat → Nat → eg_Lo → List Value → List eg_E → Prop} {n0 pc len a b kc ks : Nat} {loc : eg_Lo} {st : List Value} {h : List eg_E}  (hC : eg_C d p s m args meth c D tc u base) (hn0 : s.heap.size + (eg_rm d).cells = base + n0) (hZ : ∀ t, MQ below (eg_Qc D tc u base n0 Q) args s (eg_rm d).cells (eg_rm d).slots (fun q => base ≤ q) t → Z t) (hK : ∀ pc kc ks loc st h, K pc kc ks loc st h → eg_At d Z p l e s m args below meth c D tc u base pc kc ks loc st h) (hN : ∀ kc ks loc st h, N kc ks loc st h → eg_At d Z p l e s m args below meth c D tc u base (pc + len) kc ks loc st h) (ok : eg_okI d pc len .i2l a b = true) (hw : eg_stepI (eg_rm d) K Q N pc .i2l a b kc ks loc st h) : eg_At d Z p l e s m args below meth c D tc u base pc kc ks loc st h := by
  obtain ⟨hx, hb, hr, hml, hown, hts, hlocks, hname, hK0, hX, hNst, hbs, hmk⟩ := id hC
  simp only [eg_okI, eg_dec, Bool.and_eq_true, Bool.or_eq_true, beq_iff_eq, decide_eq_true_eq] at ok
  obtain ⟨rfl, hd⟩ := ok
  simp only [eg_stepI] at hw
  split at hw
  · rename_i x s9
    intro H locs ls hP hn hS hL hkc hks
    exact lv_i2l hx hb hd rfl (hN _ _ _ _ _ hw H locs ls hP hn hS hL hkc hks)
  · exact hw.elim
set_option maxHeartbeats 1000000 in
theorem eg_s_l2i {K : Nat → Nat → Nat → eg_Lo → List Value → List eg_E → Prop} {Q : Option Value → List eg_E → Prop} {N : Nat → Nat → eg_Lo → List Value → List eg_E → Prop} {n0 pc len a b kc ks : Nat} {loc : eg_Lo} {st : List Value} {h : List eg_E}  (hC : eg_C d p s m args meth c D tc u base) (hn0 : s.heap.size + (eg_rm d).cells = base + n0) (hZ : ∀ t, MQ below (eg_Qc D tc u base n0 Q) args s (eg_rm d).cells (eg_rm d).slots (fun q => base ≤ q) t → Z t) (hK : ∀ pc kc ks loc st h, K pc kc ks loc st h → eg_At d Z p l e s m args below meth c D tc u base pc kc ks loc st h) (hN : ∀ kc ks loc st h, N kc ks loc st h → eg_At d Z p l e s m args below meth c D tc u base (pc + len) kc ks loc st h) (ok : eg_okI d pc len .l2i a b = true) (hw : eg_stepI (eg_rm d) K Q N pc .l2i a b kc ks loc st h) : eg_At d Z p l e s m args below meth c D tc u base pc kc ks loc st h := by
  obtain ⟨hx, hb, hr, hml, hown, hts, hlocks, hname, hK0, hX, hNst, hbs, hmk⟩ := id hC
  simp only [eg_okI, eg_dec, Bool.and_eq_true, Bool.or_eq_true, beq_iff_eq, decide_eq_true_eq] at ok
  obtain ⟨rfl, hd⟩ := ok
  simp only [eg_stepI] at hw
  split at hw
  · rename_i x s9
    intro H locs ls hP hn hS hL hkc hks
    exact lv_l2i hx hb hd rfl (hN _ _ _ _ _ hw H locs ls hP hn hS hL hkc hks)
  · exact hw.elim
set_option maxHeartbeats 1000000 in
theorem eg_s_i2s {K : Nat → Nat → Nat → eg_Lo → List Value → List eg_E → Prop} {Q : Option Value → List eg_E → Prop} {N : Nat → Nat → eg_Lo → List Value → List eg_E → Prop} {n0 pc len a b kc ks : Nat} {loc : eg_Lo} {st : List Value} {h : List eg_E}  (hC : eg_C d p s m args meth c D tc u base) (hn0 : s.heap.size + (eg_rm d).cells = base + n0) (hZ : ∀ t, MQ below (eg_Qc D tc u base n0 Q) args s (eg_rm d).cells (eg_rm d).slots (fun q => base ≤ q) t → Z t) (hK : ∀ pc kc ks loc st h, K pc kc ks loc st h → eg_At d Z p l e s m args below meth c D tc u base pc kc ks loc st h) (hN : ∀ kc ks loc st h, N kc ks loc st h → eg_At d Z p l e s m args below meth c D tc u base (pc + len) kc ks loc st h) (ok : eg_okI d pc len .i2s a b = true) (hw : eg_stepI (eg_rm d) K Q N pc .i2s a b kc ks loc st h) : eg_At d Z p l e s m args below meth c D tc u base pc kc ks loc st h := by
  obtain ⟨hx, hb, hr, hml, hown, hts, hlocks, hname, hK0, hX, hNst, hbs, hmk⟩ := id hC
  simp only [eg_okI, eg_dec, Bool.and_eq_true, Bool.or_eq_true, beq_iff_eq, decide_eq_true_eq] at ok
  obtain ⟨rfl, hd⟩ := ok
  simp only [eg_stepI] at hw
  split at hw
  · rename_i x s9
    intro H locs ls hP hn hS hL hkc hks
    exact lv_i2s hx hb hd rfl (hN _ _ _ _ _ hw H locs ls hP hn hS hL hkc hks)
  · exact hw.elim
set_option maxHeartbeats 1000000 in
theorem eg_s_lushr {K : Nat → Nat → Nat → eg_Lo → List Value → List eg_E → Prop} {Q : Option Value → List eg_E → Prop} {N : Nat → Nat → eg_Lo → List Value → List eg_E → Prop} {n0 pc len a b kc ks : Nat} {loc : eg_Lo} {st : List Value} {h : List eg_E}  (hC : eg_C d p s m args meth c D tc u base) (hn0 : s.heap.size + (eg_rm d).cells = base + n0) (hZ : ∀ t, MQ below (eg_Qc D tc u base n0 Q) args s (eg_rm d).cells (eg_rm d).slots (fun q => base ≤ q) t → Z t) (hK : ∀ pc kc ks loc st h, K pc kc ks loc st h → eg_At d Z p l e s m args below meth c D tc u base pc kc ks loc st h) (hN : ∀ kc ks loc st h, N kc ks loc st h → eg_At d Z p l e s m args below meth c D tc u base (pc + len) kc ks loc st h) (ok : eg_okI d pc len .lushr a b = true) (hw : eg_stepI (eg_rm d) K Q N pc .lushr a b kc ks loc st h) : eg_At d Z p l e s m args below meth c D tc u base pc kc ks loc st h := by
  obtain ⟨hx, hb, hr, hml, hown, hts, hlocks, hname, hK0, hX, hNst, hbs, hmk⟩ := id hC
  simp only [eg_okI, eg_dec, Bool.and_eq_true, Bool.or_eq_true, beq_iff_eq, decide_eq_true_eq] at ok
  obtain ⟨rfl, hd⟩ := ok
  simp only [eg_stepI] at hw
  split at hw
  · rename_i y x s9
    intro H locs ls hP hn hS hL hkc hks
    exact lv_lushr hx hb hd rfl (hN _ _ _ _ _ hw H locs ls hP hn hS hL hkc hks)
  · exact hw.elim
set_option maxHeartbeats 1000000 in
theorem eg_s_lshl {K : Nat → Nat → Nat → eg_Lo → List Value → List eg_E → Prop} {Q : Option Value → List eg_E → Prop} {N : Nat → Nat → eg_Lo → List Value → List eg_E → Prop} {n0 pc len a b kc ks : Nat} {loc : eg_Lo} {st : List Value} {h : List eg_E}  (hC : eg_C d p s m args meth c D tc u base) (hn0 : s.heap.size + (eg_rm d).cells = base + n0) (hZ : ∀ t, MQ below (eg_Qc D tc u base n0 Q) args s (eg_rm d).cells (eg_rm d).slots (fun q => base ≤ q) t → Z t) (hK : ∀ pc kc ks loc st h, K pc kc ks loc st h → eg_At d Z p l e s m args below meth c D tc u base pc kc ks loc st h) (hN : ∀ kc ks loc st h, N kc ks loc st h → eg_At d Z p l e s m args below meth c D tc u base (pc + len) kc ks loc st h) (ok : eg_okI d pc len .lshl a b = true) (hw : eg_stepI (eg_rm d) K Q N pc .lshl a b kc ks loc st h) : eg_At d Z p l e s m args below meth c D tc u base pc kc ks loc st h := by
  obtain ⟨hx, hb, hr, hml, hown, hts, hlocks, hname, hK0, hX, hNst, hbs, hmk⟩ := id hC
  simp only [eg_okI, eg_dec, Bool.and_eq_true, Bool.or_eq_true, beq_iff_eq, decide_eq_true_eq] at ok
  obtain ⟨rfl, hd⟩ := ok
  simp only [eg_stepI] at hw
  split at hw
  · rename_i y x s9
    intro H locs ls hP hn hS hL hkc hks
    exact lv_lshl hx hb hd rfl (hN _ _ _ _ _ hw H locs ls hP hn hS hL hkc hks)
  · exact hw.elim
set_option maxHeartbeats 1000000 in
theorem eg_s_lshr {K : Nat → Nat → Nat → eg_Lo → List Value → List eg_E → Prop} {Q : Option Value → List eg_E → Prop} {N : Nat → Nat → eg_Lo → List Value → List eg_E → Prop} {n0 pc len a b kc ks : Nat} {loc : eg_Lo} {st : List Value} {h : List eg_E}  (hC : eg_C d p s m args meth c D tc u base) (hn0 : s.heap.size + (eg_rm d).cells = base + n0) (hZ : ∀ t, MQ below (eg_Qc D tc u base n0 Q) args s (eg_rm d).cells (eg_rm d).slots (fun q => base ≤ q) t → Z t) (hK : ∀ pc kc ks loc st h, K pc kc ks loc st h → eg_At d Z p l e s m args below meth c D tc u base pc kc ks loc st h) (hN : ∀ kc ks loc st h, N kc ks loc st h → eg_At d Z p l e s m args below meth c D tc u base (pc + len) kc ks loc st h) (ok : eg_okI d pc len .lshr a b = true) (hw : eg_stepI (eg_rm d) K Q N pc .lshr a b kc ks loc st h) : eg_At d Z p l e s m args below meth c D tc u base pc kc ks loc st h := by
  obtain ⟨hx, hb, hr, hml, hown, hts, hlocks, hname, hK0, hX, hNst, hbs, hmk⟩ := id hC
  simp only [eg_okI, eg_dec, Bool.and_eq_true, Bool.or_eq_true, beq_iff_eq, decide_eq_true_eq] at ok
  obtain ⟨rfl, hd⟩ := ok
  simp only [eg_stepI] at hw
  split at hw
  · rename_i y x s9
    intro H locs ls hP hn hS hL hkc hks
    exact lv_lshr hx hb hd rfl (hN _ _ _ _ _ hw H locs ls hP hn hS hL hkc hks)
  · exact hw.elim
set_option maxHeartbeats 1000000 in
theorem eg_s_lcmp {K : Nat → Nat → Nat → eg_Lo → List Value → List eg_E → Prop} {Q : Option Value → List eg_E → Prop} {N : Nat → Nat → eg_Lo → List Value → List eg_E → Prop} {n0 pc len a b kc ks : Nat} {loc : eg_Lo} {st : List Value} {h : List eg_E}  (hC : eg_C d p s m args meth c D tc u base) (hn0 : s.heap.size + (eg_rm d).cells = base + n0) (hZ : ∀ t, MQ below (eg_Qc D tc u base n0 Q) args s (eg_rm d).cells (eg_rm d).slots (fun q => base ≤ q) t → Z t) (hK : ∀ pc kc ks loc st h, K pc kc ks loc st h → eg_At d Z p l e s m args below meth c D tc u base pc kc ks loc st h) (hN : ∀ kc ks loc st h, N kc ks loc st h → eg_At d Z p l e s m args below meth c D tc u base (pc + len) kc ks loc st h) (ok : eg_okI d pc len .lcmp a b = true) (hw : eg_stepI (eg_rm d) K Q N pc .lcmp a b kc ks loc st h) : eg_At d Z p l e s m args below meth c D tc u base pc kc ks loc st h := by
  obtain ⟨hx, hb, hr, hml, hown, hts, hlocks, hname, hK0, hX, hNst, hbs, hmk⟩ := id hC
  simp only [eg_okI, eg_dec, Bool.and_eq_true, Bool.or_eq_true, beq_iff_eq, decide_eq_true_eq] at ok
  obtain ⟨rfl, hd⟩ := ok
  simp only [eg_stepI] at hw
  split at hw
  · rename_i y x s9
    intro H locs ls hP hn hS hL hkc hks
    exact W.lcmp hx hb hd (hN _ _ _ _ _ hw H locs ls hP hn hS hL hkc hks)
  · exact hw.elim
set_option maxHeartbeats 1000000 in
theorem eg_s_dcmp {K : Nat → Nat → Nat → eg_Lo → List Value → List eg_E → Prop} {Q : Option Value → List eg_E → Prop} {N : Nat → Nat → eg_Lo → List Value → List eg_E → Prop} {n0 pc len a b kc ks : Nat} {loc : eg_Lo} {st : List Value} {h : List eg_E} {op : CmpOp} (hC : eg_C d p s m args meth c D tc u base) (hn0 : s.heap.size + (eg_rm d).cells = base + n0) (hZ : ∀ t, MQ below (eg_Qc D tc u base n0 Q) args s (eg_rm d).cells (eg_rm d).slots (fun q => base ≤ q) t → Z t) (hK : ∀ pc kc ks loc st h, K pc kc ks loc st h → eg_At d Z p l e s m args below meth c D tc u base pc kc ks loc st h) (hN : ∀ kc ks loc st h, N kc ks loc st h → eg_At d Z p l e s m args below meth c D tc u base (pc + len) kc ks loc st h) (ok : eg_okI d pc len (.dcmp op) a b = true) (hw : eg_stepI (eg_rm d) K Q N pc (.dcmp op) a b kc ks loc st h) : eg_At d Z p l e s m args below meth c D tc u base pc kc ks loc st h := by
  obtain ⟨hx, hb, hr, hml, hown, hts, hlocks, hname, hK0, hX, hNst, hbs, hmk⟩ := id hC
  simp only [eg_okI, eg_dec, Bool.and_eq_true, Bool.or_eq_true, beq_iff_eq, decide_eq_true_eq] at ok
  obtain ⟨rfl, hd⟩ := ok
  simp only [eg_stepI] at hw
  split at hw
  · rename_i y x s9
    intro H locs ls hP hn hS hL hkc hks
    exact lv_dcmp hx hb hd (hN _ _ _ _ _ hw H locs ls hP hn hS hL hkc hks)
  · exact hw.elim
set_option maxHeartbeats 1000000 in
theorem eg_s_dup {K : Nat → Nat → Nat → eg_Lo → List Value → List eg_E → Prop} {Q : Option Value → List eg_E → Prop} {N : Nat → Nat → eg_Lo → List Value → List eg_E → Prop} {n0 pc len a b kc ks : Nat} {loc : eg_Lo} {st : List Value} {h : List eg_E}  (hC : eg_C d p s m args meth c D tc u base) (hn0 : s.heap.size + (eg_rm d).cells = base + n0) (hZ : ∀ t, MQ below (eg_Qc D tc u base n0 Q) args s (eg_rm d).cells (eg_rm d).slots (fun q => base ≤ q) t → Z t) (hK : ∀ pc kc ks loc st h, K pc kc ks loc st h → eg_At d Z p l e s m args below meth c D tc u base pc kc ks loc st h) (hN : ∀ kc ks loc st h, N kc ks loc st h → eg_At d Z p l e s m args below meth c D tc u base (pc + len) kc ks loc st h) (ok : eg_okI d pc len .dup a b = true) (hw : eg_stepI (eg_rm d) K Q N pc .dup a b kc ks loc st h) : eg_At d Z p l e s m args below meth c D tc u base pc kc ks loc st h := by
  obtain ⟨hx, hb, hr, hml, hown, hts, hlocks, hname, hK0, hX, hNst, hbs, hmk⟩ := id hC
  simp only [eg_okI, eg_dec, Bool.and_eq_true, Bool.or_eq_true, beq_iff_eq, decide_eq_true_eq] at ok
  obtain ⟨rfl, hd⟩ := ok
  simp only [eg_stepI] at hw
  split at hw
  · rename_i x s9
    intro H locs ls hP hn hS hL hkc hks
    exact lv_dup hx hb hd rfl (hN _ _ _ _ _ hw H locs ls hP hn hS hL hkc hks)
  · rename_i x s9
    intro H locs ls hP hn hS hL hkc hks
    exact lv_dup hx hb hd rfl (hN _ _ _ _ _ hw H locs ls hP hn hS hL hkc hks)
  · exact hw.elim
set_option maxHeartbeats 1000000 in
theorem eg_s_pop {K : Nat → Nat → Nat → eg_Lo → List Value → List eg_E → Prop} {Q : Option Value → List eg_E → Prop} {N : Nat → Nat → eg_Lo → List Value → List eg_E → Prop} {n0 pc len a b kc ks : Nat} {loc : eg_Lo} {st : List Value} {h : List eg_E}  (hC : eg_C d p s m args meth c D tc u base) (hn0 : s.heap.size + (eg_rm d).cells = base + n0) (hZ : ∀ t, MQ below (eg_Qc D tc u base n0 Q) args s (eg_rm d).cells (eg_rm d).slots (fun q => base ≤ q) t → Z t) (hK : ∀ pc kc ks loc st h, K pc kc ks loc st h → eg_At d Z p l e s m args below meth c D tc u base pc kc ks loc st h) (hN : ∀ kc ks loc st h, N kc ks loc st h → eg_At d Z p l e s m args below meth c D tc u base (pc + len) kc ks loc st h) (ok : eg_okI d pc len .pop a b = true) (hw : eg_stepI (eg_rm d) K Q N pc .pop a b kc ks loc st h) : eg_At d Z p l e s m args below meth c D tc u base pc kc ks loc st h := by
  obtain ⟨hx, hb, hr, hml, hown, hts, hlocks, hname, hK0, hX, hNst, hbs, hmk⟩ := id hC
  simp only [eg_okI, eg_dec, Bool.and_eq_true, Bool.or_eq_true, beq_iff_eq, decide_eq_true_eq] at ok
  obtain ⟨rfl, hd⟩ := ok
  simp only [eg_stepI] at hw
  split at hw
  · intro H locs ls hP hn hS hL hkc hks
    exact lv_pop hx hb hd rfl (hN _ _ _ _ _ hw H locs ls hP hn hS hL hkc hks)
  · intro H locs ls hP hn hS hL hkc hks
    exact lv_pop hx hb hd rfl (hN _ _ _ _ _ hw H locs ls hP hn hS hL hkc hks)
  · exact hw.elim
set_option maxHeartbeats 1000000 in
theorem eg_s_dup2 {K : Nat → Nat → Nat → eg_Lo → List Value → List eg_E → Prop} {Q : Option Value → List eg_E → Prop} {N : Nat → Nat → eg_Lo → List Value → List eg_E → Prop} {n0 pc len a b kc ks : Nat} {loc : eg_Lo} {st : List Value} {h : List eg_E}  (hC : eg_C d p s m args meth c D tc u base) (hn0 : s.heap.size + (eg_rm d).cells = base + n0) (hZ : ∀ t, MQ below (eg_Qc D tc u base n0 Q) args s (eg_rm d).cells (eg_rm d).slots (fun q => base ≤ q) t → Z t) (hK : ∀ pc kc ks loc st h, K pc kc ks loc st h → eg_At d Z p l e s m args below meth c D tc u base pc kc ks loc st h) (hN : ∀ kc ks loc st h, N kc ks loc st h → eg_At d Z p l e s m args below meth c D tc u base (pc + len) kc ks loc st h) (ok : eg_okI d pc len .dup2 a b = true) (hw : eg_stepI (eg_rm d) K Q N pc .dup2 a b kc ks loc st h) : eg_At d Z p l e s m args below meth c D tc u base pc kc ks loc st h := by
  obtain ⟨hx, hb, hr, hml, hown, hts, hlocks, hname, hK0, hX, hNst, hbs, hmk⟩ := id hC
  simp only [eg_okI, eg_dec, Bool.and_eq_true, Bool.or_eq_true, beq_iff_eq, decide_eq_true_eq] at ok
  obtain ⟨rfl, hd⟩ := ok
  simp only [eg_stepI] at hw
  split at hw
  · rename_i y x s9
    intro H locs ls hP hn hS hL hkc hks
    exact lv_dup2_11 hx hb hd rfl rfl (hN _ _ _ _ _ hw H locs ls hP hn hS hL hkc hks)
  · exact hw.elim
set_option maxHeartbeats 1000000 in
theorem eg_s_if_eq {K : Nat → Nat → Nat → eg_Lo → List Value → List eg_E → Prop} {Q : Option Value → List eg_E → Prop} {N : Nat → Nat → eg_Lo → List Value → List eg_E → Prop} {n0 pc len a b kc ks : Nat} {loc : eg_Lo} {st : List Value} {h : List eg_E} {off : Int} (hC : eg_C d p s m args meth c D tc u base) (hn0 : s.heap.size + (eg_rm d).cells = base + n0) (hZ : ∀ t, MQ below (eg_Qc D tc u base n0 Q) args s (eg_rm d).cells (eg_rm d).slots (fun q => base ≤ q) t → Z t) (hK : ∀ pc kc ks loc st h, K pc kc ks loc st h → eg_At d Z p l e s m args below meth c D tc u base pc kc ks loc st h) (hN : ∀ kc ks loc st h, N kc ks loc st h → eg_At d Z p l e s m args below meth c D tc u base (pc + len) kc ks loc st h) (ok : eg_okI d pc len (.ifCond .eq off) a b = true) (hw : eg_stepI (eg_rm d) K Q N pc (.ifCond .eq off) a b kc ks loc st h) : eg_At d Z p l e s m args below meth c D tc u base pc kc ks loc st h := by
  obtain ⟨hx, hb, hr, hml, hown, hts, hlocks, hname, hK0, hX, hNst, hbs, hmk⟩ := id hC
  simp only [eg_okI, eg_dec, Bool.and_eq_true, Bool.or_eq_true, beq_iff_eq, decide_eq_true_eq] at ok
  obtain ⟨⟨rfl, hd⟩, ht⟩ := ok
  simp only [eg_stepI] at hw
  split at hw
  · rename_i x s9
    intro H locs ls hP hn hS hL hkc hks
    exact lv_if_eq hx hb hd ht (fun q => hK _ _ _ _ _ _ (hw.1 q) H locs ls hP hn hS hL hkc hks) (fun q => hN _ _ _ _ _ (hw.2 q) H locs ls hP hn hS hL hkc hks)
  · exact hw.elim
set_option maxHeartbeats 1000000 in
theorem eg_s_icmp_eq {K : Nat → Nat → Nat → eg_Lo → List Value → List eg_E → Prop} {Q : Option Value → List eg_E → Prop} {N : Nat → Nat → eg_Lo → List Value → List eg_E → Prop} {n0 pc len a b kc ks : Nat} {loc : eg_Lo} {st : List Value} {h : List eg_E} {off : Int} (hC : eg_C d p s m args meth c D tc u base) (hn0 : s.heap.size + (eg_rm d).cells = base + n0) (hZ : ∀ t, MQ below (eg_Qc D tc u base n0 Q) args s (eg_rm d).cells (eg_rm d).slots (fun q => base ≤ q) t → Z t) (hK : ∀ pc kc ks loc st h, K pc kc ks loc st h → eg_At d Z p l e s m args below meth c D tc u base pc kc ks loc st h) (hN : ∀ kc ks loc st h, N kc ks loc st h → eg_At d Z p l e s m args below meth c D tc u base (pc + len) kc ks loc st h) (ok : eg_okI d pc len (.if_icmp .eq off) a b = true) (hw : eg_stepI (eg_rm d) K Q N pc (.if_icmp .eq off) a b kc ks loc st h) : eg_At d Z p l e s m args below meth c D tc u base pc kc ks loc st h := by
  obtain ⟨hx, hb, hr, hml, hown, hts, hlocks, hname, hK0, hX, hNst, hbs, hmk⟩ := id hC
  simp only [eg_okI, eg_dec, Bool.and_eq_true, Bool.or_eq_true, beq_iff_eq, decide_eq_true_eq] at ok
  obtain ⟨⟨rfl, hd⟩, ht⟩ := ok
  simp only [eg_stepI] at hw
  split at hw
  · rename_i y x s9
    intro H locs ls hP hn hS hL hkc hks
    exact lv_icmp_eq hx hb hd ht (fun q => hK _ _ _ _ _ _ (hw.1 q) H locs ls hP hn hS hL hkc hks) (fun q => hN _ _ _ _ _ (hw.2 q) H locs ls hP hn hS hL hkc hks)
  · exact hw.elim
set_option maxHeartbeats 1000000 in
theorem eg_s_if_ne {K : Nat → Nat → Nat → eg_Lo → List Value → List eg_E → Prop} {Q : Option Value → List eg_E → Prop} {N : Nat → Nat → eg_Lo → List Value → List eg_E → Prop} {n0 pc len a b kc ks : Nat} {loc : eg_Lo} {st : List Value} {h : List eg_E} {off : Int} (hC : eg_C d p s m args meth c D tc u base) (hn0 : s.heap.size + (eg_rm d).cells = base + n0) (hZ : ∀ t, MQ below (eg_Qc D tc u base n0 Q) args s (eg_rm d).cells (eg_rm d).slots (fun q => base ≤ q) t → Z t) (hK : ∀ pc kc ks loc st h, K pc kc ks loc st h → eg_At d Z p l e s m args below meth c D tc u base pc kc ks loc st h) (hN : ∀ kc ks loc st h, N kc ks loc st h → eg_At d Z p l e s m args below meth c D tc u base (pc + len) kc ks loc st h) (ok : eg_okI d pc len (.ifCond .ne off) a b = true) (hw : eg_stepI (eg_rm d) K Q N pc (.ifCond .ne off) a b kc ks loc st h) : eg_At d Z p l e s m args below meth c D tc u base pc kc ks loc st h := by
  obtain ⟨hx, hb, hr, hml, hown, hts, hlocks, hname, hK0, hX, hNst, hbs, hmk⟩ := id hC
  simp only [eg_okI, eg_dec, Bool.and_eq_true, Bool.or_eq_true, beq_iff_eq, decide_eq_true_eq] at ok
  obtain ⟨⟨rfl, hd⟩, ht⟩ := ok
  simp only [eg_stepI] at hw
  split at hw
  · rename_i x s9
    intro H locs ls hP hn hS hL hkc hks
    exact lv_if_ne hx hb hd ht (fun q => hK _ _ _ _ _ _ (hw.1 q) H locs ls hP hn hS hL hkc hks) (fun q => hN _ _ _ _ _ (hw.2 q) H locs ls hP hn hS hL hkc hks)
  · exact hw.elim
set_option maxHeartbeats 1000000 in
theorem eg_s_icmp_ne {K : Nat → Nat → Nat → eg_Lo → List Value → List eg_E → Prop} {Q : Option Value → List eg_E → Prop} {N : Nat → Nat → eg_Lo → List Value → List eg_E → Prop} {n0 pc len a b kc ks : Nat} {loc : eg_Lo} {st : List Value} {h : List eg_E} {off : Int} (hC : eg_C d p s m args meth c D tc u base) (hn0 : s.heap.size + (eg_rm d).cells = base + n0) (hZ : ∀ t, MQ below (eg_Qc D tc u base n0 Q) args s (eg_rm d).cells (eg_rm d).slots (fun q => base ≤ q) t → Z t) (hK : ∀ pc kc ks loc st h, K pc kc ks loc st h → eg_At d Z p l e s m args below meth c D tc u base pc kc ks loc st h) (hN : ∀ kc ks loc st h, N kc ks loc st h → eg_At d Z p l e s m args below meth c D tc u base (pc + len) kc ks loc st h) (ok : eg_okI d pc len (.if_icmp .ne off) a b = true) (hw : eg_stepI (eg_rm d) K Q N pc (.if_icmp .ne off) a b kc ks loc st h) : eg_At d Z p l e s m args below meth c D tc u base pc kc ks loc st h := by
  obtain ⟨hx, hb, hr, hml, hown, hts, hlocks, hname, hK0, hX, hNst, hbs, hmk⟩ := id hC
  simp only [eg_okI, eg_dec, Bool.and_eq_true, Bool.or_eq_true, beq_iff_eq, decide_eq_true_eq] at ok
  obtain ⟨⟨rfl, hd⟩, ht⟩ := ok
  simp only [eg_stepI] at hw
  split at hw
  · rename_i y x s9
    intro H locs ls hP hn hS hL hkc hks
    exact lv_icmp_ne hx hb hd ht (fun q => hK _ _ _ _ _ _ (hw.1 q) H locs ls hP hn hS hL hkc hks) (fun q => hN _ _ _ _ _ (hw.2 q) H locs ls hP hn hS hL hkc hks)
  · exact hw.elim
set_option maxHeartbeats 1000000 in
theorem eg_s_if_lt {K : Nat → Nat → Nat → eg_Lo → List Value → List eg_E → Prop} {Q : Option Value → List eg_E → Prop} {N : Nat → Nat → eg_Lo → List Value → List eg_E → Prop} {n0 pc len a b kc ks : Nat} {loc : eg_Lo} {st : List Value} {h : List eg_E} {off : Int} (hC : eg_C d p s m args meth c D tc u base) (hn0 : s.heap.size + (eg_rm d).cells = base + n0) (hZ : ∀ t, MQ below (eg_Qc D tc u base n0 Q) args s (eg_rm d).cells (eg_rm d).slots (fun q => base ≤ q) t → Z t) (hK : ∀ pc kc ks loc st h, K pc kc ks loc st h → eg_At d Z p l e s m args below meth c D tc u base pc kc ks loc st h) (hN : ∀ kc ks loc st h, N kc ks loc st h → eg_At d Z p l e s m args below meth c D tc u base (pc + len) kc ks loc st h) (ok : eg_okI d pc len (.ifCond .lt off) a b = true) (hw : eg_stepI (eg_rm d) K Q N pc (.ifCond .lt off) a b kc ks loc st h) : eg_At d Z p l e s m args below meth c D tc u base pc kc ks loc st h := by
  obtain ⟨hx, hb, hr, hml, hown, hts, hlocks, hname, hK0, hX, hNst, hbs, hmk⟩ := id hC
  simp only [eg_okI, eg_dec, Bool.and_eq_true, Bool.or_eq_true, beq_iff_eq, decide_eq_true_eq] at ok
  obtain ⟨⟨rfl, hd⟩, ht⟩ := ok
  simp only [eg_stepI] at hw
  split at hw
  · rename_i x s9
    intro H locs ls hP hn hS hL hkc hks
    exact lv_if_lt hx hb hd ht (fun q => hK _ _ _ _ _ _ (hw.1 q) H locs ls hP hn hS hL hkc hks) (fun q => hN _ _ _ _ _ (hw.2 q) H locs ls hP hn hS hL hkc hks)
  · exact hw.elim
set_option maxHeartbeats 1000000 in
theorem eg_s_icmp_lt {K : Nat → Nat → Nat → eg_Lo → List Value → List eg_E → Prop} {Q : Option Value → List eg_E → Prop} {N : Nat → Nat → eg_Lo → List Value → List eg_E → Prop} {n0 pc len a b kc ks : Nat} {loc : eg_Lo} {st : List Value} {h : List eg_E} {off : Int} (hC : eg_C d p s m args meth c D tc u base) (hn0 : s.heap.size + (eg_rm d).cells = base + n0) (hZ : ∀ t, MQ below (eg_Qc D tc u base n0 Q) args s (eg_rm d).cells (eg_rm d).slots (fun q => base ≤ q) t → Z t) (hK : ∀ pc kc ks loc st h, K pc kc ks loc st h → eg_At d Z p l e s m args below meth c D tc u base pc kc ks loc st h) (hN : ∀ kc ks loc st h, N kc ks loc st h → eg_At d Z p l e s m args below meth c D tc u base (pc + len) kc ks loc st h) (ok : eg_okI d pc len (.if_icmp .lt off) a b = true) (hw : eg_stepI (eg_rm d) K Q N pc (.if_icmp .lt off) a b kc ks loc st h) : eg_At d Z p l e s m args below meth c D tc u base pc kc ks loc st h := by
  obtain ⟨hx, hb, hr, hml, hown, hts, hlocks, hname, hK0, hX, hNst, hbs, hmk⟩ := id hC
  simp only [eg_okI, eg_dec, Bool.and_eq_true, Bool.or_eq_true, beq_iff_eq, decide_eq_true_eq] at ok
  obtain ⟨⟨rfl, hd⟩, ht⟩ := ok
  simp only [eg_stepI] at hw
  split at hw
  · rename_i y x s9
    intro H locs ls hP hn hS hL hkc hks
    exact lv_icmp_lt hx hb hd ht (fun q => hK _ _ _ _ _ _ (hw.1 q) H locs ls hP hn hS hL hkc hks) (fun q => hN _ _ _ _ _ (hw.2 q) H locs ls hP hn hS hL hkc hks)
  · exact hw.elim
set_option maxHeartbeats 1000000 in
theorem eg_s_if_ge {K : Nat → Nat → Nat → eg_Lo → List Value → List eg_E → Prop} {Q : Option Value → List eg_E → Prop} {N : Nat → Nat → eg_Lo → List Value → List eg_E → Prop} {n0 pc len a b kc ks : Nat} {loc : eg_Lo} {st : List Value} {h : List eg_E} {off : Int} (hC : eg_C d p s m args meth c D tc u base) (hn0 : s.heap.size + (eg_rm d).cells = base + n0) (hZ : ∀ t, MQ below (eg_Qc D tc u base n0 Q) args s (eg_rm d).cells (eg_rm d).slots (fun q => base ≤ q) t → Z t) (hK : ∀ pc kc ks loc st h, K pc kc ks loc st h → eg_At d Z p l e s m args below meth c D tc u base pc kc ks loc st h) (hN : ∀ kc ks loc st h, N kc ks loc st h → eg_At d Z p l e s m args below meth c D tc u base (pc + len) kc ks loc st h) (ok : eg_okI d pc len (.ifCond .ge off) a b = true) (hw : eg_stepI (eg_rm d) K Q N pc (.ifCond .ge off) a b kc ks loc st h) : eg_At d Z p l e s m args below meth c D tc u base pc kc ks loc st h := by
  obtain ⟨hx, hb, hr, hml, hown, hts, hlocks, hname, hK0, hX, hNst, hbs, hmk⟩ := id hC
  simp only [eg_okI, eg_dec, Bool.and_eq_true, Bool.or_eq_true, beq_iff_eq, decide_eq_true_eq] at ok
  obtain ⟨⟨rfl, hd⟩, ht⟩ := ok
  simp only [eg_stepI] at hw
  split at hw
  · rename_i x s9
    intro H locs ls hP hn hS hL hkc hks
    exact lv_if_ge hx hb hd ht (fun q => hK _ _ _ _ _ _ (hw.1 q) H locs ls hP hn hS hL hkc hks) (fun q => hN _ _ _ _ _ (hw.2 q) H locs ls hP hn hS hL hkc hks)
  · exact hw.elim
set_option maxHeartbeats 1000000 in
theorem eg_s_icmp_ge {K : Nat → Nat → Nat → eg_Lo → List Value → List eg_E → Prop} {Q : Option Value → List eg_E → Prop} {N : Nat → Nat → eg_Lo → List Value → List eg_E → Prop} {n0 pc len a b kc ks : Nat} {loc : eg_Lo} {st : List Value} {h : List eg_E} {off : Int} (hC : eg_C d p s m args meth c D tc u base) (hn0 : s.heap.size + (eg_rm d).cells = base + n0) (hZ : ∀ t, MQ below (eg_Qc D tc u base n0 Q) args s (eg_rm d).cells (eg_rm d).slots (fun q => base ≤ q) t → Z t) (hK : ∀ pc kc ks loc st h, K pc kc ks loc st h → eg_At d Z p l e s m args below meth c D tc u base pc kc ks loc st h) (hN : ∀ kc ks loc st h, N kc ks loc st h → eg_At d Z p l e s m args below meth c D tc u base (pc + len) kc ks loc st h) (ok : eg_okI d pc len (.if_icmp .ge off) a b = true) (hw : eg_stepI (eg_rm d) K Q N pc (.if_icmp .ge off) a b kc ks loc st h) : eg_At d Z p l e s m args below meth c D tc u base pc kc ks loc st h := by
  obtain ⟨hx, hb, hr, hml, hown, hts, hlocks, hname, hK0, hX, hNst, hbs, hmk⟩ := id hC
  simp only [eg_okI, eg_dec, Bool.and_eq_true, Bool.or_eq_true, beq_iff_eq, decide_eq_true_eq] at ok
  obtain ⟨⟨rfl, hd⟩, ht⟩ := ok
  simp only [eg_stepI] at hw
  split at hw
  · rename_i y x s9
    intro H locs ls hP hn hS hL hkc hks
    exact lv_icmp_ge hx hb hd ht (fun q => hK _ _ _ _ _ _ (hw.1 q) H locs ls hP hn hS hL hkc hks) (fun q => hN _ _ _ _ _ (hw.2 q) H locs ls hP hn hS hL hkc hks)
  · exact hw.elim
set_option maxHeartbeats 1000000 in
theorem eg_s_if_gt {K : Nat → Nat → Nat → eg_Lo → List Value → List eg_E → Prop} {Q : Option Value → List eg_E → Prop} {N : Nat → Nat → eg_Lo → List Value → List eg_E → Prop} {n0 pc len a b kc ks : Nat} {loc : eg_Lo} {st : List Value} {h : List eg_E} {off : Int} (hC : eg_C d p s m args meth c D tc u base) (hn0 : s.heap.size + (eg_rm d).cells = base + n0) (hZ : ∀ t, MQ below (eg_Qc D tc u base n0 Q) args s (eg_rm d).cells (eg_rm d).slots (fun q => base ≤ q) t → Z t) (hK : ∀ pc kc ks loc st h, K pc kc ks loc st h → eg_At d Z p l e s m args below meth c D tc u base pc kc ks loc st h) (hN : ∀ kc ks loc st h, N kc ks loc st h → eg_At d Z p l e s m args below meth c D tc u base (pc + len) kc ks loc st h) (ok : eg_okI d pc len (.ifCond .gt off) a b = true) (hw : eg_stepI (eg_rm d) K Q N pc (.ifCond .gt off) a b kc ks loc st h) : eg_At d Z p l e s m args below meth c D tc u base pc kc ks loc st h := by
  obtain ⟨hx, hb, hr, hml, hown, hts, hlocks, hname, hK0, hX, hNst, hbs, hmk⟩ := id hC
  simp only [eg_okI, eg_dec, Bool.and_eq_true, Bool.or_eq_true, beq_iff_eq, decide_eq_true_eq] at ok
  obtain ⟨⟨rfl, hd⟩, ht⟩ := ok
  simp only [eg_stepI] at hw
  split at hw
  · rename_i x s9
    intro H locs ls hP hn hS hL hkc hks
    exact lv_if_gt hx hb hd ht (fun q => hK _ _ _ _ _ _ (hw.1 q) H locs ls hP hn hS hL hkc hks) (fun q => hN _ _ _ _ _ (hw.2 q) H locs ls hP hn hS hL hkc hks)
  · exact hw.elim
set_option maxHeartbeats 1000000 in
theorem eg_s_icmp_gt {K : Nat → Nat → Nat → eg_Lo → List Value → List eg_E → Prop} {Q : Option Value → List eg_E → Prop} {N : Nat → Nat → eg_Lo → List Value → List eg_E → Prop} {n0 pc len a b kc ks : Nat} {loc : eg_Lo} {st : List Value} {h : List eg_E} {off : Int} (hC : eg_C d p s m args meth c D tc u base) (hn0 : s.heap.size + (eg_rm d).cells = base + n0) (hZ : ∀ t, MQ below (eg_Qc D tc u base n0 Q) args s (eg_rm d).cells (eg_rm d).slots (fun q => base ≤ q) t → Z t) (hK : ∀ pc kc ks loc st h, K pc kc ks loc st h → eg_At d Z p l e s m args below meth c D tc u base pc kc ks loc st h) (hN : ∀ kc ks loc st h, N kc ks loc st h → eg_At d Z p l e s m args below meth c D tc u base (pc + len) kc ks loc st h) (ok : eg_okI d pc len (.if_icmp .gt off) a b = true) (hw : eg_stepI (eg_rm d) K Q N pc (.if_icmp .gt off) a b kc ks loc st h) : eg_At d Z p l e s m args below meth c D tc u base pc kc ks loc st h := by
  obtain ⟨hx, hb, hr, hml, hown, hts, hlocks, hname, hK0, hX, hNst, hbs, hmk⟩ := id hC
  simp only [eg_okI, eg_dec, Bool.and_eq_true, Bool.or_eq_true, beq_iff_eq, decide_eq_true_eq] at ok
  obtain ⟨⟨rfl, hd⟩, ht⟩ := ok
  simp only [eg_stepI] at hw
  split at hw
  · rename_i y x s9
    intro H locs ls hP hn hS hL hkc hks
    exact lv_icmp_gt hx hb hd ht (fun q => hK _ _ _ _ _ _ (hw.1 q) H locs ls hP hn hS hL hkc hks) (fun q => hN _ _ _ _ _ (hw.2 q) H locs ls hP hn hS hL hkc hks)
  · exact hw.elim
set_option maxHeartbeats 1000000 in
theorem eg_s_if_le {K : Nat → Nat → Nat → eg_Lo → List Value → List eg_E → Prop} {Q : Option Value → List eg_E → Prop} {N : Nat → Nat → eg_Lo → List Value → List eg_E → Prop} {n0 pc len a b kc ks : Nat} {loc : eg_Lo} {st : List Value} {h : List eg_E} {off : Int} (hC : eg_C d p s m args meth c D tc u base) (hn0 : s.heap.size + (eg_rm d).cells = base + n0) (hZ : ∀ t, MQ below (eg_Qc D tc u base n0 Q) args s (eg_rm d).cells (eg_rm d).slots (fun q => base ≤ q) t → Z t) (hK : ∀ pc kc ks loc st h, K pc kc ks loc st h → eg_At d Z p l e s m args below meth c D tc u base pc kc ks loc st h) (hN : ∀ kc ks loc st h, N kc ks loc st h → eg_At d Z p l e s m args below meth c D tc u base (pc + len) kc ks loc st h) (ok : eg_okI d pc len (.ifCond .le off) a b = true) (hw : eg_stepI (eg_rm d) K Q N pc (.ifCond .le off) a b kc ks loc st h) : eg_At d Z p l e s m args below meth c D tc u base pc kc ks loc st h := by
  obtain ⟨hx, hb, hr, hml, hown, hts, hlocks, hname, hK0, hX, hNst, hbs, hmk⟩ := id hC
  simp only [eg_okI, eg_dec, Bool.and_eq_true, Bool.or_eq_true, beq_iff_eq, decide_eq_true_eq] at ok
  obtain ⟨⟨rfl, hd⟩, ht⟩ := ok
  simp only [eg_stepI] at hw
  split at hw
  · rename_i x s9
    intro H locs ls hP hn hS hL hkc hks
    exact lv_if_le hx hb hd ht (fun q => hK _ _ _ _ _ _ (hw.1 q) H locs ls hP hn hS hL hkc hks) (fun q => hN _ _ _ _ _ (hw.2 q) H locs ls hP hn hS hL hkc hks)
  · exact hw.elim
set_option maxHeartbeats 1000000 in
theorem eg_s_icmp_le {K : Nat → Nat → Nat → eg_Lo → List Value → List eg_E → Prop} {Q : Option Value → List eg_E → Prop} {N : Nat → Nat → eg_Lo → List Value → List eg_E → Prop} {n0 pc len a b kc ks : Nat} {loc : eg_Lo} {st : List Value} {h : List eg_E} {off : Int} (hC : eg_C d p s m args meth c D tc u base) (hn0 : s.heap.size + (eg_rm d).cells = base + n0) (hZ : ∀ t, MQ below (eg_Qc D tc u base n0 Q) args s (eg_rm d).cells (eg_rm d).slots (fun q => base ≤ q) t → Z t) (hK : ∀ pc kc ks loc st h, K pc kc ks loc st h → eg_At d Z p l e s m args below meth c D tc u base pc kc ks loc st h) (hN : ∀ kc ks loc st h, N kc ks loc st h → eg_At d Z p l e s m args below meth c D tc u base (pc + len) kc ks loc st h) (ok : eg_okI d pc len (.if_icmp .le off) a b = true) (hw : eg_stepI (eg_rm d) K Q N pc (.if_icmp .le off) a b kc ks loc st h) : eg_At d Z p l e s m args below meth c D tc u base pc kc ks loc st h := by
  obtain ⟨hx, hb, hr, hml, hown, hts, hlocks, hname, hK0, hX, hNst, hbs, hmk⟩ := id hC
  simp only [eg_okI, eg_dec, Bool.and_eq_true, Bool.or_eq_true, beq_iff_eq, decide_eq_true_eq] at ok
  obtain ⟨⟨rfl, hd⟩, ht⟩ := ok
  simp only [eg_stepI] at hw
  split at hw
  · rename_i y x s9
    intro H locs ls hP hn hS hL hkc hks
    exact lv_icmp_le hx hb hd ht (fun q => hK _ _ _ _ _ _ (hw.1 q) H locs ls hP hn hS hL hkc hks) (fun q => hN _ _ _ _ _ (hw.2 q) H locs ls hP hn hS hL hkc hks)
  · exact hw.elim
set_option maxHeartbeats 1000000 in
theorem eg_s_goto {K : Nat → Nat → Nat → eg_Lo → List Value → List eg_E → Prop} {Q : Option Value → List eg_E → Prop} {N : Nat → Nat → eg_Lo → List Value → List eg_E → Prop} {n0 pc len a b kc ks : Nat} {loc : eg_Lo} {st : List Value} {h : List eg_E} {off : Int} (hC : eg_C d p s m args meth c D tc u base) (hn0 : s.heap.size + (eg_rm d).cells = base + n0) (hZ : ∀ t, MQ below (eg_Qc D tc u base n0 Q) args s (eg_rm d).cells (eg_rm d).slots (fun q => base ≤ q) t → Z t) (hK : ∀ pc kc ks loc st h, K pc kc ks loc st h → eg_At d Z p l e s m args below meth c D tc u base pc kc ks loc st h) (hN : ∀ kc ks loc st h, N kc ks loc st h → eg_At d Z p l e s m args below meth c D tc u base (pc + len) kc ks loc st h) (ok : eg_okI d pc len (.goto off) a b = true) (hw : eg_stepI (eg_rm d) K Q N pc (.goto off) a b kc ks loc st h) : eg_At d Z p l e s m args below meth c D tc u base pc kc ks loc st h := by
  obtain ⟨hx, hb, hr, hml, hown, hts, hlocks, hname, hK0, hX, hNst, hbs, hmk⟩ := id hC
  simp only [eg_okI, eg_dec, Bool.and_eq_true, Bool.or_eq_true, beq_iff_eq, decide_eq_true_eq] at ok
  obtain ⟨⟨rfl, hd⟩, ht⟩ := ok
  simp only [eg_stepI] at hw
  intro H locs ls hP hn hS hL hkc hks
  exact lv_goto hx hb hd ht (hK _ _ _ _ _ _ hw H locs ls hP hn hS hL hkc hks)
set_option maxHeartbeats 1000000 in
theorem eg_s_tableswitch {K : Nat → Nat → Nat → eg_Lo → List Value → List eg_E → Prop} {Q : Option Value → List eg_E → Prop} {N : Nat → Nat → eg_Lo → List Value → List eg_E → Prop} {n0 pc len a b kc ks : Nat} {loc : eg_Lo} {st : List Value} {h : List eg_E} {df lo hi : Int} {offs : Array Int} (hC : eg_C d p s m args meth c D tc u base) (hn0 : s.heap.size + (eg_rm d).cells = base + n0) (hZ : ∀ t, MQ below (eg_Qc D tc u base n0 Q) args s (eg_rm d).cells (eg_rm d).slots (fun q => base ≤ q) t → Z t) (hK : ∀ pc kc ks loc st h, K pc kc ks loc st h → eg_At d Z p l e s m args below meth c D tc u base pc kc ks loc st h) (hN : ∀ kc ks loc st h, N kc ks loc st h → eg_At d Z p l e s m args below meth c D tc u base (pc + len) kc ks loc st h) (ok : eg_okI d pc len (.tableswitch df lo hi offs) a b = true) (hw : eg_stepI (eg_rm d) K Q N pc (.tableswitch df lo hi offs) a b kc ks loc st h) : eg_At d Z p l e s m args below meth c D tc u base pc kc ks loc st h := by
  obtain ⟨hx, hb, hr, hml, hown, hts, hlocks, hname, hK0, hX, hNst, hbs, hmk⟩ := id hC
  simp only [eg_okI, eg_dec, Bool.and_eq_true, Bool.or_eq_true, beq_iff_eq, decide_eq_true_eq] at ok
  obtain ⟨⟨⟨⟨hd, hlh⟩, hsz⟩, hdf⟩, hall⟩ := ok
  simp only [eg_stepI] at hw
  split at hw
  · rename_i x s9
    intro H locs ls hP hn hS hL hkc hks
    by_cases h1 : x.toInt < lo ∨ hi < x.toInt
    · exact lv_tableOut hx hb hd h1 (Int.toNat_of_nonneg hdf).symm (hK _ _ _ _ _ _ (hw.1 h1) H locs ls hP hn hS hL hkc hks)
    · have h2 : ¬ x.toInt < lo := fun q => h1 (Or.inl q)
      have h3 : ¬ hi < x.toInt := fun q => h1 (Or.inr q)
      have h4 : (x.toInt - lo).toNat < offs.size := by omega
      have h5 : offs[(x.toInt - lo).toNat]? = some offs[(x.toInt - lo).toNat] := Array.getElem?_eq_getElem h4
      have h6 := List.all_eq_true.mp hall _ (Array.mem_toList_iff.mpr (Array.getElem_mem h4))
      simp only [decide_eq_true_eq] at h6
      exact lv_tableIn hx hb hd h2 h3 h5 (Int.toNat_of_nonneg h6).symm (hK _ _ _ _ _ _ (hw.2 h2 h3 _ h5) H locs ls hP hn hS hL hkc hks)
  · exact hw.elim
end EgS
