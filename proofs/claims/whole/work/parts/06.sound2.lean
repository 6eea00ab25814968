section EgS2
variable {d : eg_M} {Z : State → Prop} {p : Program} {l : Launch} {e : Env} {s : State} {m : MethodId} {args : Array Value} {below : List Frame} {meth : Method} {c : Code} {D : va_G} {tc : Nat → ClassId} {u base : Nat}
theorem eg_a_fst (f : Nat → Nat) (x : vp_A) : (eg_a f x).1 = x.1 := by
  obtain ⟨n, f | f | f | f | f⟩ := x <;> rfl
theorem eg_mk_s (h : eg_mk d = true) : plainFor (eg_y d) = true ∧ (eg_y d).cls ≠ "java/lang/invoke/MethodHandle" ∧ (eg_y d).cls ≠ "java/lang/invoke/VarHandle" ∧ (parseMethodDescriptor (eg_y d).desc).map (fun z => z.parameters.length) = some (eg_np d) ∧ (eg_y d).cls = eg_cn (eg_co d) ∧ (eg_st d = 2 → (eg_y d).name = "<init>") := by
  unfold eg_mk at h
  simp only [Bool.and_eq_true, decide_eq_true_eq] at h
  obtain ⟨⟨⟨⟨⟨h1, h2⟩, h3⟩, h4⟩, h5⟩, h6⟩ := h
  refine ⟨h1, h2, h3, h4, h5, fun hs => ?_⟩
  rw [hs] at h6
  simpa using h6
theorem eg_wset {h : List eg_E} {n : Nat} {x : eg_E} {y : va_E} {H : Heap} (he : y = eg_e (eg_ad u base) tc x) (hP : va_P D vwCl ((eg_w u base tc h).set n (base + n, y)) H) : va_P D vwCl (eg_w u base tc (h.set n x)) H := by
  rw [← eg_w_set, ← he]
  exact hP
theorem eg_push {h : List eg_E} {x : eg_E} {H H1 : Heap} (hP : va_P D vwCl (eg_w u base tc h) H) (hz : H.size = base + h.length) (o1 : ∀ q, q < H.size → H1[q]? = H[q]?) (hx : va_at D vwCl (base + h.length, eg_e (eg_ad u base) tc x) H1) : va_P D vwCl (eg_w u base tc (h ++ [x])) H1 := by
  rw [eg_w_app]
  refine (hP.kept (fun k q hq => o1 q.1 ((hP k q hq).lt))).app (fun k q hq => ?_)
  have hk : k < 1 := (List.getElem?_eq_some_iff.mp hq).1
  rw [show k = 0 by omega] at hq
  cases hq
  exact hx
theorem eg_pushS {H H1 : Heap} {locs : List Loc} (hS : va_S (fun q => base ≤ q) s.heap H locs) (hz : H.size ≤ H1.size) (o1 : ∀ q, q < H.size → H1[q]? = H[q]?) : va_S (fun q => base ≤ q) s.heap H1 locs :=
  ⟨Nat.le_trans hS.1 hz, fun x h1 h2 => (o1 x (Nat.lt_of_lt_of_le h1 hS.1)).trans (hS.2.1 x h1 h2), hS.2.2⟩
theorem eg_app_len (h : List eg_E) (x : eg_E) : (h ++ [x]).length = h.length + 1 := by simp
theorem eg_cats (L : List Value) (h : L.length ≤ 4) : (L.map fun v => v.category).sum ≤ 8 := by
  have key : ∀ L : List Value, (L.map fun v => v.category).sum ≤ 2 * L.length := by
    intro L
    induction L with
    | nil => exact Nat.le_refl _
    | cons v L ih =>
      simp only [List.map_cons, List.sum_cons, List.length_cons]
      have := lv_cat v
      omega
  have := key L
  omega
set_option maxHeartbeats 1000000 in
theorem eg_s_getfield {K : Nat → Nat → Nat → eg_Lo → List Value → List eg_E → Prop} {Q : Option Value → List eg_E → Prop} {N : Nat → Nat → eg_Lo → List Value → List eg_E → Prop} {n0 pc len a b kc ks : Nat} {loc : eg_Lo} {st : List Value} {h : List eg_E} {idx : Nat} (hC : eg_C d p s m args meth c D tc u base) (hn0 : s.heap.size + (eg_rm d).cells = base + n0) (hZ : ∀ t, MQ below (eg_Qc D tc u base n0 Q) args s (eg_rm d).cells (eg_rm d).slots (fun q => base ≤ q) t → Z t) (hK : ∀ pc kc ks loc st h, K pc kc ks loc st h → eg_At d Z p l e s m args below meth c D tc u base pc kc ks loc st h) (hN : ∀ kc ks loc st h, N kc ks loc st h → eg_At d Z p l e s m args below meth c D tc u base (pc + len) kc ks loc st h) (ok : eg_okI d pc len (.getfield idx) a b = true) (hw : eg_stepI (eg_rm d) K Q N pc (.getfield idx) a b kc ks loc st h) : eg_At d Z p l e s m args below meth c D tc u base pc kc ks loc st h := by
  obtain ⟨hx, hb, hr, hml, hown, hts, hlocks, hname, hK0, hX, hNst, hbs, hmk⟩ := id hC
  simp only [eg_okI, eg_dec, Bool.and_eq_true, Bool.or_eq_true, beq_iff_eq, decide_eq_true_eq] at ok
  obtain ⟨⟨rfl, hd⟩, hf⟩ := ok
  obtain ⟨hci, hk, hword⟩ := eg_FL_s hf
  simp only [eg_stepI] at hw
  split at hw
  · rename_i n s9
    split at hw
    · rename_i ci fs hh
      split at hw
      · rename_i v hv
        obtain ⟨rfl, hw⟩ := hw
        intro H locs ls hP hn hS hL hkc hks
        exact va_get (D := D) (ci := ci) (C := (eg_cl ci).1) (T := (eg_cl ci).2.1) (N := (eg_cl ci).2.2) hx hb hts (eg_lays ci hci) hown hK0 hP n (eg_w_get hh) (eg_cl_get hci) b hk (hts _ hword) (fun _ h9 => h9) (v := eg_v (eg_ad u base) v) (by rw [List.getElem?_map, hv]; rfl) hd (hN _ _ _ _ _ hw H locs ls hP hn hS hL hkc hks)
      · exact hw.elim
    · exact hw.elim
  · exact hw.elim
set_option maxHeartbeats 1000000 in
theorem eg_s_putfield {K : Nat → Nat → Nat → eg_Lo → List Value → List eg_E → Prop} {Q : Option Value → List eg_E → Prop} {N : Nat → Nat → eg_Lo → List Value → List eg_E → Prop} {n0 pc len a b kc ks : Nat} {loc : eg_Lo} {st : List Value} {h : List eg_E} {idx : Nat} (hC : eg_C d p s m args meth c D tc u base) (hn0 : s.heap.size + (eg_rm d).cells = base + n0) (hZ : ∀ t, MQ below (eg_Qc D tc u base n0 Q) args s (eg_rm d).cells (eg_rm d).slots (fun q => base ≤ q) t → Z t) (hK : ∀ pc kc ks loc st h, K pc kc ks loc st h → eg_At d Z p l e s m args below meth c D tc u base pc kc ks loc st h) (hN : ∀ kc ks loc st h, N kc ks loc st h → eg_At d Z p l e s m args below meth c D tc u base (pc + len) kc ks loc st h) (ok : eg_okI d pc len (.putfield idx) a b = true) (hw : eg_stepI (eg_rm d) K Q N pc (.putfield idx) a b kc ks loc st h) : eg_At d Z p l e s m args below meth c D tc u base pc kc ks loc st h := by
  obtain ⟨hx, hb, hr, hml, hown, hts, hlocks, hname, hK0, hX, hNst, hbs, hmk⟩ := id hC
  simp only [eg_okI, eg_dec, Bool.and_eq_true, Bool.or_eq_true, beq_iff_eq, decide_eq_true_eq] at ok
  obtain ⟨⟨⟨⟨rfl, hd⟩, hf⟩, hp⟩, hfin⟩ := ok
  obtain ⟨hci, hk, hword⟩ := eg_FL_s hf
  simp only [eg_stepI] at hw
  split at hw
  · rename_i v n s9
    split at hw
    · rename_i ci fs hh
      obtain ⟨rfl, hl, hfit, hw⟩ := hw
      intro H locs ls hP hn hS hL hkc hks
      have hfv := eg_fit_v (f := eg_ad u base) hfit
      have hn2 : base + (h.set n (.inr (ci, fs.set b v))).length = s.heap.size + kc := by rw [List.length_set]; exact hn
      rcases hfin with hfin | ⟨⟨hfin, hst⟩, hcls⟩
      · exact va_put (D := D) (ci := ci) (v := eg_v (eg_ad u base) v) (ty := eg_fty ci b) (C := (eg_cl ci).1) (T := (eg_cl ci).2.1) (N := (eg_cl ci).2.2) hx hb hts (eg_lays ci hci) (eg_fty ci) (eg_types ci hci) (eg_names ci hci) hown hK0 hP eg_wD hS n (eg_w_get hh) (eg_cl_get hci) b hk (hts _ hword) (fun _ h9 => h9) hfin (eg_types ci hci b hk) hfv.1 hfv.2 (by rw [List.length_map]; exact hl) hd (fun H1 locs1 hP1 hD1 hS1 => hN _ _ _ _ _ hw H1 locs1 ls (eg_wset (by show _ = Sum.inr (ci, (fs.set b v).map _); rw [List.map_set]) hP1) hn2 hS1 hL hkc hks)
      · exact va_putF (D := D) (ci := ci) (v := eg_v (eg_ad u base) v) (ty := eg_fty ci b) (C := (eg_cl ci).1) (T := (eg_cl ci).2.1) (N := (eg_cl ci).2.2) hx hb hts (eg_lays ci hci) (eg_fty ci) (eg_types ci hci) (eg_names ci hci) hown hK0 hP eg_wD hS n (eg_w_get hh) (eg_cl_get hci) b hk (hts _ hword) (fun _ h9 => h9) hfin (by rw [hname]; exact (eg_mk_s hmk).2.2.2.2.2 hst) (hcls.trans (eg_mk_s hmk).2.2.2.2.1) (eg_types ci hci b hk) hfv.1 hfv.2 (by rw [List.length_map]; exact hl) hd (fun H1 locs1 hP1 hD1 hS1 => hN _ _ _ _ _ hw H1 locs1 ls (eg_wset (by show _ = Sum.inr (ci, (fs.set b v).map _); rw [List.map_set]) hP1) hn2 hS1 hL hkc hks)
    · exact hw.elim
  · exact hw.elim
set_option maxHeartbeats 1000000 in
theorem eg_s_putstatic {K : Nat → Nat → Nat → eg_Lo → List Value → List eg_E → Prop} {Q : Option Value → List eg_E → Prop} {N : Nat → Nat → eg_Lo → List Value → List eg_E → Prop} {n0 pc len a b kc ks : Nat} {loc : eg_Lo} {st : List Value} {h : List eg_E} {idx : Nat} (hC : eg_C d p s m args meth c D tc u base) (hn0 : s.heap.size + (eg_rm d).cells = base + n0) (hZ : ∀ t, MQ below (eg_Qc D tc u base n0 Q) args s (eg_rm d).cells (eg_rm d).slots (fun q => base ≤ q) t → Z t) (hK : ∀ pc kc ks loc st h, K pc kc ks loc st h → eg_At d Z p l e s m args below meth c D tc u base pc kc ks loc st h) (hN : ∀ kc ks loc st h, N kc ks loc st h → eg_At d Z p l e s m args below meth c D tc u base (pc + len) kc ks loc st h) (ok : eg_okI d pc len (.putstatic idx) a b = true) (hw : eg_stepI (eg_rm d) K Q N pc (.putstatic idx) a b kc ks loc st h) : eg_At d Z p l e s m args below meth c D tc u base pc kc ks loc st h := by
  obtain ⟨hx, hb, hr, hml, hown, hts, hlocks, hname, hK0, hX, hNst, hbs, hmk⟩ := id hC
  simp only [eg_okI, eg_dec, Bool.and_eq_true, Bool.or_eq_true, beq_iff_eq, decide_eq_true_eq] at ok
  obtain ⟨⟨⟨⟨rfl, hd⟩, hf⟩, hp⟩, hfin⟩ := ok
  obtain ⟨hci, hk, hword⟩ := eg_FL_s hf
  simp only [eg_stepI] at hw
  split at hw
  · rename_i v n s9
    split at hw
    · rename_i ci fs hh
      obtain ⟨rfl, hl, hv, hw⟩ := hw
      intro H locs ls hP hn hS hL hkc hks
      have hn2 : base + (h.set n (.inr (ci, fs.set b (.int v)))).length = s.heap.size + kc := by rw [List.length_set]; exact hn
      have hfv : narrow .boolean (.int v) = .int v ∧ fits .boolean (.int v) = true := by rcases hv with rfl | rfl <;> exact ⟨rfl, rfl⟩
      exact va_put (D := D) (ci := ci) (v := .int v) (ty := .boolean) (C := (eg_cl ci).1) (T := (eg_cl ci).2.1) (N := (eg_cl ci).2.2) hx hb hts (eg_lays ci hci) (eg_fty ci) (eg_types ci hci) (eg_names ci hci) hown hK0 hP eg_wD hS n (eg_w_get hh) (eg_cl_get hci) b hk (hts _ hword) (fun _ h9 => h9) hfin (by rw [← hp]; exact eg_types ci hci b hk) hfv.1 hfv.2 (by rw [List.length_map]; exact hl) hd (fun H1 locs1 hP1 hD1 hS1 => hN _ _ _ _ _ hw H1 locs1 ls (eg_wset (by show _ = Sum.inr (ci, (fs.set b (.int v)).map _); rw [List.map_set]; rfl) hP1) hn2 hS1 hL hkc hks)
    · exact hw.elim
  · exact hw.elim
set_option maxHeartbeats 1000000 in
theorem eg_s_getstatic {K : Nat → Nat → Nat → eg_Lo → List Value → List eg_E → Prop} {Q : Option Value → List eg_E → Prop} {N : Nat → Nat → eg_Lo → List Value → List eg_E → Prop} {n0 pc len a b kc ks : Nat} {loc : eg_Lo} {st : List Value} {h : List eg_E} {idx : Nat} (hC : eg_C d p s m args meth c D tc u base) (hn0 : s.heap.size + (eg_rm d).cells = base + n0) (hZ : ∀ t, MQ below (eg_Qc D tc u base n0 Q) args s (eg_rm d).cells (eg_rm d).slots (fun q => base ≤ q) t → Z t) (hK : ∀ pc kc ks loc st h, K pc kc ks loc st h → eg_At d Z p l e s m args below meth c D tc u base pc kc ks loc st h) (hN : ∀ kc ks loc st h, N kc ks loc st h → eg_At d Z p l e s m args below meth c D tc u base (pc + len) kc ks loc st h) (ok : eg_okI d pc len (.getstatic idx) a b = true) (hw : eg_stepI (eg_rm d) K Q N pc (.getstatic idx) a b kc ks loc st h) : eg_At d Z p l e s m args below meth c D tc u base pc kc ks loc st h := by
  obtain ⟨hx, hb, hr, hml, hown, hts, hlocks, hname, hK0, hX, hNst, hbs, hmk⟩ := id hC
  simp only [eg_okI, eg_dec, Bool.and_eq_true, Bool.or_eq_true, beq_iff_eq, decide_eq_true_eq] at ok
  obtain ⟨⟨⟨rfl, hd⟩, rfl⟩, hco⟩ := ok
  simp only [eg_stepI] at hw
  intro H locs ls hP hn hS hL hkc hks
  rw [hco] at hown
  exact va_getsN hx hb hX.2.1 hS hown (va_Nw.use rfl hNst.2.1) (fun _ h9 => h9) hd (hN _ _ _ _ _ hw H locs ls hP hn hS hL hkc hks)
set_option maxHeartbeats 1000000 in
theorem eg_s_arraylength {K : Nat → Nat → Nat → eg_Lo → List Value → List eg_E → Prop} {Q : Option Value → List eg_E → Prop} {N : Nat → Nat → eg_Lo → List Value → List eg_E → Prop} {n0 pc len a b kc ks : Nat} {loc : eg_Lo} {st : List Value} {h : List eg_E}  (hC : eg_C d p s m args meth c D tc u base) (hn0 : s.heap.size + (eg_rm d).cells = base + n0) (hZ : ∀ t, MQ below (eg_Qc D tc u base n0 Q) args s (eg_rm d).cells (eg_rm d).slots (fun q => base ≤ q) t → Z t) (hK : ∀ pc kc ks loc st h, K pc kc ks loc st h → eg_At d Z p l e s m args below meth c D tc u base pc kc ks loc st h) (hN : ∀ kc ks loc st h, N kc ks loc st h → eg_At d Z p l e s m args below meth c D tc u base (pc + len) kc ks loc st h) (ok : eg_okI d pc len .arraylength a b = true) (hw : eg_stepI (eg_rm d) K Q N pc .arraylength a b kc ks loc st h) : eg_At d Z p l e s m args below meth c D tc u base pc kc ks loc st h := by
  obtain ⟨hx, hb, hr, hml, hown, hts, hlocks, hname, hK0, hX, hNst, hbs, hmk⟩ := id hC
  simp only [eg_okI, eg_dec, Bool.and_eq_true, Bool.or_eq_true, beq_iff_eq, decide_eq_true_eq] at ok
  obtain ⟨rfl, hd⟩ := ok
  simp only [eg_stepI] at hw
  split at hw
  · intro H locs ls hP hn hS hL hkc hks
    exact va_slen hx hb hX.2.2 (Nat.lt_of_lt_of_le hX.1 hbs) (Nat.not_le.mpr hX.1) hS hd (hN _ _ _ _ _ hw H locs ls hP hn hS hL hkc hks)
  · rename_i n s9
    split at hw
    · rename_i t k y hh
      obtain ⟨ht, hw⟩ := hw
      intro H locs ls hP hn hS hL hkc hks
      have htl : t < eg_tyl.length := ht
      exact va_alen hx hb hK0 hP n t (eg_w_get hh) (eg_tc (List.getElem?_eq_getElem htl)) (v := Int32.ofNat k) (by rw [eg_a_fst]) hd (hN _ _ _ _ _ hw H locs ls hP hn hS hL hkc hks)
    · exact hw.elim
  · exact hw.elim
set_option maxHeartbeats 1000000 in
theorem eg_s_iaload {K : Nat → Nat → Nat → eg_Lo → List Value → List eg_E → Prop} {Q : Option Value → List eg_E → Prop} {N : Nat → Nat → eg_Lo → List Value → List eg_E → Prop} {n0 pc len a b kc ks : Nat} {loc : eg_Lo} {st : List Value} {h : List eg_E}  (hC : eg_C d p s m args meth c D tc u base) (hn0 : s.heap.size + (eg_rm d).cells = base + n0) (hZ : ∀ t, MQ below (eg_Qc D tc u base n0 Q) args s (eg_rm d).cells (eg_rm d).slots (fun q => base ≤ q) t → Z t) (hK : ∀ pc kc ks loc st h, K pc kc ks loc st h → eg_At d Z p l e s m args below meth c D tc u base pc kc ks loc st h) (hN : ∀ kc ks loc st h, N kc ks loc st h → eg_At d Z p l e s m args below meth c D tc u base (pc + len) kc ks loc st h) (ok : eg_okI d pc len .iaload a b = true) (hw : eg_stepI (eg_rm d) K Q N pc .iaload a b kc ks loc st h) : eg_At d Z p l e s m args below meth c D tc u base pc kc ks loc st h := by
  obtain ⟨hx, hb, hr, hml, hown, hts, hlocks, hname, hK0, hX, hNst, hbs, hmk⟩ := id hC
  simp only [eg_okI, eg_dec, Bool.and_eq_true, Bool.or_eq_true, beq_iff_eq, decide_eq_true_eq] at ok
  obtain ⟨rfl, hd⟩ := ok
  simp only [eg_stepI] at hw
  split at hw
  · rename_i i s9
    intro H locs ls hP hn hS hL hkc hks
    exact va_sld hx hb hX.2.2 (Nat.lt_of_lt_of_le hX.1 hbs) (Nat.not_le.mpr hX.1) hS hw.1 hd (hN _ _ _ _ _ hw.2 H locs ls hP hn hS hL hkc hks)
  · rename_i i n s9
    split at hw
    · rename_i k f hh
      intro H locs ls hP hn hS hL hkc hks
      exact va_iald hx hb hK0 hP n 0 (eg_w_get hh) (eg_tc rfl) hw.1 hd (hN _ _ _ _ _ hw.2 H locs ls hP hn hS hL hkc hks)
    · exact hw.elim
  · exact hw.elim
set_option maxHeartbeats 1000000 in
theorem eg_s_baload {K : Nat → Nat → Nat → eg_Lo → List Value → List eg_E → Prop} {Q : Option Value → List eg_E → Prop} {N : Nat → Nat → eg_Lo → List Value → List eg_E → Prop} {n0 pc len a b kc ks : Nat} {loc : eg_Lo} {st : List Value} {h : List eg_E}  (hC : eg_C d p s m args meth c D tc u base) (hn0 : s.heap.size + (eg_rm d).cells = base + n0) (hZ : ∀ t, MQ below (eg_Qc D tc u base n0 Q) args s (eg_rm d).cells (eg_rm d).slots (fun q => base ≤ q) t → Z t) (hK : ∀ pc kc ks loc st h, K pc kc ks loc st h → eg_At d Z p l e s m args below meth c D tc u base pc kc ks loc st h) (hN : ∀ kc ks loc st h, N kc ks loc st h → eg_At d Z p l e s m args below meth c D tc u base (pc + len) kc ks loc st h) (ok : eg_okI d pc len .baload a b = true) (hw : eg_stepI (eg_rm d) K Q N pc .baload a b kc ks loc st h) : eg_At d Z p l e s m args below meth c D tc u base pc kc ks loc st h := by
  obtain ⟨hx, hb, hr, hml, hown, hts, hlocks, hname, hK0, hX, hNst, hbs, hmk⟩ := id hC
  simp only [eg_okI, eg_dec, Bool.and_eq_true, Bool.or_eq_true, beq_iff_eq, decide_eq_true_eq] at ok
  obtain ⟨rfl, hd⟩ := ok
  simp only [eg_stepI] at hw
  split at hw
  · rename_i i n s9
    split at hw
    · rename_i k f hh
      intro H locs ls hP hn hS hL hkc hks
      exact va_zald hx hb hK0 hP n 2 (eg_w_get hh) (eg_tc rfl) hw.1 hd (hN _ _ _ _ _ hw.2 H locs ls hP hn hS hL hkc hks)
    · exact hw.elim
  · exact hw.elim
set_option maxHeartbeats 1000000 in
theorem eg_s_laload {K : Nat → Nat → Nat → eg_Lo → List Value → List eg_E → Prop} {Q : Option Value → List eg_E → Prop} {N : Nat → Nat → eg_Lo → List Value → List eg_E → Prop} {n0 pc len a b kc ks : Nat} {loc : eg_Lo} {st : List Value} {h : List eg_E}  (hC : eg_C d p s m args meth c D tc u base) (hn0 : s.heap.size + (eg_rm d).cells = base + n0) (hZ : ∀ t, MQ below (eg_Qc D tc u base n0 Q) args s (eg_rm d).cells (eg_rm d).slots (fun q => base ≤ q) t → Z t) (hK : ∀ pc kc ks loc st h, K pc kc ks loc st h → eg_At d Z p l e s m args below meth c D tc u base pc kc ks loc st h) (hN : ∀ kc ks loc st h, N kc ks loc st h → eg_At d Z p l e s m args below meth c D tc u base (pc + len) kc ks loc st h) (ok : eg_okI d pc len .laload a b = true) (hw : eg_stepI (eg_rm d) K Q N pc .laload a b kc ks loc st h) : eg_At d Z p l e s m args below meth c D tc u base pc kc ks loc st h := by
  obtain ⟨hx, hb, hr, hml, hown, hts, hlocks, hname, hK0, hX, hNst, hbs, hmk⟩ := id hC
  simp only [eg_okI, eg_dec, Bool.and_eq_true, Bool.or_eq_true, beq_iff_eq, decide_eq_true_eq] at ok
  obtain ⟨rfl, hd⟩ := ok
  simp only [eg_stepI] at hw
  split at hw
  · rename_i i n s9
    split at hw
    · rename_i k f hh
      intro H locs ls hP hn hS hL hkc hks
      exact va_lald hx hb hK0 hP n 1 (eg_w_get hh) (eg_tc rfl) hw.1 hd (hN _ _ _ _ _ hw.2 H locs ls hP hn hS hL hkc hks)
    · exact hw.elim
  · exact hw.elim
set_option maxHeartbeats 1000000 in
theorem eg_s_daload {K : Nat → Nat → Nat → eg_Lo → List Value → List eg_E → Prop} {Q : Option Value → List eg_E → Prop} {N : Nat → Nat → eg_Lo → List Value → List eg_E → Prop} {n0 pc len a b kc ks : Nat} {loc : eg_Lo} {st : List Value} {h : List eg_E}  (hC : eg_C d p s m args meth c D tc u base) (hn0 : s.heap.size + (eg_rm d).cells = base + n0) (hZ : ∀ t, MQ below (eg_Qc D tc u base n0 Q) args s (eg_rm d).cells (eg_rm d).slots (fun q => base ≤ q) t → Z t) (hK : ∀ pc kc ks loc st h, K pc kc ks loc st h → eg_At d Z p l e s m args below meth c D tc u base pc kc ks loc st h) (hN : ∀ kc ks loc st h, N kc ks loc st h → eg_At d Z p l e s m args below meth c D tc u base (pc + len) kc ks loc st h) (ok : eg_okI d pc len .daload a b = true) (hw : eg_stepI (eg_rm d) K Q N pc .daload a b kc ks loc st h) : eg_At d Z p l e s m args below meth c D tc u base pc kc ks loc st h := by
  obtain ⟨hx, hb, hr, hml, hown, hts, hlocks, hname, hK0, hX, hNst, hbs, hmk⟩ := id hC
  simp only [eg_okI, eg_dec, Bool.and_eq_true, Bool.or_eq_true, beq_iff_eq, decide_eq_true_eq] at ok
  obtain ⟨rfl, hd⟩ := ok
  simp only [eg_stepI] at hw
  split at hw
  · rename_i i n s9
    split at hw
    · rename_i k f hh
      intro H locs ls hP hn hS hL hkc hks
      exact va_dald hx hb hK0 hP n 3 (eg_w_get hh) (eg_tc rfl) hw.1 hd (hN _ _ _ _ _ hw.2 H locs ls hP hn hS hL hkc hks)
    · exact hw.elim
  · exact hw.elim
theorem eg_ty3 {t : Nat} (h1 : 4 ≤ t) (h2 : t < 7) : eg_tyl[t]? = some (.object (eg_cl (eg_tci t)).1) ∧ eg_tci t < 13 := by
  match t, h1, h2 with
  | 4, _, _ => exact ⟨rfl, by decide⟩
  | 5, _, _ => exact ⟨rfl, by decide⟩
  | 6, _, _ => exact ⟨rfl, by decide⟩
set_option maxHeartbeats 1000000 in
theorem eg_s_aaload {K : Nat → Nat → Nat → eg_Lo → List Value → List eg_E → Prop} {Q : Option Value → List eg_E → Prop} {N : Nat → Nat → eg_Lo → List Value → List eg_E → Prop} {n0 pc len a b kc ks : Nat} {loc : eg_Lo} {st : List Value} {h : List eg_E}  (hC : eg_C d p s m args meth c D tc u base) (hn0 : s.heap.size + (eg_rm d).cells = base + n0) (hZ : ∀ t, MQ below (eg_Qc D tc u base n0 Q) args s (eg_rm d).cells (eg_rm d).slots (fun q => base ≤ q) t → Z t) (hK : ∀ pc kc ks loc st h, K pc kc ks loc st h → eg_At d Z p l e s m args below meth c D tc u base pc kc ks loc st h) (hN : ∀ kc ks loc st h, N kc ks loc st h → eg_At d Z p l e s m args below meth c D tc u base (pc + len) kc ks loc st h) (ok : eg_okI d pc len .aaload a b = true) (hw : eg_stepI (eg_rm d) K Q N pc .aaload a b kc ks loc st h) : eg_At d Z p l e s m args below meth c D tc u base pc kc ks loc st h := by
  obtain ⟨hx, hb, hr, hml, hown, hts, hlocks, hname, hK0, hX, hNst, hbs, hmk⟩ := id hC
  simp only [eg_okI, eg_dec, Bool.and_eq_true, Bool.or_eq_true, beq_iff_eq, decide_eq_true_eq] at ok
  obtain ⟨rfl, hd⟩ := ok
  simp only [eg_stepI] at hw
  split at hw
  · rename_i i n s9
    split at hw
    · rename_i t k f hh
      obtain ⟨h1, h2, hin, hw⟩ := hw
      intro H locs ls hP hn hS hL hkc hks
      have hnx := hN _ _ _ _ _ hw H locs ls hP hn hS hL hkc hks
      rw [List.map_cons, eg_rf] at hnx
      exact va_aldq hx hb hK0 hP n t (eg_w_get hh) (eg_tc (eg_ty3 h1 h2).1) hin hd hnx
    · exact hw.elim
  · exact hw.elim
set_option maxHeartbeats 1000000 in
theorem eg_s_iastore {K : Nat → Nat → Nat → eg_Lo → List Value → List eg_E → Prop} {Q : Option Value → List eg_E → Prop} {N : Nat → Nat → eg_Lo → List Value → List eg_E → Prop} {n0 pc len a b kc ks : Nat} {loc : eg_Lo} {st : List Value} {h : List eg_E}  (hC : eg_C d p s m args meth c D tc u base) (hn0 : s.heap.size + (eg_rm d).cells = base + n0) (hZ : ∀ t, MQ below (eg_Qc D tc u base n0 Q) args s (eg_rm d).cells (eg_rm d).slots (fun q => base ≤ q) t → Z t) (hK : ∀ pc kc ks loc st h, K pc kc ks loc st h → eg_At d Z p l e s m args below meth c D tc u base pc kc ks loc st h) (hN : ∀ kc ks loc st h, N kc ks loc st h → eg_At d Z p l e s m args below meth c D tc u base (pc + len) kc ks loc st h) (ok : eg_okI d pc len .iastore a b = true) (hw : eg_stepI (eg_rm d) K Q N pc .iastore a b kc ks loc st h) : eg_At d Z p l e s m args below meth c D tc u base pc kc ks loc st h := by
  obtain ⟨hx, hb, hr, hml, hown, hts, hlocks, hname, hK0, hX, hNst, hbs, hmk⟩ := id hC
  simp only [eg_okI, eg_dec, Bool.and_eq_true, Bool.or_eq_true, beq_iff_eq, decide_eq_true_eq] at ok
  obtain ⟨rfl, hd⟩ := ok
  simp only [eg_stepI] at hw
  split at hw
  · rename_i x i n s9
    split at hw
    · rename_i k f hh
      intro H locs ls hP hn hS hL hkc hks
      have hn2 : base + (h.set n (.inl (0, k, .inl (upd f i.toNatClampNeg x)))).length = s.heap.size + kc := by rw [List.length_set]; exact hn
      exact va_iast hx hb hK0 hP eg_wD hS n 0 (eg_w_get hh) (eg_tc rfl) hw.1 hd (fun H1 locs1 hP1 hD1 hS1 => hN _ _ _ _ _ hw.2 H1 locs1 ls (eg_wset rfl hP1) hn2 hS1 hL hkc hks)
    · exact hw.elim
  · exact hw.elim
set_option maxHeartbeats 1000000 in
theorem eg_s_bastore {K : Nat → Nat → Nat → eg_Lo → List Value → List eg_E → Prop} {Q : Option Value → List eg_E → Prop} {N : Nat → Nat → eg_Lo → List Value → List eg_E → Prop} {n0 pc len a b kc ks : Nat} {loc : eg_Lo} {st : List Value} {h : List eg_E}  (hC : eg_C d p s m args meth c D tc u base) (hn0 : s.heap.size + (eg_rm d).cells = base + n0) (hZ : ∀ t, MQ below (eg_Qc D tc u base n0 Q) args s (eg_rm d).cells (eg_rm d).slots (fun q => base ≤ q) t → Z t) (hK : ∀ pc kc ks loc st h, K pc kc ks loc st h → eg_At d Z p l e s m args below meth c D tc u base pc kc ks loc st h) (hN : ∀ kc ks loc st h, N kc ks loc st h → eg_At d Z p l e s m args below meth c D tc u base (pc + len) kc ks loc st h) (ok : eg_okI d pc len .bastore a b = true) (hw : eg_stepI (eg_rm d) K Q N pc .bastore a b kc ks loc st h) : eg_At d Z p l e s m args below meth c D tc u base pc kc ks loc st h := by
  obtain ⟨hx, hb, hr, hml, hown, hts, hlocks, hname, hK0, hX, hNst, hbs, hmk⟩ := id hC
  simp only [eg_okI, eg_dec, Bool.and_eq_true, Bool.or_eq_true, beq_iff_eq, decide_eq_true_eq] at ok
  obtain ⟨rfl, hd⟩ := ok
  simp only [eg_stepI] at hw
  split at hw
  · rename_i x i n s9
    split at hw
    · rename_i k f hh
      intro H locs ls hP hn hS hL hkc hks
      have hn2 : base + (h.set n (.inl (2, k, .inl (upd f i.toNatClampNeg (vp_nar .boolean x))))).length = s.heap.size + kc := by rw [List.length_set]; exact hn
      exact va_zast hx hb hK0 hP eg_wD hS n 2 (eg_w_get hh) (eg_tc rfl) hw.1 hd (fun H1 locs1 hP1 hD1 hS1 => hN _ _ _ _ _ hw.2 H1 locs1 ls (eg_wset rfl hP1) hn2 hS1 hL hkc hks)
    · exact hw.elim
  · exact hw.elim
set_option maxHeartbeats 1000000 in
theorem eg_s_lastore {K : Nat → Nat → Nat → eg_Lo → List Value → List eg_E → Prop} {Q : Option Value → List eg_E → Prop} {N : Nat → Nat → eg_Lo → List Value → List eg_E → Prop} {n0 pc len a b kc ks : Nat} {loc : eg_Lo} {st : List Value} {h : List eg_E}  (hC : eg_C d p s m args meth c D tc u base) (hn0 : s.heap.size + (eg_rm d).cells = base + n0) (hZ : ∀ t, MQ below (eg_Qc D tc u base n0 Q) args s (eg_rm d).cells (eg_rm d).slots (fun q => base ≤ q) t → Z t) (hK : ∀ pc kc ks loc st h, K pc kc ks loc st h → eg_At d Z p l e s m args below meth c D tc u base pc kc ks loc st h) (hN : ∀ kc ks loc st h, N kc ks loc st h → eg_At d Z p l e s m args below meth c D tc u base (pc + len) kc ks loc st h) (ok : eg_okI d pc len .lastore a b = true) (hw : eg_stepI (eg_rm d) K Q N pc .lastore a b kc ks loc st h) : eg_At d Z p l e s m args below meth c D tc u base pc kc ks loc st h := by
  obtain ⟨hx, hb, hr, hml, hown, hts, hlocks, hname, hK0, hX, hNst, hbs, hmk⟩ := id hC
  simp only [eg_okI, eg_dec, Bool.and_eq_true, Bool.or_eq_true, beq_iff_eq, decide_eq_true_eq] at ok
  obtain ⟨rfl, hd⟩ := ok
  simp only [eg_stepI] at hw
  split at hw
  · rename_i x i n s9
    split at hw
    · rename_i k f hh
      intro H locs ls hP hn hS hL hkc hks
      have hn2 : base + (h.set n (.inl (1, k, .inr (.inl (vp_updL f i.toNatClampNeg x))))).length = s.heap.size + kc := by rw [List.length_set]; exact hn
      exact va_last hx hb hK0 hP eg_wD hS n 1 (eg_w_get hh) (eg_tc rfl) hw.1 hd (fun H1 locs1 hP1 hD1 hS1 => hN _ _ _ _ _ hw.2 H1 locs1 ls (eg_wset rfl hP1) hn2 hS1 hL hkc hks)
    · exact hw.elim
  · exact hw.elim
set_option maxHeartbeats 1000000 in
theorem eg_s_dastore {K : Nat → Nat → Nat → eg_Lo → List Value → List eg_E → Prop} {Q : Option Value → List eg_E → Prop} {N : Nat → Nat → eg_Lo → List Value → List eg_E → Prop} {n0 pc len a b kc ks : Nat} {loc : eg_Lo} {st : List Value} {h : List eg_E}  (hC : eg_C d p s m args meth c D tc u base) (hn0 : s.heap.size + (eg_rm d).cells = base + n0) (hZ : ∀ t, MQ below (eg_Qc D tc u base n0 Q) args s (eg_rm d).cells (eg_rm d).slots (fun q => base ≤ q) t → Z t) (hK : ∀ pc kc ks loc st h, K pc kc ks loc st h → eg_At d Z p l e s m args below meth c D tc u base pc kc ks loc st h) (hN : ∀ kc ks loc st h, N kc ks loc st h → eg_At d Z p l e s m args below meth c D tc u base (pc + len) kc ks loc st h) (ok : eg_okI d pc len .dastore a b = true) (hw : eg_stepI (eg_rm d) K Q N pc .dastore a b kc ks loc st h) : eg_At d Z p l e s m args below meth c D tc u base pc kc ks loc st h := by
  obtain ⟨hx, hb, hr, hml, hown, hts, hlocks, hname, hK0, hX, hNst, hbs, hmk⟩ := id hC
  simp only [eg_okI, eg_dec, Bool.and_eq_true, Bool.or_eq_true, beq_iff_eq, decide_eq_true_eq] at ok
  obtain ⟨rfl, hd⟩ := ok
  simp only [eg_stepI] at hw
  split at hw
  · rename_i x i n s9
    split at hw
    · rename_i k f hh
      intro H locs ls hP hn hS hL hkc hks
      have hn2 : base + (h.set n (.inl (3, k, .inr (.inr (.inr (.inl (vf_upd f i.toNatClampNeg x))))))).length = s.heap.size + kc := by rw [List.length_set]; exact hn
      exact va_dast hx hb hK0 hP eg_wD hS n 3 (eg_w_get hh) (eg_tc rfl) hw.1 hd (fun H1 locs1 hP1 hD1 hS1 => hN _ _ _ _ _ hw.2 H1 locs1 ls (eg_wset rfl hP1) hn2 hS1 hL hkc hks)
    · exact hw.elim
  · exact hw.elim
set_option maxHeartbeats 1000000 in
theorem eg_s_aastore {K : Nat → Nat → Nat → eg_Lo → List Value → List eg_E → Prop} {Q : Option Value → List eg_E → Prop} {N : Nat → Nat → eg_Lo → List Value → List eg_E → Prop} {n0 pc len a b kc ks : Nat} {loc : eg_Lo} {st : List Value} {h : List eg_E}  (hC : eg_C d p s m args meth c D tc u base) (hn0 : s.heap.size + (eg_rm d).cells = base + n0) (hZ : ∀ t, MQ below (eg_Qc D tc u base n0 Q) args s (eg_rm d).cells (eg_rm d).slots (fun q => base ≤ q) t → Z t) (hK : ∀ pc kc ks loc st h, K pc kc ks loc st h → eg_At d Z p l e s m args below meth c D tc u base pc kc ks loc st h) (hN : ∀ kc ks loc st h, N kc ks loc st h → eg_At d Z p l e s m args below meth c D tc u base (pc + len) kc ks loc st h) (ok : eg_okI d pc len .aastore a b = true) (hw : eg_stepI (eg_rm d) K Q N pc .aastore a b kc ks loc st h) : eg_At d Z p l e s m args below meth c D tc u base pc kc ks loc st h := by
  obtain ⟨hx, hb, hr, hml, hown, hts, hlocks, hname, hK0, hX, hNst, hbs, hmk⟩ := id hC
  simp only [eg_okI, eg_dec, Bool.and_eq_true, Bool.or_eq_true, beq_iff_eq, decide_eq_true_eq] at ok
  obtain ⟨rfl, hd⟩ := ok
  simp only [eg_stepI] at hw
  split at hw
  · rename_i v i n s9
    split at hw
    · rename_i t k f ci fs hh hv
      obtain ⟨h1, h2, rfl, hin, hw⟩ := hw
      intro H locs ls hP hn hS hL hkc hks
      have hn2 : base + (h.set n (.inl (t, k, .inr (.inr (.inr (.inr (va_up f i.toNatClampNeg (some (v + 1))))))))).length = s.heap.size + kc := by rw [List.length_set]; exact hn
      exact va_astq hx hb hK0 hP eg_wD hS n t v (eg_tci t) (r := eg_cl (eg_tci t)) (eg_w_get hh) (eg_tc (eg_ty3 h1 h2).1) (eg_w_get hv) (eg_cl_get (eg_ty3 h1 h2).2) hin hd (fun H1 locs1 hP1 hD1 hS1 => hN _ _ _ _ _ hw H1 locs1 ls (eg_wset (by show _ = Sum.inl (tc t, k, Sum.inr (Sum.inr (Sum.inr (Sum.inr (fun j => (va_up f i.toNatClampNeg (some (v + 1)) j).map (eg_ad u base)))))); rw [eg_tup]; rfl) hP1) hn2 hS1 hL hkc hks)
    · exact hw.elim
  · exact hw.elim
set_option maxHeartbeats 1000000 in
theorem eg_s_newarray {K : Nat → Nat → Nat → eg_Lo → List Value → List eg_E → Prop} {Q : Option Value → List eg_E → Prop} {N : Nat → Nat → eg_Lo → List Value → List eg_E → Prop} {n0 pc len a b kc ks : Nat} {loc : eg_Lo} {st : List Value} {h : List eg_E} {t : ArrayType} (hC : eg_C d p s m args meth c D tc u base) (hn0 : s.heap.size + (eg_rm d).cells = base + n0) (hZ : ∀ t, MQ below (eg_Qc D tc u base n0 Q) args s (eg_rm d).cells (eg_rm d).slots (fun q => base ≤ q) t → Z t) (hK : ∀ pc kc ks loc st h, K pc kc ks loc st h → eg_At d Z p l e s m args below meth c D tc u base pc kc ks loc st h) (hN : ∀ kc ks loc st h, N kc ks loc st h → eg_At d Z p l e s m args below meth c D tc u base (pc + len) kc ks loc st h) (ok : eg_okI d pc len (.newarray t) a b = true) (hw : eg_stepI (eg_rm d) K Q N pc (.newarray t) a b kc ks loc st h) : eg_At d Z p l e s m args below meth c D tc u base pc kc ks loc st h := by
  obtain ⟨hx, hb, hr, hml, hown, hts, hlocks, hname, hK0, hX, hNst, hbs, hmk⟩ := id hC
  simp only [eg_okI, eg_dec, Bool.and_eq_true, Bool.or_eq_true, beq_iff_eq, decide_eq_true_eq] at ok
  obtain ⟨⟨⟨rfl, hd⟩, ha⟩, hat⟩ := ok
  simp only [eg_stepI] at hw
  split at hw
  · rename_i n s9
    obtain ⟨hn1, hn2, hc1, hc2, hw⟩ := hw
    intro H locs ls hP hn hS hL hkc hks
    refine eg_size (fun hsz => ?_)
    have hz := eg_sz hP hn hS hsz hbs
    have hac : (Cond.arrayClass (newarray.typeOf t)).before args s = true := by
      subst hat
      match a, ha with
      | 0, _ => exact hts _ eg_ac_int
      | 1, _ => exact hts _ eg_ac_long
      | 2, _ => exact hts _ eg_ac_boolean
      | 3, _ => exact hts _ eg_ac_double
    have hby : n.toNatClampNeg * componentBytes (newarray.typeOf t) ≤ 536870912 := by
      have : componentBytes (newarray.typeOf t) ≤ 8 := by cases t <;> decide
      exact Nat.le_trans (Nat.mul_le_mul hn2 this) (by decide)
    refine va_newaK hx hb hac rfl hd rfl hn1 rfl hby hc1 hc2 hz (fun H1 cA e1 z1 o1 hAr hNm => ?_)
    have hcA : cA = tc a := by
      subst hat
      match a, ha with
      | 0, _ => exact Option.some.inj (hNm.symm.trans (hK0.2 0 _ (eg_tc rfl)).2)
      | 1, _ => exact Option.some.inj (hNm.symm.trans (hK0.2 1 _ (eg_tc rfl)).2)
      | 2, _ => exact Option.some.inj (hNm.symm.trans (hK0.2 2 _ (eg_tc rfl)).2)
      | 3, _ => exact Option.some.inj (hNm.symm.trans (hK0.2 3 _ (eg_tc rfl)).2)
    refine hN _ _ _ _ _ hw H1 locs ls (eg_push hP hz (fun q hq => o1 q (by omega)) ?_) (by rw [eg_app_len]; omega) (eg_pushS hS (by omega) (fun q hq => o1 q (by omega))) hL (by omega) (by omega)
    subst hcA
    subst hat
    match a, ha with
    | 0, _ => exact e1
    | 1, _ => exact e1
    | 2, _ => exact e1
    | 3, _ => exact e1
  · exact hw.elim
set_option maxHeartbeats 1000000 in
theorem eg_s_anewarray {K : Nat → Nat → Nat → eg_Lo → List Value → List eg_E → Prop} {Q : Option Value → List eg_E → Prop} {N : Nat → Nat → eg_Lo → List Value → List eg_E → Prop} {n0 pc len a b kc ks : Nat} {loc : eg_Lo} {st : List Value} {h : List eg_E} {idx : Nat} (hC : eg_C d p s m args meth c D tc u base) (hn0 : s.heap.size + (eg_rm d).cells = base + n0) (hZ : ∀ t, MQ below (eg_Qc D tc u base n0 Q) args s (eg_rm d).cells (eg_rm d).slots (fun q => base ≤ q) t → Z t) (hK : ∀ pc kc ks loc st h, K pc kc ks loc st h → eg_At d Z p l e s m args below meth c D tc u base pc kc ks loc st h) (hN : ∀ kc ks loc st h, N kc ks loc st h → eg_At d Z p l e s m args below meth c D tc u base (pc + len) kc ks loc st h) (ok : eg_okI d pc len (.anewarray idx) a b = true) (hw : eg_stepI (eg_rm d) K Q N pc (.anewarray idx) a b kc ks loc st h) : eg_At d Z p l e s m args below meth c D tc u base pc kc ks loc st h := by
  obtain ⟨hx, hb, hr, hml, hown, hts, hlocks, hname, hK0, hX, hNst, hbs, hmk⟩ := id hC
  simp only [eg_okI, eg_dec, Bool.and_eq_true, Bool.or_eq_true, beq_iff_eq, decide_eq_true_eq] at ok
  obtain ⟨⟨⟨⟨rfl, hd⟩, ha1⟩, ha2⟩, hl⟩ := ok
  simp only [eg_stepI] at hw
  split at hw
  · rename_i n s9
    obtain ⟨hn1, hn2, hc1, hc2, hw⟩ := hw
    intro H locs ls hP hn hS hL hkc hks
    refine eg_size (fun hsz => ?_)
    have hz := eg_sz hP hn hS hsz hbs
    have hao : va_AO (eg_cn (eg_tci a)) s := by
      match a, ha1, ha2 with
      | 4, _, _ => exact hNst.2.2.1
      | 5, _, _ => exact hNst.2.2.2.1
      | 6, _, _ => exact hNst.2.2.2.2
    have hcl := hts _ (eg_NL_w _ (List.mem_map.mpr ⟨_, hl, rfl⟩))
    have hra : va_RA s (tc a) (.object (eg_cn (eg_tci a))) := by
      match a, ha1, ha2 with
      | 4, _, _ => exact (hK0.2 4 _ (eg_tc rfl)).2
      | 5, _, _ => exact (hK0.2 5 _ (eg_tc rfl)).2
      | 6, _, _ => exact (hK0.2 6 _ (eg_tc rfl)).2
    obtain ⟨_, _, _, _, _, g4⟩ := hra
    refine W.anew hx hb hown hcl (va_AO.use hao) rfl hd rfl hn1 (by omega) hc1 hc2 (fun cA kA comp f1 f2 f3 f4 => ?_)
    have hcA : cA = tc a := Option.some.inj (f1.symm.trans g4)
    subst hcA
    have o1 : ∀ q, q < H.size → (H.push ({ cls := tc a, slots := Array.replicate n.toNatClampNeg .null, vm := .none } : Cell))[q]? = H[q]? := fun q hq => by rw [Array.getElem?_push, if_neg (Nat.ne_of_lt hq)]
    have hnx := hN _ _ _ _ _ hw (H.push ({ cls := tc a, slots := Array.replicate n.toNatClampNeg .null, vm := .none } : Cell)) locs ls (eg_push hP hz o1 (by
      show (H.push _)[base + h.length]? = some (vp_cell _ _)
      rw [← hz, Array.getElem?_push_size, arrV_new]
      rfl)) (by rw [eg_app_len]; omega) (eg_pushS hS (by rw [Array.size_push]; omega) o1) hL (by omega) (by omega)
    have e9 : (H.size : Nat) = eg_ad u base (h.length + 1) := hz
    rw [e9]
    exact hnx
  · exact hw.elim
theorem eg_df_v (ci : Nat) (f : Nat → Nat) : ∀ j, j < (eg_cl ci).2.2 → defaultValue (eg_fty ci j) = vp_V ((eg_df ci).map (eg_v f)) j := by
  intro j hj
  unfold vp_V eg_df
  rw [List.getD_eq_getElem?_getD, List.getElem?_map, List.getElem?_map, List.getElem?_range hj]
  show defaultValue (eg_fty ci j) = eg_v f (defaultValue (eg_fty ci j))
  cases eg_fty ci j <;> rfl
set_option maxHeartbeats 1000000 in
theorem eg_s_new {K : Nat → Nat → Nat → eg_Lo → List Value → List eg_E → Prop} {Q : Option Value → List eg_E → Prop} {N : Nat → Nat → eg_Lo → List Value → List eg_E → Prop} {n0 pc len a b kc ks : Nat} {loc : eg_Lo} {st : List Value} {h : List eg_E} {idx : Nat} (hC : eg_C d p s m args meth c D tc u base) (hn0 : s.heap.size + (eg_rm d).cells = base + n0) (hZ : ∀ t, MQ below (eg_Qc D tc u base n0 Q) args s (eg_rm d).cells (eg_rm d).slots (fun q => base ≤ q) t → Z t) (hK : ∀ pc kc ks loc st h, K pc kc ks loc st h → eg_At d Z p l e s m args below meth c D tc u base pc kc ks loc st h) (hN : ∀ kc ks loc st h, N kc ks loc st h → eg_At d Z p l e s m args below meth c D tc u base (pc + len) kc ks loc st h) (ok : eg_okI d pc len (.new idx) a b = true) (hw : eg_stepI (eg_rm d) K Q N pc (.new idx) a b kc ks loc st h) : eg_At d Z p l e s m args below meth c D tc u base pc kc ks loc st h := by
  obtain ⟨hx, hb, hr, hml, hown, hts, hlocks, hname, hK0, hX, hNst, hbs, hmk⟩ := id hC
  simp only [eg_okI, eg_dec, Bool.and_eq_true, Bool.or_eq_true, beq_iff_eq, decide_eq_true_eq] at ok
  obtain ⟨⟨⟨⟨rfl, hd⟩, ha⟩, hl⟩, hb2⟩ := ok
  simp only [eg_stepI] at hw
  obtain ⟨hc1, hc2, hw⟩ := hw
  intro H locs ls hP hn hS hL hkc hks
  refine eg_size (fun hsz => ?_)
  have hz := eg_sz hP hn hS hsz hbs
  have hcl := hts _ (eg_NL_w _ (List.mem_map.mpr ⟨_, hl, rfl⟩))
  have hmem : a ∈ ([0, 1, 2, 3, 4, 5, 6, 7, 8, 9, 10, 11, 12] : List Nat) := by
    match a, ha with
    | 0, _ | 1, _ | 2, _ | 3, _ | 4, _ | 5, _ | 6, _ | 7, _ | 8, _ | 9, _ | 10, _ | 11, _ | 12, _ => decide
  have hins := hts _ (eg_IN_w _ (List.mem_map.mpr ⟨_, hmem, rfl⟩))
  have hini := hts _ (eg_II_w _ (List.mem_map.mpr ⟨_, hmem, rfl⟩))
  have hKn := hK0.1 a _ (eg_cl_get ha)
  have hfc := hKn.2.1
  rw [eg_cn_cl a ha] at hfc
  rw [← hb2] at hins
  refine W.newcK hx hb hown hcl hins hini rfl hd hc1 hc2 hfc hz (fun H1 kC hkC e1 z1 o1 => ?_)
  refine hN _ _ _ _ _ hw H1 locs ls (eg_push hP hz (fun q hq => o1 q (by omega)) ?_) (by rw [eg_app_len]; omega) (eg_pushS hS (by omega) (fun q hq => o1 q (by omega))) hL (by omega) (by omega)
  exact ⟨_, eg_cl_get ha, (u_born (eg_fty a) hts (eg_lays a ha) hKn hkC e1 (eg_types a ha)).to (eg_df_v a (eg_ad u base))⟩
set_option maxHeartbeats 1000000 in
theorem eg_s_athrow {K : Nat → Nat → Nat → eg_Lo → List Value → List eg_E → Prop} {Q : Option Value → List eg_E → Prop} {N : Nat → Nat → eg_Lo → List Value → List eg_E → Prop} {n0 pc len a b kc ks : Nat} {loc : eg_Lo} {st : List Value} {h : List eg_E}  (hC : eg_C d p s m args meth c D tc u base) (hn0 : s.heap.size + (eg_rm d).cells = base + n0) (hZ : ∀ t, MQ below (eg_Qc D tc u base n0 Q) args s (eg_rm d).cells (eg_rm d).slots (fun q => base ≤ q) t → Z t) (hK : ∀ pc kc ks loc st h, K pc kc ks loc st h → eg_At d Z p l e s m args below meth c D tc u base pc kc ks loc st h) (hN : ∀ kc ks loc st h, N kc ks loc st h → eg_At d Z p l e s m args below meth c D tc u base (pc + len) kc ks loc st h) (ok : eg_okI d pc len .athrow a b = true) (hw : eg_stepI (eg_rm d) K Q N pc .athrow a b kc ks loc st h) : eg_At d Z p l e s m args below meth c D tc u base pc kc ks loc st h := by
  obtain ⟨hx, hb, hr, hml, hown, hts, hlocks, hname, hK0, hX, hNst, hbs, hmk⟩ := id hC
  simp only [eg_okI, eg_dec, Bool.and_eq_true, Bool.or_eq_true, beq_iff_eq, decide_eq_true_eq] at ok
  obtain ⟨⟨⟨⟨rfl, hd⟩, hl⟩, hf⟩, hlo⟩ := ok
  simp only [eg_stepI] at hw
  split at hw
  · rename_i n s9
    obtain ⟨h4, hw⟩ := hw
    intro H locs ls hP hn hS hL hkc hks
    have h8 := eg_cats (s9.map (eg_v (eg_ad u base))) (by rw [List.length_map]; exact h4)
    exact W.objInit hx hb hown (hts _ (eg_OL_w _ (List.mem_map.mpr ⟨_, hl, rfl⟩))) (hts _ (eg_oi _ (List.mem_cons_self))) (hts _ (eg_oi _ (List.mem_cons_of_mem _ (List.mem_cons_self)))) rfl (hL.1.trans hml.symm) rfl hd hf (by show 2 * 0 + _ + 12 ≤ _; omega) (hN _ _ _ _ _ hw H locs ls hP hn hS hL hkc hks)
  · exact hw.elim
set_option maxHeartbeats 1000000 in
theorem eg_s_monitorenter {K : Nat → Nat → Nat → eg_Lo → List Value → List eg_E → Prop} {Q : Option Value → List eg_E → Prop} {N : Nat → Nat → eg_Lo → List Value → List eg_E → Prop} {n0 pc len a b kc ks : Nat} {loc : eg_Lo} {st : List Value} {h : List eg_E}  (hC : eg_C d p s m args meth c D tc u base) (hn0 : s.heap.size + (eg_rm d).cells = base + n0) (hZ : ∀ t, MQ below (eg_Qc D tc u base n0 Q) args s (eg_rm d).cells (eg_rm d).slots (fun q => base ≤ q) t → Z t) (hK : ∀ pc kc ks loc st h, K pc kc ks loc st h → eg_At d Z p l e s m args below meth c D tc u base pc kc ks loc st h) (hN : ∀ kc ks loc st h, N kc ks loc st h → eg_At d Z p l e s m args below meth c D tc u base (pc + len) kc ks loc st h) (ok : eg_okI d pc len .monitorenter a b = true) (hw : eg_stepI (eg_rm d) K Q N pc .monitorenter a b kc ks loc st h) : eg_At d Z p l e s m args below meth c D tc u base pc kc ks loc st h := by
  obtain ⟨hx, hb, hr, hml, hown, hts, hlocks, hname, hK0, hX, hNst, hbs, hmk⟩ := id hC
  simp only [eg_okI, eg_dec, Bool.and_eq_true, Bool.or_eq_true, beq_iff_eq, decide_eq_true_eq] at ok
  obtain ⟨⟨⟨⟨rfl, hd⟩, hl⟩, hf⟩, hlo⟩ := ok
  simp only [eg_stepI] at hw
  split at hw
  · rename_i k dp y sp x s9
    split at hw
    · rename_i n0 f n1 g hh0 hh1
      obtain ⟨g1, g2, g3, g4, g5, h4, hw⟩ := hw
      intro H locs ls hP hn hS hL hkc hks
      have h8 := eg_cats (s9.map (eg_v (eg_ad u base))) (by rw [List.length_map]; exact h4)
      have hw7 : nativeFrameWords "java/lang/System" "arraycopy" 5 = 7 := by decide
      have hn2 : base + (h.set y (.inl (0, n1, .inl (va_cpy f g sp.toNatClampNeg dp.toNatClampNeg k.toNatClampNeg)))).length = s.heap.size + kc := by rw [List.length_set]; exact hn
      exact va_copyi hx hb (hml.trans hL.1.symm) hown (hts _ (eg_AL_w _ (List.mem_map.mpr ⟨_, hl, rfl⟩))) (hts _ (eg_an _ (List.mem_of_getElem? (i := 0) rfl))) (hts _ (eg_an _ (List.mem_of_getElem? (i := 1) rfl))) (hts _ (eg_an _ (List.mem_of_getElem? (i := 2) rfl))) hK0 hP eg_wD hS x y 0 0 (eg_w_get hh0) (eg_w_get hh1) (eg_tc rfl) (eg_tc rfl) rfl g1 g2 g3 g4 g5 (fun _ _ => rfl) hf (by omega) hd (fun H1 locs1 hP1 hD1 hS1 => hN _ _ _ _ _ hw H1 locs1 ls (eg_wset rfl hP1) hn2 hS1 hL hkc hks)
    · exact hw.elim
  · exact hw.elim
set_option maxHeartbeats 1000000 in
theorem eg_s_monitorexit {K : Nat → Nat → Nat → eg_Lo → List Value → List eg_E → Prop} {Q : Option Value → List eg_E → Prop} {N : Nat → Nat → eg_Lo → List Value → List eg_E → Prop} {n0 pc len a b kc ks : Nat} {loc : eg_Lo} {st : List Value} {h : List eg_E}  (hC : eg_C d p s m args meth c D tc u base) (hn0 : s.heap.size + (eg_rm d).cells = base + n0) (hZ : ∀ t, MQ below (eg_Qc D tc u base n0 Q) args s (eg_rm d).cells (eg_rm d).slots (fun q => base ≤ q) t → Z t) (hK : ∀ pc kc ks loc st h, K pc kc ks loc st h → eg_At d Z p l e s m args below meth c D tc u base pc kc ks loc st h) (hN : ∀ kc ks loc st h, N kc ks loc st h → eg_At d Z p l e s m args below meth c D tc u base (pc + len) kc ks loc st h) (ok : eg_okI d pc len .monitorexit a b = true) (hw : eg_stepI (eg_rm d) K Q N pc .monitorexit a b kc ks loc st h) : eg_At d Z p l e s m args below meth c D tc u base pc kc ks loc st h := by
  obtain ⟨hx, hb, hr, hml, hown, hts, hlocks, hname, hK0, hX, hNst, hbs, hmk⟩ := id hC
  simp only [eg_okI, eg_dec, Bool.and_eq_true, Bool.or_eq_true, beq_iff_eq, decide_eq_true_eq] at ok
  obtain ⟨⟨⟨⟨rfl, hd⟩, hl⟩, hf⟩, hlo⟩ := ok
  simp only [eg_stepI] at hw
  split at hw
  · rename_i k dp y sp x s9
    split at hw
    · rename_i n0 f n1 g hh0 hh1
      obtain ⟨g1, g2, g3, g4, g5, h4, hw⟩ := hw
      intro H locs ls hP hn hS hL hkc hks
      have h8 := eg_cats (s9.map (eg_v (eg_ad u base))) (by rw [List.length_map]; exact h4)
      have hw7 : nativeFrameWords "java/lang/System" "arraycopy" 5 = 7 := by decide
      have hn2 : base + (h.set y (.inl (1, n1, .inr (.inl (va_cpy f g sp.toNatClampNeg dp.toNatClampNeg k.toNatClampNeg))))).length = s.heap.size + kc := by rw [List.length_set]; exact hn
      exact va_copyl hx hb (hml.trans hL.1.symm) hown (hts _ (eg_AL_w _ (List.mem_map.mpr ⟨_, hl, rfl⟩))) (hts _ (eg_an _ (List.mem_of_getElem? (i := 0) rfl))) (hts _ (eg_an _ (List.mem_of_getElem? (i := 1) rfl))) (hts _ (eg_an _ (List.mem_of_getElem? (i := 2) rfl))) hK0 hP eg_wD hS x y 1 1 (eg_w_get hh0) (eg_w_get hh1) (eg_tc rfl) (eg_tc rfl) rfl g1 g2 g3 g4 g5 (fun _ _ => rfl) hf (by omega) hd (fun H1 locs1 hP1 hD1 hS1 => hN _ _ _ _ _ hw H1 locs1 ls (eg_wset rfl hP1) hn2 hS1 hL hkc hks)
    · exact hw.elim
  · exact hw.elim
set_option maxHeartbeats 1000000 in
theorem eg_s_ireturn {K : Nat → Nat → Nat → eg_Lo → List Value → List eg_E → Prop} {Q : Option Value → List eg_E → Prop} {N : Nat → Nat → eg_Lo → List Value → List eg_E → Prop} {n0 pc len a b kc ks : Nat} {loc : eg_Lo} {st : List Value} {h : List eg_E}  (hC : eg_C d p s m args meth c D tc u base) (hn0 : s.heap.size + (eg_rm d).cells = base + n0) (hZ : ∀ t, MQ below (eg_Qc D tc u base n0 Q) args s (eg_rm d).cells (eg_rm d).slots (fun q => base ≤ q) t → Z t) (hK : ∀ pc kc ks loc st h, K pc kc ks loc st h → eg_At d Z p l e s m args below meth c D tc u base pc kc ks loc st h) (hN : ∀ kc ks loc st h, N kc ks loc st h → eg_At d Z p l e s m args below meth c D tc u base (pc + len) kc ks loc st h) (ok : eg_okI d pc len .ireturn a b = true) (hw : eg_stepI (eg_rm d) K Q N pc .ireturn a b kc ks loc st h) : eg_At d Z p l e s m args below meth c D tc u base pc kc ks loc st h := by
  obtain ⟨hx, hb, hr, hml, hown, hts, hlocks, hname, hK0, hX, hNst, hbs, hmk⟩ := id hC
  simp only [eg_okI, eg_dec, Bool.and_eq_true, Bool.or_eq_true, beq_iff_eq, decide_eq_true_eq] at ok
  obtain ⟨⟨rfl, hd⟩, hty⟩ := ok
  simp only [eg_stepI] at hw
  split at hw
  · rename_i v
    obtain ⟨hkc2, hv, hq⟩ := hw
    intro H locs ls hP hn hS hL hkc hks
    refine eg_mono hZ ?_
    refine W.widen (k := (eg_rm d).cells) (n := (eg_rm d).slots) hkc hks ?_
    rcases hty with ⟨hb0, hty⟩ | ⟨hb1, hty⟩
    · rw [hty] at hr
      exact W.iret (v := v) hx hb hr (fun t ht hW => ⟨⟨some (.int v), h, rfl, hq, by rw [ht]; exact hP, by omega⟩, hS.F ht⟩) hS.2.2 hd hlocks
    · rw [hty] at hr
      have hv2 : narrow .boolean (.int v) = .int v := by rcases hv hb1 with rfl | rfl <;> rfl
      exact W.zret (v := v) hx hb hr hv2 (fun t ht hW => ⟨⟨some (.int v), h, rfl, hq, by rw [ht]; exact hP, by omega⟩, hS.F ht⟩) hS.2.2 hd hlocks
  · exact hw.elim
set_option maxHeartbeats 1000000 in
theorem eg_s_lreturn {K : Nat → Nat → Nat → eg_Lo → List Value → List eg_E → Prop} {Q : Option Value → List eg_E → Prop} {N : Nat → Nat → eg_Lo → List Value → List eg_E → Prop} {n0 pc len a b kc ks : Nat} {loc : eg_Lo} {st : List Value} {h : List eg_E}  (hC : eg_C d p s m args meth c D tc u base) (hn0 : s.heap.size + (eg_rm d).cells = base + n0) (hZ : ∀ t, MQ below (eg_Qc D tc u base n0 Q) args s (eg_rm d).cells (eg_rm d).slots (fun q => base ≤ q) t → Z t) (hK : ∀ pc kc ks loc st h, K pc kc ks loc st h → eg_At d Z p l e s m args below meth c D tc u base pc kc ks loc st h) (hN : ∀ kc ks loc st h, N kc ks loc st h → eg_At d Z p l e s m args below meth c D tc u base (pc + len) kc ks loc st h) (ok : eg_okI d pc len .lreturn a b = true) (hw : eg_stepI (eg_rm d) K Q N pc .lreturn a b kc ks loc st h) : eg_At d Z p l e s m args below meth c D tc u base pc kc ks loc st h := by
  obtain ⟨hx, hb, hr, hml, hown, hts, hlocks, hname, hK0, hX, hNst, hbs, hmk⟩ := id hC
  simp only [eg_okI, eg_dec, Bool.and_eq_true, Bool.or_eq_true, beq_iff_eq, decide_eq_true_eq] at ok
  obtain ⟨⟨rfl, hd⟩, hty⟩ := ok
  simp only [eg_stepI] at hw
  split at hw
  · rename_i v
    obtain ⟨hkc2, hq⟩ := hw
    intro H locs ls hP hn hS hL hkc hks
    refine eg_mono hZ ?_
    refine W.widen (k := (eg_rm d).cells) (n := (eg_rm d).slots) hkc hks ?_
    rw [hty] at hr
    exact W.lret (v := v) hx hb hr (fun t ht hW => ⟨⟨some (.long v), h, rfl, hq, by rw [ht]; exact hP, by omega⟩, hS.F ht⟩) hS.2.2 hd hlocks
  · exact hw.elim
set_option maxHeartbeats 1000000 in
theorem eg_s_return_ {K : Nat → Nat → Nat → eg_Lo → List Value → List eg_E → Prop} {Q : Option Value → List eg_E → Prop} {N : Nat → Nat → eg_Lo → List Value → List eg_E → Prop} {n0 pc len a b kc ks : Nat} {loc : eg_Lo} {st : List Value} {h : List eg_E}  (hC : eg_C d p s m args meth c D tc u base) (hn0 : s.heap.size + (eg_rm d).cells = base + n0) (hZ : ∀ t, MQ below (eg_Qc D tc u base n0 Q) args s (eg_rm d).cells (eg_rm d).slots (fun q => base ≤ q) t → Z t) (hK : ∀ pc kc ks loc st h, K pc kc ks loc st h → eg_At d Z p l e s m args below meth c D tc u base pc kc ks loc st h) (hN : ∀ kc ks loc st h, N kc ks loc st h → eg_At d Z p l e s m args below meth c D tc u base (pc + len) kc ks loc st h) (ok : eg_okI d pc len .return_ a b = true) (hw : eg_stepI (eg_rm d) K Q N pc .return_ a b kc ks loc st h) : eg_At d Z p l e s m args below meth c D tc u base pc kc ks loc st h := by
  obtain ⟨hx, hb, hr, hml, hown, hts, hlocks, hname, hK0, hX, hNst, hbs, hmk⟩ := id hC
  simp only [eg_okI, eg_dec, Bool.and_eq_true, Bool.or_eq_true, beq_iff_eq, decide_eq_true_eq] at ok
  obtain ⟨⟨rfl, hd⟩, hty⟩ := ok
  simp only [eg_stepI] at hw
  split at hw
  · obtain ⟨hkc2, hq⟩ := hw
    intro H locs ls hP hn hS hL hkc hks
    refine eg_mono hZ ?_
    refine W.widen (k := (eg_rm d).cells) (n := (eg_rm d).slots) hkc hks ?_
    rw [hty] at hr
    exact W.vret hx hb hr (fun t ht hW => ⟨⟨none, h, rfl, hq, by rw [ht]; exact hP, by omega⟩, hS.F ht⟩) hS.2.2 hd hlocks
  · exact hw.elim
end EgS2
