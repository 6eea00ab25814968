/-! THE LAW: from its entry -/
section LStart
variable {Z : State → Prop} {p : Program} {l : Launch} {e : Env} {s : State} {m : MethodId} {below : List Frame} {meth : Method} {c : Code} {D : va_G} {tc : Nat → ClassId} {u : Nat}
/-- an object made -/
theorem L_new {b L : Nat} {xs : Nat → Int32} (hC : LC p s m meth c b L xs D tc u) {pc idx ci kc ks : Nat} {h : List eg_E} {H : Heap} {locs : List Loc} {ls : Array Slot} {st : List Value} {d0 : Drawn} (hci : ci < 13) (hcl : Cond.classLink R_law idx (eg_cl ci).1 ∈ lw_tbl) (hin : Cond.initialized (eg_cl ci).1 ∈ lw_tbl) (hd : decode code pc = .ok (.new idx, 3)) (hc1 : kc + 1 ≤ room_1.cells) (hc2 : ks + (eg_cl ci).2.2 ≤ room_1.slots)
    (hP : va_P D vwCl (eg_w u s.heap.size tc h) H) (hz : H.size = s.heap.size + h.length) (hS : va_S (fun q => s.heap.size ≤ q) s.heap H locs)
    (kk : ∀ H1 : Heap, va_P D vwCl (eg_w u s.heap.size tc (h ++ [.inr (ci, eg_df ci)])) H1 → H1.size = s.heap.size + (h ++ [(.inr (ci, eg_df ci) : eg_E)]).length → va_S (fun q => s.heap.size ≤ q) s.heap H1 locs → W p l e room_1 (s.setDrawn d0) m #[Value.ref b] below meth c H1 locs (kc + 1) (ks + (eg_cl ci).2.2) Z (F0 m (pc + 3) ls (.ref (s.heap.size + h.length) :: st))) : W p l e room_1 (s.setDrawn d0) m #[Value.ref b] below meth c H locs kc ks Z (F0 m pc ls st) := by
  obtain ⟨⟨hx, hb, hr, hml, hown, hts, hXs, hbl, hlocks, hgv⟩, hK0, hX, hNst⟩ := id hC
  have htd := dr_words hts d0
  have hte : ∀ w ∈ eg_tbl, w.before #[Value.ref b] (s.setDrawn d0) = true := fun w hw => htd w (List.mem_filter.mp hw).1
  have hK1 : va_K D vwCl (eg_tys tc) (s.setDrawn d0) := hK0
  have hKn := hK1.1 ci _ (eg_cl_get hci)
  have hown1 : (s.setDrawn d0).vm.findClass R_law = some m.cls := hown
  refine W.newcK hx hb hown1 (htd _ hcl) (htd _ (inst_in hci)) (htd _ hin) rfl hd hc1 hc2 hKn.2.1 hz (fun H1 kC hkC e1 z1 o1 => ?_)
  refine kk H1 (eg_push hP hz (fun q hq => o1 q (by omega)) ?_) (by rw [eg_app_len]; omega) (eg_pushS hS (by omega) (fun q hq => o1 q (by omega)))
  exact ⟨_, eg_cl_get hci, (u_born (eg_fty ci) hte (eg_lays ci hci) hKn hkC e1 (eg_types ci hci)).to (eg_df_v ci (eg_ad u s.heap.size))⟩
/-- what a program checks of a constructor's call -/
def lawI (n idx pc : Nat) : Prop := eg_np (eg_md n) = 0 ∧ eg_st (eg_md n) = 2 ∧ eg_rt (eg_md n) = none ∧ ((eg_rm (eg_md n)).frames + 1 ≤ room_1.frames ∧ 8 + (eg_ml (eg_md n) + 11) + (eg_rm (eg_md n)).locals ≤ room_1.locals) ∧ decode code pc = .ok (.invokespecial idx, 3)
set_option maxHeartbeats 2000000 in
theorem L_callI {b L : Nat} {xs : Nat → Int32} (hC : LC p s m meth c b L xs D tc u) {n idx k pc kc ks : Nat} {h : List eg_E} {P : Option Value → List eg_E → Prop} {H : Heap} {locs : List Loc} {ls : Array Slot} {rest : List Value} {d0 : Drawn} (hd0 : s.drawn.sameBut d0 lw_cs)
    (hM : eg_RunsD n [.ref (k + 1)] h P) (hn : n < 202) (hc : lawI n idx pc) (hlk : Cond.methodLink R_law idx (eg_y (eg_md n)) ∈ lw_tbl)
    (hP : va_P D vwCl (eg_w u s.heap.size tc h) H) (hz : H.size = s.heap.size + h.length) (hS : va_S (fun q => s.heap.size ≤ q) s.heap H locs) (hls : ls.size = 4) (hcat : (rest.map fun v => v.category).sum ≤ 8) (hkc : kc + (eg_rm (eg_md n)).cells ≤ room_1.cells) (hks : ks + (eg_rm (eg_md n)).slots ≤ room_1.slots)
    (kk : ∀ (r : Option Value) (h' : List eg_E) (H1 : Heap) (locs1 : List Loc) (d1 : Drawn), s.drawn.sameBut d1 lw_cs → P r h' → va_P D vwCl (eg_w u s.heap.size tc h') H1 → h'.length = h.length + (eg_rm (eg_md n)).cells → va_S (fun q => s.heap.size ≤ q) s.heap H1 locs1 → W p l e room_1 (s.setDrawn d1) m #[Value.ref b] below meth c H1 locs1 (kc + (eg_rm (eg_md n)).cells) (ks + (eg_rm (eg_md n)).slots) Z (F0 m (pc + 3) ls ((r.map (eg_v (eg_ad u s.heap.size))).toList ++ rest))) : W p l e room_1 (s.setDrawn d0) m #[Value.ref b] below meth c H locs kc ks Z (F0 m pc ls (.ref (s.heap.size + k) :: rest)) := by
  obtain ⟨⟨hx, hb, hr, hml, hown, hts, hXs, hbl, hlocks, hgv⟩, hK0, hX, hNst⟩ := id hC
  obtain ⟨hnp, hst, hrt, hfl, hd⟩ := hc
  have htd := dr_words hts d0
  have hte : ∀ w ∈ eg_tbl, w.before #[Value.ref b] (s.setDrawn d0) = true := fun w hw => htd w (List.mem_filter.mp hw).1
  have hmem := eg_md_in hn
  have hcd := eg_ML_c _ hmem
  have hmw := eg_ML_w _ hmem
  obtain ⟨k1, k2, k3, k4, k5, k6⟩ := eg_mk_s (eg_ML_k _ hmem)
  have hini := hte _ (hmw _ (List.mem_cons_self))
  have hG : GoodIn eg_tbl (eg_ws (eg_md n)) := eg_gd hcd
  have hfix : CallFix p m c code 4 (s.setDrawn d0) #[Value.ref b] eg_tbl R_law := ⟨hx, hb, hml, hown, hte⟩
  have hsw : Cond.instanceMethod (eg_y (eg_md n)) ∈ eg_mw (eg_md n) := by
    unfold eg_mw
    rw [hst]
    exact List.mem_cons_of_mem _ List.mem_cons_self
  rw [hnp] at k4
  exact eg_contD hd0 (va_runI_D (b := s.heap.size + k) (As := []) (rest := rest) (index := idx) hfix (hM l D tc u s.heap.size) ⟨callB_of 0 hte hG (by unfold eg_ws eg_cdw; rw [hrt]) rfl rfl hini (htd _ hlk) ⟨k2, k3, k4⟩ hfl, k6 hst, hte _ (hmw _ hsw)⟩ ⟨eg_blind _ _, fun U hU hW => ⟨rfl, L_pre hC hP hz hS U hU hW⟩⟩ rfl rfl hls rfl (lv_room hcat) hd ⟨hkc, hks⟩) hS kk
theorem dlw_0 : decode code 0 = .ok (.new 7, 3) := by decide +kernel
theorem dlw_3 : decode code 3 = .ok (.dup, 1) := by decide +kernel
theorem dlw_7 : decode code 7 = .ok (.astore_n 1, 1) := by decide +kernel
theorem dlw_8 : decode code 8 = .ok (.new 10, 3) := by decide +kernel
theorem dlw_11 : decode code 11 = .ok (.dup, 1) := by decide +kernel
theorem dlw_15 : decode code 15 = .ok (.astore_n 2, 1) := by decide +kernel
theorem dlw_16 : decode code 16 = .ok (.iconst 0, 1) := by decide +kernel
theorem dlw_17 : decode code 17 = .ok (.istore_n 3, 1) := by decide +kernel
set_option maxHeartbeats 4000000 in
/-- THE LAW, from its entry -/
theorem whole_start (l : Launch) (_ : l.flags = flags0) {b L : Nat} {xs : Nat → Int32} (hL : L ≤ 3584) (C0 : lw_At p s m meth c b L xs) : W p l e room_1 s m #[Value.ref b] below meth c s.heap [] 0 0 (lw_Z below #[Value.ref b] s) (entryFrame m ([Value.ref b] : List Value).toArray 4) := by
  obtain ⟨D, tc, u, hC⟩ := LC_of C0
  have hx := C0.1
  have hb := C0.2.1
  have hl := lv_entry ([.ref b]) (n := 4) (Nat.le_of_ble_eq_true rfl)
  rw [lg_entry_eq]
  generalize (lg_sl ([.ref b]) ++ List.replicate (4 - (lg_sl ([.ref b])).length) Slot.unset).toArray = ls at hl ⊢
  have hl : lv_has ls 4 [(0, .ref b)] := hl
  refine W.base ?_
  have hd0 := Drawn.sameBut.refl s.drawn lw_cs
  have hS0 : va_S (fun q : Nat => s.heap.size ≤ q) s.heap s.heap [] := va_S.rf
  have hP0 : va_P D vwCl (eg_w u s.heap.size tc []) s.heap := fun k q h => by cases h
  refine L_new (ci := 11) (h := []) hC (by decide) (by decide +kernel) (by decide +kernel) dlw_0 (Nat.le_of_ble_eq_true rfl) (Nat.le_of_ble_eq_true rfl) hP0 rfl hS0 (fun H1 hP1 hz1 hS1 => ?_)
  refine lv_dup hx hb dlw_3 rfl ?_
  refine L_callI (n := n_X_init) (idx := 9) (k := 0) (h := [.inr (11, eg_df 11)]) hC hd0 (eg_RunsD_of (i_X (fun r h' => r = none ∧ h' = WX S00 []) ⟨rfl, rfl⟩)) (Nat.le_of_ble_eq_true rfl) (by unfold lawI; decide +kernel) (by decide +kernel) hP1 hz1 hS1 hl.1 (Nat.le_of_ble_eq_true rfl) (Nat.le_of_ble_eq_true rfl) (Nat.le_of_ble_eq_true rfl) (fun r h' H2 locs2 d2 hd2 hr hP2 hlen2 hS2 => ?_)
  obtain ⟨rfl, rfl⟩ := hr
  refine W.widen (k := 95) (n := 1000) (Nat.le_of_ble_eq_true rfl) (Nat.le_of_ble_eq_true rfl) ?_
  refine eg_size (fun hsz => ?_)
  have hz2 : H2.size = s.heap.size + 95 := eg_sz (s := s) (kc := 95) hP2 rfl hS2 hsz (Nat.le_refl _)
  refine lv_astore_n (lv' := [(1, .ref s.heap.size), (0, .ref b)]) hx hb dlw_7 rfl hl (by decide) rfl (fun ls hl => ?_)
  refine L_new (ci := 12) (h := WX S00 []) hC (by decide) (by decide +kernel) (by decide +kernel) dlw_8 (Nat.le_of_ble_eq_true rfl) (Nat.le_of_ble_eq_true rfl) hP2 hz2 hS2 (fun H3 hP3 hz3 hS3 => ?_)
  refine lv_dup hx hb dlw_11 rfl ?_
  refine L_callI (n := n_M_init) (idx := 12) (k := 95) (h := WX S00 [.inr (12, eg_df 12)]) hC hd2 (eg_RunsD_of (i_M (fun r h' => r = none ∧ h' = WX S00 (WM T00)) ⟨rfl, rfl⟩)) (Nat.le_of_ble_eq_true rfl) (by unfold lawI; decide +kernel) (by decide +kernel) hP3 hz3 hS3 hl.1 (Nat.le_of_ble_eq_true rfl) (Nat.le_of_ble_eq_true rfl) (Nat.le_of_ble_eq_true rfl) (fun r h' H4 locs4 d4 hd4 hr hP4 hlen4 hS4 => ?_)
  obtain ⟨rfl, rfl⟩ := hr
  refine W.widen (k := 122) (n := 3000) (Nat.le_of_ble_eq_true rfl) (Nat.le_of_ble_eq_true rfl) ?_
  refine eg_size (fun hsz => ?_)
  have hz4 : H4.size = s.heap.size + 122 := eg_sz (s := s) (kc := 122) hP4 rfl hS4 hsz (Nat.le_refl _)
  refine lv_astore_n (lv' := [(2, .ref (s.heap.size + 95)), (1, .ref s.heap.size), (0, .ref b)]) hx hb dlw_15 rfl hl (by decide) rfl (fun ls hl => ?_)
  refine lv_iconst (v := 0) hx hb dlw_16 (by decide) ?_
  refine lv_istore_n (lv' := [(3, .int 0), (2, .ref (s.heap.size + 95)), (1, .ref s.heap.size), (0, .ref b)]) hx hb dlw_17 rfl hl (by decide) rfl (fun ls hl => ?_)
  have hl : lv_has ls 4 (lvL s b 0) := hl
  exact law_loop hC hL (ks := 3000) (Nat.le_of_ble_eq_true rfl) (L + 8) 0 S00 T00 (Nat.zero_le _) (by omega) Rel00 d4 H4 locs4 ls hd4 hP4 hz4 hS4 hl
end LStart
