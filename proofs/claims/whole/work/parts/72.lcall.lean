/-! THE LAW: its calls -/
section LCall
variable {Z : State → Prop} {p : Program} {l : Launch} {e : Env} {s : State} {m : MethodId} {args : Array Value} {below : List Frame} {meth : Method} {c : Code} {D : va_G} {tc : Nat → ClassId} {u base : Nat}
theorem eg_contD {R : Room} {H : Heap} {locs : List Loc} {cells slots mc ms n0 pc : Nat} {ls : Array Slot} {st0 rest : List Value} {P : Option Value → List eg_E → Prop} {a : Array Value} {d0 : Drawn} (hd0 : s.drawn.sameBut d0 lw_cs) (hr : va_RunD lw_cs p l e R (s.setDrawn d0) m args below meth c H locs cells slots mc ms (F0 m pc ls st0) rest (eg_Qc D tc u base n0 P a) (fun q => base ≤ q)) (hS : va_S (fun q => base ≤ q) s.heap H locs)
    (kk : ∀ (r : Option Value) (h' : List eg_E) (H1 : Heap) (locs1 : List Loc) (d1 : Drawn), s.drawn.sameBut d1 lw_cs → P r h' → va_P D vwCl (eg_w u base tc h') H1 → h'.length = n0 → va_S (fun q => base ≤ q) s.heap H1 locs1 → W p l e R (s.setDrawn d1) m args below meth c H1 locs1 (cells + mc) (slots + ms) Z (F0 m (pc + 3) ls ((r.map (eg_v (eg_ad u base))).toList ++ rest))) : W p l e R (s.setDrawn d0) m args below meth c H locs cells slots Z (F0 m pc ls st0) := by
  intro T hT X
  obtain ⟨v, st₀, t, T', L, d', hd', h0, X', hL, e1, e2, ⟨⟨r, h', hv, hp, hP, hlen⟩, hz, hk⟩, st⟩ := hr T hT X
  cases hv
  rw [h0] at hz hk
  obtain ⟨t2, a1, b1⟩ := kk r h' T'.heap (locs ++ L) d' (Drawn.sameBut.trans hd0 hd') hp (by rw [e1]; exact hP) hlen
    ⟨Nat.le_trans hS.1 (by rw [e1]; exact hz), fun q h1 h2 => by rw [e1, hk q (Nat.lt_of_lt_of_le h1 hS.1) h2]; exact hS.2.1 q h1 h2, fun q hq => by
      rcases List.mem_append.mp hq with h | h
      · exact hS.2.2 q h
      · exact hL q h⟩ T' rfl X'
  exact ⟨t2, st t2 a1, b1⟩
/-- what holds all through the law -/
def LC (p : Program) (s : State) (m : MethodId) (meth : Method) (c : Code) (b L : Nat) (xs : Nat → Int32) (D : va_G) (tc : Nat → ClassId) (u : Nat) : Prop := lw_At p s m meth c b L xs ∧ va_K D vwCl (eg_tys tc) s ∧ eg_X u s.heap.size s ∧ eg_N s
theorem LC_of {b L : Nat} {xs : Nat → Int32} (h : lw_At p s m meth c b L xs) : ∃ D tc u, LC p s m meth c b L xs D tc u := by
  obtain ⟨hx, hb, hr, hml, hown, hts, hX, hbl, hlocks, hgv⟩ := id h
  obtain ⟨D, tc, hK⟩ := law_K hts
  obtain ⟨u, hu⟩ := law_X hts hgv
  exact ⟨D, tc, u, h, hK, hu, law_N hts⟩
theorem L_pre {b L : Nat} {xs : Nat → Int32} (hC : LC p s m meth c b L xs D tc u) {H : Heap} {h : List eg_E} {locs : List Loc} (hP : va_P D vwCl (eg_w u s.heap.size tc h) H) (hz : H.size = s.heap.size + h.length) (hS : va_S (fun q => s.heap.size ≤ q) s.heap H locs) {d0 : Drawn} (U : State) (hU : U.heap = H) (hW : (s.setDrawn d0).WarmedH U.vm) : eg_Pre D tc u s.heap.size h U := by
  obtain ⟨-, hK0, hX, hNst⟩ := hC
  refine ⟨⟨by rw [hU]; exact hP, by rw [hU]; exact hz⟩, va_K.moved hW.alike hK0, eg_X_move (s := s.setDrawn d0) (Nat.le_refl _) hW (by rw [hU]; exact hS) hX, eg_N_warm (s := s.setDrawn d0) hW hNst⟩
set_option maxHeartbeats 2000000 in
/-- a call of one of the two objects -/
theorem L_callV {b L : Nat} {xs : Nat → Int32} (hC : LC p s m meth c b L xs D tc u) {n idx k ci pc kc ks : Nat} {h : List eg_E} {as : List Value} {fs : List Value} {P : Option Value → List eg_E → Prop} {H : Heap} {locs : List Loc} {ls : Array Slot} {rest : List Value} {d0 : Drawn} (hd0 : s.drawn.sameBut d0 lw_cs)
    (hM : eg_RunsD n (.ref (k + 1) :: as) h P) (hn : n < 202) (hnp : eg_np (eg_md n) = as.length) (hco : eg_co (eg_md n) = ci) (hci : ci < 13) (hst : eg_st (eg_md n) = 1) (hcs : (eg_rm (eg_md n)).cells = 0 ∧ (eg_rm (eg_md n)).slots = 0) (hfl : (eg_rm (eg_md n)).frames + 1 ≤ room_1.frames ∧ 8 + (eg_ml (eg_md n) + 11) + (eg_rm (eg_md n)).locals ≤ room_1.locals) (hlk : Cond.methodLink R_law idx (eg_y (eg_md n)) ∈ lw_tbl) (hd : decode code pc = .ok (.invokevirtual idx, 3)) (hh : h[k]? = some (.inr (ci, fs)))
    (hP : va_P D vwCl (eg_w u s.heap.size tc h) H) (hz : H.size = s.heap.size + h.length) (hS : va_S (fun q => s.heap.size ≤ q) s.heap H locs) (hls : ls.size = 4) (hcat : (rest.map fun v => v.category).sum ≤ 8) (hkc : kc ≤ room_1.cells) (hks : ks ≤ room_1.slots)
    (kk : ∀ (r : Option Value) (h' : List eg_E) (H1 : Heap) (locs1 : List Loc) (d1 : Drawn), s.drawn.sameBut d1 lw_cs → P r h' → va_P D vwCl (eg_w u s.heap.size tc h') H1 → h'.length = h.length → va_S (fun q => s.heap.size ≤ q) s.heap H1 locs1 → W p l e room_1 (s.setDrawn d1) m #[Value.ref b] below meth c H1 locs1 kc ks Z (F0 m (pc + 3) ls ((r.map (eg_v (eg_ad u s.heap.size))).toList ++ rest))) : W p l e room_1 (s.setDrawn d0) m #[Value.ref b] below meth c H locs kc ks Z (F0 m pc ls ((as.map (eg_v (eg_ad u s.heap.size))).reverse ++ .ref (s.heap.size + k) :: rest)) := by
  obtain ⟨⟨hx, hb, hr, hml, hown, hts, hXs, hbl, hlocks, hgv⟩, hK0, hX, hNst⟩ := id hC
  have htd := dr_words hts d0
  have hte : ∀ w ∈ eg_tbl, w.before #[Value.ref b] (s.setDrawn d0) = true := fun w hw => htd w (List.mem_filter.mp hw).1
  have hmem := eg_md_in hn
  have hcd := eg_ML_c _ hmem
  have hmw := eg_ML_w _ hmem
  obtain ⟨k1, k2, k3, k4, k5, k6⟩ := eg_mk_s (eg_ML_k _ hmem)
  have hini := hte _ (hmw _ (List.mem_cons_self))
  have hG : GoodIn eg_tbl (eg_ws (eg_md n)) := eg_gd hcd
  have hfix : CallFix p m c code 4 (s.setDrawn d0) #[Value.ref b] eg_tbl R_law := ⟨hx, hb, hml, hown, hte⟩
  have hsw : Cond.instanceMethod (eg_y (eg_md n)) ∈ eg_mw (eg_md n) ∧ Cond.selects (eg_y (eg_md n)).cls (eg_y (eg_md n)) (eg_y (eg_md n)) ∈ eg_mw (eg_md n) := by
    unfold eg_mw
    rw [hst]
    exact ⟨List.mem_cons_of_mem _ List.mem_cons_self, List.mem_cons_of_mem _ (List.mem_cons_of_mem _ List.mem_cons_self)⟩
  have hK1 : va_K D vwCl (eg_tys tc) (s.setDrawn d0) := hK0
  have hrc := va_recv hK1 hP (eg_cl_get (ci := ci) hci) (eg_w_get hh)
  rw [eg_cn_cl ci hci, ← hco, ← k5] at hrc
  rw [hnp] at k4
  have hwk : ∀ {mc ms : Nat}, (eg_rm (eg_md n)).cells = mc → (eg_rm (eg_md n)).slots = ms → mc = 0 → ms = 0 → kc + mc = kc ∧ ks + ms = ks := by
    intro mc ms _ _ h1 h2
    rw [h1, h2]
    exact ⟨rfl, rfl⟩
  obtain ⟨e1, e2⟩ := hwk rfl rfl hcs.1 hcs.2
  refine eg_contD hd0 (va_runV_D (C := (eg_y (eg_md n)).cls) (b := s.heap.size + k) (As := as.map (eg_v (eg_ad u s.heap.size))) (rest := rest) (index := idx) hfix (hM l D tc u s.heap.size) ⟨callB_of as.length hte hG rfl rfl rfl hini (htd _ hlk) ⟨k2, k3, k4⟩ hfl, hte _ (hmw _ hsw.1), hte _ (hmw _ hsw.2)⟩ ⟨eg_blind _ _, hrc, fun U hU hW => ⟨rfl, L_pre hC hP hz hS U hU hW⟩⟩ rfl (by rw [List.length_map]) hls rfl (lv_room hcat) hd ⟨by omega, by omega⟩) hS (fun r h' H1 locs1 d1 hd1 hp hP1 hl1 hS1 => ?_)
  rw [e1, e2]
  exact kk r h' H1 locs1 d1 hd1 hp hP1 (by rw [hl1, hcs.1]; rfl) hS1
end LCall
