section EgS3
variable {d : eg_M} {Z : State → Prop} {p : Program} {l : Launch} {e : Env} {s : State} {m : MethodId} {args : Array Value} {below : List Frame} {meth : Method} {c : Code} {D : va_G} {tc : Nat → ClassId} {u base : Nat}
theorem eg_cont {R : Room} {H : Heap} {locs : List Loc} {cells slots mc ms n0 pc : Nat} {ls : Array Slot} {st0 rest : List Value} {P : Option Value → List eg_E → Prop} {a : Array Value} (hr : va_Run p l e R s m args below meth c H locs cells slots mc ms (F0 m pc ls st0) rest (eg_Qc D tc u base n0 P a) (fun q => base ≤ q)) (hS : va_S (fun q => base ≤ q) s.heap H locs)
    (kk : ∀ (r : Option Value) (h' : List eg_E) (H1 : Heap) (locs1 : List Loc), P r h' → va_P D vwCl (eg_w u base tc h') H1 → h'.length = n0 → va_S (fun q => base ≤ q) s.heap H1 locs1 → W p l e R s m args below meth c H1 locs1 (cells + mc) (slots + ms) Z (F0 m (pc + 3) ls ((r.map (eg_v (eg_ad u base))).toList ++ rest))) : W p l e R s m args below meth c H locs cells slots Z (F0 m pc ls st0) := by
  intro T hT X
  obtain ⟨v, st₀, t, T', L, h0, X', hL, e1, e2, ⟨⟨r, h', hv, hp, hP, hlen⟩, hz, hk⟩, st⟩ := hr T hT X
  cases hv
  rw [h0] at hz hk
  obtain ⟨t2, a1, b1⟩ := kk r h' T'.heap (locs ++ L) hp (by rw [e1]; exact hP) hlen
    ⟨Nat.le_trans hS.1 (by rw [e1]; exact hz), fun q h1 h2 => by rw [e1, hk q (Nat.lt_of_lt_of_le h1 hS.1) h2]; exact hS.2.1 q h1 h2, fun q hq => by
      rcases List.mem_append.mp hq with h | h
      · exact hS.2.2 q h
      · exact hL q h⟩ T' rfl X'
  exact ⟨t2, st t2 a1, b1⟩
theorem eg_blind (as : List Value) (h : List eg_E) : FrameBlind (va_Pc as (eg_Pre D tc u base h)) := by
  intro a U g mk q
  obtain ⟨q0, q1, q2, ⟨q3, q4, q5⟩, q6, q7, q8, q9, q10⟩ := q
  have hvm : U.vm.Alike (U.calling g mk a).vm := Vm.Alike.refl U.vm
  exact ⟨q0, q1, va_K.moved hvm q2, ⟨q3, q4.moved hvm, q5.moved hvm⟩, fun q hq => va_Nw.same rfl rfl (q6 q hq), va_Nw.same rfl rfl q7, q8.moved hvm, q9.moved hvm, q10.moved hvm⟩
theorem eg_preU (hC : eg_C d p s m args meth c D tc u base) {H : Heap} {h : List eg_E} {locs : List Loc} (hP : va_P D vwCl (eg_w u base tc h) H) (hz : H.size = base + h.length) (hS : va_S (fun q => base ≤ q) s.heap H locs) (U : State) (hU : U.heap = H) (hW : s.WarmedH U.vm) : eg_Pre D tc u base h U := by
  obtain ⟨hx, hb, hr, hml, hown, hts, hlocks, hname, hK0, hX, hNst, hbs, hmk⟩ := hC
  refine ⟨⟨by rw [hU]; exact hP, by rw [hU]; exact hz⟩, va_K.moved hW.alike hK0, eg_X_move hbs hW (by rw [hU]; exact hS) hX, eg_N_warm hW hNst⟩
theorem eg_gd {w : Cond} (hd : w ∈ eg_tbl) : GoodIn eg_tbl (w :: eg_tbl) := by
  intro v hv
  have hm : v ∈ eg_tbl := (List.mem_cons.mp hv).elim (fun e => e ▸ hd) id
  exact ⟨hm, good_of_word (List.mem_filter.mp hm).2⟩
theorem eg_stk (st : List Value) (np : Nat) (f : Value → Value) : st.map f = ((st.take np).reverse.map f).reverse ++ (st.drop np).map f := by
  rw [List.map_reverse, List.reverse_reverse, ← List.map_append, List.take_append_drop]
theorem eg_stkl (st : List Value) (np : Nat) (f : Value → Value) (h : np ≤ st.length) : ((st.take np).reverse.map f).length = np := by
  rw [List.length_map, List.length_reverse, List.length_take]
  omega
theorem eg_tl (r : Option Value) (f : Value → Value) (L : List Value) : (r.map f).toList ++ L.map f = (r.toList ++ L).map f := by cases r <;> rfl
set_option maxHeartbeats 2000000 in
theorem eg_s_call {N : Nat → Nat → eg_Lo → List Value → List eg_E → Prop} {pc kind idx n np cl mc ms kc ks : Nat} {loc : eg_Lo} {st : List Value} {h : List eg_E} (hC : eg_C d p s m args meth c D tc u base) (hN : ∀ kc ks loc st h, N kc ks loc st h → eg_At d Z p l e s m args below meth c D tc u base (pc + 3) kc ks loc st h) (ok : eg_okC d pc kind idx n np cl mc ms = true) (hw : eg_call (eg_rm d) N kind n np cl mc ms kc ks loc st h) : eg_At d Z p l e s m args below meth c D tc u base pc kc ks loc st h := by
  obtain ⟨hx, hb, hr, hml, hown, hts, hlocks, hname, hK0, hX, hNst, hbs, hmk⟩ := id hC
  unfold eg_okC at ok
  simp only [Bool.and_eq_true, decide_eq_true_eq] at ok
  obtain ⟨⟨⟨⟨⟨⟨⟨⟨hn202, rfl⟩, rfl⟩, rfl⟩, rfl⟩, hfr⟩, hlo⟩, hst⟩, ok⟩ := ok
  have hmem := eg_md_in hn202
  have hcd := eg_ML_c _ hmem
  have hmw := eg_ML_w _ hmem
  obtain ⟨k1, k2, k3, k4, k5, k6⟩ := eg_mk_s (eg_ML_k _ hmem)
  have hini := hts _ (hmw _ (List.mem_cons_self))
  have hG : GoodIn eg_tbl (eg_ws (eg_md n)) := eg_gd hcd
  intro H locs ls hP hn hS hL hkc hks
  refine eg_size (fun hsz => ?_)
  have hz := eg_sz hP hn hS hsz hbs
  have hfix : CallFix p m c (eg_cc d) (eg_ml d) s args eg_tbl (eg_cn (eg_co d)) := ⟨hx, hb, hml, hown, hts⟩
  unfold eg_call at hw
  split at hw
  · -- static
    obtain ⟨hnp, hl4, P, hM, hw⟩ := hw
    simp only [Bool.and_eq_true, decide_eq_true_eq, eg_dec] at ok
    obtain ⟨⟨⟨hlk, hd⟩, hc0⟩, hs0⟩ := ok
    have hst0 : eg_st (eg_md n) = 0 := hst
    have hsw : Cond.static (eg_y (eg_md n)) ∈ eg_mw (eg_md n) := by
      unfold eg_mw
      rw [hst0]
      exact List.mem_cons_of_mem _ List.mem_cons_self
    refine eg_cont (va_runS (As := (st.take (eg_np (eg_md n))).reverse.map (eg_v (eg_ad u base))) (rest := (st.drop (eg_np (eg_md n))).map (eg_v (eg_ad u base))) (index := idx) hfix (hM l D tc u base) ⟨callB_of (eg_np (eg_md n)) hts hG rfl rfl rfl hini (hts _ (eg_CL_w _ (List.mem_map.mpr ⟨_, hlk, rfl⟩))) ⟨k2, k3, k4⟩ ⟨hfr, hlo⟩, hts _ (hmw _ hsw)⟩ ⟨eg_blind _ _, fun U hU hW => ⟨rfl, eg_preU hC hP hz hS U hU hW⟩⟩ rfl (eg_stkl _ _ _ hnp) hL.1 (eg_stk _ _ _) (lv_room (eg_cats _ (by rw [List.length_map]; exact hl4))) hd ⟨by omega, by omega⟩) hS (fun r h' H1 locs1 hp hP1 hl1 hS1 => ?_)
    rw [eg_tl, hc0, hs0]
    exact hN _ _ _ _ _ (hw r h' hp) H1 locs1 ls hP1 (by rw [hl1]; omega) hS1 hL hkc hks
  · -- virtual
    obtain ⟨hnp, hw⟩ := hw
    split at hw
    · rename_i k s9 hdr
      split at hw
      · rename_i ci fs hh
        obtain ⟨hci, hl4, P, hM, hw⟩ := hw
        simp only [Bool.and_eq_true, decide_eq_true_eq, eg_dec] at ok
        obtain ⟨⟨⟨⟨hlk, hd⟩, hc0⟩, hs0⟩, hc13⟩ := ok
        have hst0 : eg_st (eg_md n) = 1 := hst
        have hsw : Cond.instanceMethod (eg_y (eg_md n)) ∈ eg_mw (eg_md n) ∧ Cond.selects (eg_y (eg_md n)).cls (eg_y (eg_md n)) (eg_y (eg_md n)) ∈ eg_mw (eg_md n) := by
          unfold eg_mw
          rw [hst0]
          exact ⟨List.mem_cons_of_mem _ List.mem_cons_self, List.mem_cons_of_mem _ (List.mem_cons_of_mem _ List.mem_cons_self)⟩
        have hrc := va_recv hK0 hP (eg_cl_get (ci := ci) (by rw [hci]; exact hc13)) (eg_w_get hh)
        rw [eg_cn_cl ci (by rw [hci]; exact hc13), hci, ← k5] at hrc
        have hstk := eg_stk st (eg_np (eg_md n)) (eg_v (eg_ad u base))
        rw [hdr] at hstk
        refine eg_cont (va_runV (C := (eg_y (eg_md n)).cls) (b := base + k) (As := (st.take (eg_np (eg_md n))).reverse.map (eg_v (eg_ad u base))) (rest := s9.map (eg_v (eg_ad u base))) (index := idx) hfix (hM l D tc u base) ⟨callB_of (eg_np (eg_md n)) hts hG rfl rfl rfl hini (hts _ (eg_CL_w _ (List.mem_map.mpr ⟨_, hlk, rfl⟩))) ⟨k2, k3, k4⟩ ⟨hfr, hlo⟩, hts _ (hmw _ hsw.1), hts _ (hmw _ hsw.2)⟩ ⟨eg_blind _ _, hrc, fun U hU hW => ⟨rfl, eg_preU hC hP hz hS U hU hW⟩⟩ rfl (eg_stkl _ _ _ hnp) hL.1 hstk (lv_room (eg_cats _ (by rw [List.length_map]; exact hl4))) hd ⟨by omega, by omega⟩) hS (fun r h' H1 locs1 hp hP1 hl1 hS1 => ?_)
        rw [eg_tl, hc0, hs0]
        exact hN _ _ _ _ _ (hw r h' hp) H1 locs1 ls hP1 (by rw [hl1]; omega) hS1 hL hkc hks
      · exact hw.elim
    · exact hw.elim
  · -- constructors
    rename_i hk0 hk1
    obtain ⟨hnp, hw⟩ := hw
    split at hw
    · rename_i k s9 hdr
      obtain ⟨hl4, hc1, hc2, P, hM, hw⟩ := hw
      have hst2 : eg_st (eg_md n) = 2 := by
        rw [hst]
        have h0 : kind ≠ 0 := fun q => hk0 q
        have h1 : kind ≠ 1 := fun q => hk1 q
        omega
      have hsw : Cond.instanceMethod (eg_y (eg_md n)) ∈ eg_mw (eg_md n) := by
        unfold eg_mw
        rw [hst2]
        exact List.mem_cons_of_mem _ List.mem_cons_self
      have hstk := eg_stk st (eg_np (eg_md n)) (eg_v (eg_ad u base))
      rw [hdr] at hstk
      split at ok
      · exact absurd rfl hk0
      · exact absurd rfl hk1
      · simp only [Bool.and_eq_true, decide_eq_true_eq, eg_dec] at ok
        obtain ⟨⟨hlk, hd⟩, hrt⟩ := ok
        refine eg_cont (va_runI (b := base + k) (As := (st.take (eg_np (eg_md n))).reverse.map (eg_v (eg_ad u base))) (rest := s9.map (eg_v (eg_ad u base))) (index := idx) hfix (hM l D tc u base) ⟨callB_of (eg_np (eg_md n)) hts hG (by unfold eg_ws eg_cdw; rw [hrt]) rfl rfl hini (hts _ (eg_CL_w _ (List.mem_map.mpr ⟨_, hlk, rfl⟩))) ⟨k2, k3, k4⟩ ⟨hfr, hlo⟩, k6 hst2, hts _ (hmw _ hsw)⟩ ⟨eg_blind _ _, fun U hU hW => ⟨rfl, eg_preU hC hP hz hS U hU hW⟩⟩ rfl (eg_stkl _ _ _ hnp) hL.1 hstk (lv_room (eg_cats _ (by rw [List.length_map]; exact hl4))) hd ⟨hc1, hc2⟩) hS (fun r h' H1 locs1 hp hP1 hl1 hS1 => ?_)
        rw [eg_tl]
        exact hN _ _ _ _ _ (hw r h' hp) H1 locs1 ls hP1 (by rw [hl1]; omega) hS1 hL hc1 hc2
      · simp only [Bool.and_eq_true, decide_eq_true_eq, eg_dec] at ok
        obtain ⟨⟨hlk, hd⟩, hrt⟩ := ok
        refine eg_cont (va_runIN (b := base + k) (host := "TouchBench") (As := (st.take (eg_np (eg_md n))).reverse.map (eg_v (eg_ad u base))) (rest := s9.map (eg_v (eg_ad u base))) (index := idx) hfix (hM l D tc u base) ⟨va_cnB (eg_np (eg_md n)) hts hG (by unfold eg_ws eg_cdw; rw [hrt]) rfl rfl (hNst.1 _ hlk) hini ⟨k2, k3, k4⟩ ⟨hfr, hlo⟩, k6 hst2, hts _ (hmw _ hsw)⟩ ⟨eg_blind _ _, fun U hU hW => ⟨rfl, eg_preU hC hP hz hS U hU hW⟩⟩ rfl (eg_stkl _ _ _ hnp) hL.1 hstk (lv_room (eg_cats _ (by rw [List.length_map]; exact hl4))) hd ⟨hc1, hc2⟩) hS (fun r h' H1 locs1 hp hP1 hl1 hS1 => ?_)
        rw [eg_tl]
        exact hN _ _ _ _ _ (hw r h' hp) H1 locs1 ls hP1 (by rw [hl1]; omega) hS1 hL hc1 hc2
      · exact absurd ok (by decide)
    · exact hw.elim
set_option maxHeartbeats 2000000 in
theorem eg_soundI {K : Nat → Nat → Nat → eg_Lo → List Value → List eg_E → Prop} {Q : Option Value → List eg_E → Prop} {N : Nat → Nat → eg_Lo → List Value → List eg_E → Prop} {n0 pc len a b kc ks : Nat} {ins : Instr} {loc : eg_Lo} {st : List Value} {h : List eg_E} (hC : eg_C d p s m args meth c D tc u base) (hn0 : s.heap.size + (eg_rm d).cells = base + n0) (hZ : ∀ t, MQ below (eg_Qc D tc u base n0 Q) args s (eg_rm d).cells (eg_rm d).slots (fun q => base ≤ q) t → Z t) (hK : ∀ pc kc ks loc st h, K pc kc ks loc st h → eg_At d Z p l e s m args below meth c D tc u base pc kc ks loc st h) (hN : ∀ kc ks loc st h, N kc ks loc st h → eg_At d Z p l e s m args below meth c D tc u base (pc + len) kc ks loc st h) (ok : eg_okI d pc len ins a b = true) (hw : eg_stepI (eg_rm d) K Q N pc ins a b kc ks loc st h) : eg_At d Z p l e s m args below meth c D tc u base pc kc ks loc st h := by
  cases ins
  case iadd => exact eg_s_iadd hC hn0 hZ hK hN ok hw
  case isub => exact eg_s_isub hC hn0 hZ hK hN ok hw
  case imul => exact eg_s_imul hC hn0 hZ hK hN ok hw
  case iand => exact eg_s_iand hC hn0 hZ hK hN ok hw
  case ior => exact eg_s_ior hC hn0 hZ hK hN ok hw
  case ixor => exact eg_s_ixor hC hn0 hZ hK hN ok hw
  case idiv => exact eg_s_idiv hC hn0 hZ hK hN ok hw
  case irem => exact eg_s_irem hC hn0 hZ hK hN ok hw
  case ineg => exact eg_s_ineg hC hn0 hZ hK hN ok hw
  case ladd => exact eg_s_ladd hC hn0 hZ hK hN ok hw
  case lsub => exact eg_s_lsub hC hn0 hZ hK hN ok hw
  case lmul => exact eg_s_lmul hC hn0 hZ hK hN ok hw
  case land => exact eg_s_land hC hn0 hZ hK hN ok hw
  case lor => exact eg_s_lor hC hn0 hZ hK hN ok hw
  case ldiv => exact eg_s_ldiv hC hn0 hZ hK hN ok hw
  case lrem => exact eg_s_lrem hC hn0 hZ hK hN ok hw
  case lneg => exact eg_s_lneg hC hn0 hZ hK hN ok hw
  case lushr => exact eg_s_lushr hC hn0 hZ hK hN ok hw
  case lshl => exact eg_s_lshl hC hn0 hZ hK hN ok hw
  case lshr => exact eg_s_lshr hC hn0 hZ hK hN ok hw
  case i2l => exact eg_s_i2l hC hn0 hZ hK hN ok hw
  case l2i => exact eg_s_l2i hC hn0 hZ hK hN ok hw
  case i2s => exact eg_s_i2s hC hn0 hZ hK hN ok hw
  case i2d => exact eg_s_i2d hC hn0 hZ hK hN ok hw
  case d2i => exact eg_s_d2i hC hn0 hZ hK hN ok hw
  case lcmp => exact eg_s_lcmp hC hn0 hZ hK hN ok hw
  case dup => exact eg_s_dup hC hn0 hZ hK hN ok hw
  case pop => exact eg_s_pop hC hn0 hZ hK hN ok hw
  case dup2 => exact eg_s_dup2 hC hn0 hZ hK hN ok hw
  case arraylength => exact eg_s_arraylength hC hn0 hZ hK hN ok hw
  case iaload => exact eg_s_iaload hC hn0 hZ hK hN ok hw
  case laload => exact eg_s_laload hC hn0 hZ hK hN ok hw
  case baload => exact eg_s_baload hC hn0 hZ hK hN ok hw
  case daload => exact eg_s_daload hC hn0 hZ hK hN ok hw
  case aaload => exact eg_s_aaload hC hn0 hZ hK hN ok hw
  case iastore => exact eg_s_iastore hC hn0 hZ hK hN ok hw
  case lastore => exact eg_s_lastore hC hn0 hZ hK hN ok hw
  case bastore => exact eg_s_bastore hC hn0 hZ hK hN ok hw
  case dastore => exact eg_s_dastore hC hn0 hZ hK hN ok hw
  case aastore => exact eg_s_aastore hC hn0 hZ hK hN ok hw
  case nop => exact eg_s_nop hC hn0 hZ hK hN ok hw
  case iconst => exact eg_s_iconst hC hn0 hZ hK hN ok hw
  case sipush => exact eg_s_sipush hC hn0 hZ hK hN ok hw
  case dconst => exact eg_s_dconst hC hn0 hZ hK hN ok hw
  case ldc2_w => exact eg_s_ldc2_w hC hn0 hZ hK hN ok hw
  case iload => exact eg_s_iload hC hn0 hZ hK hN ok hw
  case lload => exact eg_s_lload hC hn0 hZ hK hN ok hw
  case dload => exact eg_s_dload hC hn0 hZ hK hN ok hw
  case aload => exact eg_s_aload hC hn0 hZ hK hN ok hw
  case istore => exact eg_s_istore hC hn0 hZ hK hN ok hw
  case lstore => exact eg_s_lstore hC hn0 hZ hK hN ok hw
  case dstore => exact eg_s_dstore hC hn0 hZ hK hN ok hw
  case astore => exact eg_s_astore hC hn0 hZ hK hN ok hw
  case iinc => exact eg_s_iinc hC hn0 hZ hK hN ok hw
  case dcmp => exact eg_s_dcmp hC hn0 hZ hK hN ok hw
  case goto => exact eg_s_goto hC hn0 hZ hK hN ok hw
  case tableswitch => exact eg_s_tableswitch hC hn0 hZ hK hN ok hw
  case getfield => exact eg_s_getfield hC hn0 hZ hK hN ok hw
  case putfield => exact eg_s_putfield hC hn0 hZ hK hN ok hw
  case putstatic => exact eg_s_putstatic hC hn0 hZ hK hN ok hw
  case getstatic => exact eg_s_getstatic hC hn0 hZ hK hN ok hw
  case newarray => exact eg_s_newarray hC hn0 hZ hK hN ok hw
  case anewarray => exact eg_s_anewarray hC hn0 hZ hK hN ok hw
  case new => exact eg_s_new hC hn0 hZ hK hN ok hw
  case athrow => exact eg_s_athrow hC hn0 hZ hK hN ok hw
  case monitorenter => exact eg_s_monitorenter hC hn0 hZ hK hN ok hw
  case monitorexit => exact eg_s_monitorexit hC hn0 hZ hK hN ok hw
  case ireturn => exact eg_s_ireturn hC hn0 hZ hK hN ok hw
  case lreturn => exact eg_s_lreturn hC hn0 hZ hK hN ok hw
  case return_ => exact eg_s_return_ hC hn0 hZ hK hN ok hw
  case ifCond cnd off =>
    cases cnd
    · exact eg_s_if_eq hC hn0 hZ hK hN ok hw
    · exact eg_s_if_ne hC hn0 hZ hK hN ok hw
    · exact eg_s_if_lt hC hn0 hZ hK hN ok hw
    · exact eg_s_if_ge hC hn0 hZ hK hN ok hw
    · exact eg_s_if_gt hC hn0 hZ hK hN ok hw
    · exact eg_s_if_le hC hn0 hZ hK hN ok hw
  case if_icmp cnd off =>
    cases cnd
    · exact eg_s_icmp_eq hC hn0 hZ hK hN ok hw
    · exact eg_s_icmp_ne hC hn0 hZ hK hN ok hw
    · exact eg_s_icmp_lt hC hn0 hZ hK hN ok hw
    · exact eg_s_icmp_ge hC hn0 hZ hK hN ok hw
    · exact eg_s_icmp_gt hC hn0 hZ hK hN ok hw
    · exact eg_s_icmp_le hC hn0 hZ hK hN ok hw
  all_goals exact absurd ok (by intro q; cases q)
theorem eg_sound {K : Nat → Nat → Nat → eg_Lo → List Value → List eg_E → Prop} {Q : Option Value → List eg_E → Prop} {n0 : Nat} (hC : eg_C d p s m args meth c D tc u base) (hn0 : s.heap.size + (eg_rm d).cells = base + n0) (hZ : ∀ t, MQ below (eg_Qc D tc u base n0 Q) args s (eg_rm d).cells (eg_rm d).slots (fun q => base ≤ q) t → Z t) (hK : ∀ pc kc ks loc st h, K pc kc ks loc st h → eg_At d Z p l e s m args below meth c D tc u base pc kc ks loc st h) : ∀ (code : List eg_I) (pc kc ks : Nat) (loc : eg_Lo) (st : List Value) (h : List eg_E), eg_seq d pc code = true → wps (eg_rm d) K Q code kc ks loc st h → eg_At d Z p l e s m args below meth c D tc u base pc kc ks loc st h := by
  intro code
  induction code with
  | nil =>
    intro pc kc ks loc st h _ hw
    exact hw.elim
  | cons x r ih =>
    intro pc kc ks loc st h hs hw
    rcases x with ⟨q, len, ins, a, b⟩ | ⟨q, kind, idx, n, np, cl, mc, ms⟩
    · simp only [eg_seq, Bool.and_eq_true, decide_eq_true_eq] at hs
      obtain ⟨⟨rfl, hok⟩, hs⟩ := hs
      exact eg_soundI hC hn0 hZ hK (fun kc ks loc st h hN => ih _ _ _ _ _ _ hs hN) hok hw
    · simp only [eg_seq, Bool.and_eq_true, decide_eq_true_eq] at hs
      obtain ⟨⟨rfl, hok⟩, hs⟩ := hs
      exact eg_s_call hC (fun kc ks loc st h hN => ih _ _ _ _ _ _ hs hN) hok hw
end EgS3
/-- a piece of code -/
theorem eg_blk {d : eg_M} {Q : Option Value → List eg_E → Prop} {n0 pc kc ks : Nat} {loc : eg_Lo} {st : List Value} {h : List eg_E} {code : List eg_I} (hs : eg_seq d pc code = true) (hw : wps (eg_rm d) (eg_R d Q n0) Q code kc ks loc st h) : eg_R d Q n0 pc kc ks loc st h := by
  intro Z p l e s m args below meth c D tc u base hC hn0 hZ
  exact eg_sound hC hn0 hZ (fun pc kc ks loc st h hK => hK Z p l e s m args below meth c D tc u base hC hn0 hZ) code pc kc ks loc st h hs hw
/-- code by its beginnings, jumps followed -/
def eg_run (rm : Room) (R : Nat → Nat → Nat → eg_Lo → List Value → List eg_E → Prop) (Q : Option Value → List eg_E → Prop) (T : List (Nat × List eg_I)) (f pc kc ks : Nat) (loc : eg_Lo) (st : List Value) (h : List eg_E) : Prop := match f with
  | 0 => R pc kc ks loc st h
  | f + 1 => match T.lookup pc with
    | some code => wps rm (eg_run rm R Q T f) Q code kc ks loc st h
    | none => R pc kc ks loc st h
theorem eg_lkp {T : List (Nat × List eg_I)} {pc : Nat} {code : List eg_I} (h : T.lookup pc = some code) : (pc, code) ∈ T := by
  induction T with
  | nil => cases h
  | cons x T ih =>
    obtain ⟨q, cd⟩ := x
    rw [List.lookup_cons] at h
    by_cases hq : (pc == q) = true
    · rw [hq] at h
      simp only at h
      cases h
      rw [beq_iff_eq.mp hq]
      exact List.mem_cons_self
    · rw [Bool.eq_false_iff.mpr hq] at h
      simp only at h
      exact List.mem_cons_of_mem _ (ih h)
theorem eg_run_ok {d : eg_M} {Q : Option Value → List eg_E → Prop} {n0 : Nat} {T : List (Nat × List eg_I)} (hT : ∀ q ∈ T, eg_seq d q.1 q.2 = true) : ∀ (f pc kc ks : Nat) (loc : eg_Lo) (st : List Value) (h : List eg_E), eg_run (eg_rm d) (eg_R d Q n0) Q T f pc kc ks loc st h → eg_R d Q n0 pc kc ks loc st h := by
  intro f
  induction f with
  | zero => intro pc kc ks loc st h hw; exact hw
  | succ f ih =>
    intro pc kc ks loc st h hw
    unfold eg_run at hw
    split at hw
    · rename_i code hc
      intro Z p l e s m args below meth c D tc u base hC hn0 hZ
      exact eg_sound hC hn0 hZ (fun pc kc ks loc st h hK => ih _ _ _ _ _ _ hK Z p l e s m args below meth c D tc u base hC hn0 hZ) code pc kc ks loc st h (hT _ (eg_lkp hc)) hw
    · exact hw
theorem eg_ofW {l : Launch} {y : MethodName} {ws ws' : List Cond} {rm : Room} {Pc : Array Value → State → Prop} {Qc : Array Value → State → Outcome → State → Prop} {mc ms : Nat} {free : Addr → Prop} {cc : ByteArray} {maxL : Nat} {ret : Option FieldType}
    (hy : plainFor y = true) (hw : ws = Cond.code y cc maxL ret :: ws')
    (body : ∀ p e s m args below meth c s₁, BodyLoose p l y (headSpec ws rm) cc maxL ret e s m args below meth c s₁ → c.maxLocals = maxL → Pc args s →
      W p l e (headSpec ws rm).room s m args below meth c s.heap [] 0 0 (MQ below Qc args s mc ms free) (entryFrame m args maxL)) : Met l y ws rm Pc Qc mc ms free := by
  refine MetFree.of_bodySF (code := cc) (maxLocals := maxL) (ret := ret) hy ?_ ?_
  · intro args s m h hn
    obtain ⟨meth, c, h1, h2, h3, h4, h5, h6, -, -⟩ := Cond.code_spec hn (atoms_spec (ws := ws) h _ (by rw [hw]; exact List.mem_cons_self))
    exact ⟨meth, c, h1, h2, h3, h4, h5, h6⟩
  · intro p e s m args below meth c s₁ B hml hP _
    have hh0 : s₁.heap = s.heap := by rw [B.state]; rfl
    obtain ⟨t, a1, o, b1, b2, b3⟩ := body p e s m args below meth c s₁ B hml hP s₁ hh0 (Stand.of_body B)
    exact ⟨t, o, a1, b1, b2, ⟨b3.1, b3.2⟩⟩
/-- the locals at a method's beginning -/
def eg_fl (as : List Value) : eg_Lo := as.flatMap (fun v => if v.category = 2 then [some v, none] else [some v])
def eg_entry (nL : Nat) (as : List Value) : eg_Lo := eg_fl as ++ List.replicate (nL - (eg_fl as).length) none
theorem eg_fl_sl (f : Nat → Nat) (as : List Value) : lg_sl (as.map (eg_v f)) = (eg_fl as).map (fun o => match o with | some v => Slot.val (eg_v f v) | none => Slot.second) := by
  induction as with
  | nil => rfl
  | cons v as ih =>
    unfold lg_sl eg_fl at ih ⊢
    rw [List.map_cons, List.flatMap_cons, List.flatMap_cons, List.map_append, ih, eg_cat]
    by_cases h : v.category = 2
    · rw [if_pos h, if_pos h]
      rfl
    · rw [if_neg h, if_neg h]
      rfl
theorem eg_entry_L (f : Nat → Nat) (as : List Value) (nL : Nat) (h : (eg_fl as).length ≤ nL) : eg_L f ((lg_sl (as.map (eg_v f)) ++ List.replicate (nL - (lg_sl (as.map (eg_v f))).length) Slot.unset).toArray) nL (eg_entry nL as) := by
  have hlen : (lg_sl (as.map (eg_v f))).length = (eg_fl as).length := by rw [eg_fl_sl, List.length_map]
  have hl := lv_entry (as.map (eg_v f)) (n := nL) (by rw [hlen]; exact h)
  refine ⟨hl.1, hl.2.1, fun i v hv => ?_⟩
  unfold eg_entry at hv
  rw [List.getElem?_toArray, hlen, eg_fl_sl]
  by_cases hi : i < (eg_fl as).length
  · rw [List.getElem?_append_left hi] at hv
    rw [List.getElem?_append_left (by rw [List.length_map]; exact hi), List.getElem?_map, hv]
    rfl
  · rw [List.getElem?_append_right (by omega)] at hv
    rw [List.getElem?_replicate] at hv
    split at hv <;> cases hv
/-- a method runs as its code from the beginning -/
theorem eg_intro {n : Nat} {as : List Value} {h : List eg_E} {Q : Option Value → List eg_E → Prop} (hn : n < 202) (hf : (eg_fl as).length ≤ eg_ml (eg_md n)) (hR : eg_R (eg_md n) Q (h.length + (eg_rm (eg_md n)).cells) 0 0 0 (eg_entry (eg_ml (eg_md n)) as) [] h) : eg_Runs n as h Q := by
  intro l D tc u base
  have hmem := eg_md_in hn
  obtain ⟨k1, k2, k3, k4, k5, k6⟩ := eg_mk_s (eg_ML_k _ hmem)
  refine eg_ofW (cc := eg_cc (eg_md n)) (maxL := eg_ml (eg_md n)) (ret := eg_rt (eg_md n)) k1 rfl ?_
  intro p e s m args below meth c s₁ B hml hv
  obtain ⟨rfl, ⟨hP, hz⟩, hK, hX, hNs⟩ := hv
  have hts0 := atoms_spec (ws := eg_ws (eg_md n)) B.pre
  have hown : s.vm.findClass (eg_y (eg_md n)).cls = some m.cls := findClass_of_methodNamed B.named
  rw [k5] at hown
  have hC : eg_C (eg_md n) p s m (as.map (eg_v (eg_ad u base))).toArray meth c D tc u base := ⟨B.exec, B.bytes, B.returns, hml, hown, fun w hw => hts0 w (List.mem_cons_of_mem _ hw), B.notSynchronized, (name_of_methodNamed B.named B.method).1, hK, hX, hNs, by omega, eg_ML_k _ hmem⟩
  rw [lg_entry_eq]
  exact hR _ p l e s m _ below meth c D tc u base hC (by omega) (fun t ht => ht) s.heap [] _ hP (by omega) va_S.rf (eg_entry_L _ as _ hf) (Nat.zero_le _) (Nat.zero_le _)
/-- a callee that answers one thing -/
theorem eg_use {n : Nat} {as : List Value} {h h0 : List eg_E} {r0 : Option Value} {F : Option Value → List eg_E → Prop} (hr : eg_Runs n as h (fun r h' => r = r0 ∧ h' = h0)) (hF : F r0 h0) : ∃ P, eg_Runs n as h P ∧ ∀ r h', P r h' → F r h' :=
  ⟨_, hr, fun r h' hp => by obtain ⟨rfl, rfl⟩ := hp; exact hF⟩
