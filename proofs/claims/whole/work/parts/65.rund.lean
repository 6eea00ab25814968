/-! METHODS THAT MAY DRAW, in the engine's terms -/
/-- what Double.longBitsToDouble answers -/
def l2dR (v : Int64) (r : UInt64) : Prop := r = v.toUInt64 ∨ (vn_snl2d v = true ∧ r = v.toUInt64 ||| 0x0008000000000000)
section RunD
variable {p : Program} {l : Launch} {e : Env} {R : Room} {s : State} {m : MethodId} {args : Array Value} {below : List Frame} {meth : Method} {c : Code} {H : Heap} {locs : List Loc} {cells slots : Nat} {Q : State → Prop}
variable {cc : ByteArray} {pc : Nat} {ls : Array Slot} {rest : List Value}
theorem dr_l2d {cs : List Choice} {d0 : Drawn} (hd0 : s.drawn.sameBut d0 cs) (hn : nCopy ∈ cs) (hexec : p.tables.exec = Jvm.exec) (hb : c.code = cc) (hml : c.maxLocals = ls.size) {own : String} {index : Nat} (hown : s.vm.findClass own = some m.cls) (hlink : (Cond.methodLink own index ⟨"java/lang/Double", "longBitsToDouble", "(J)D"⟩).before args (s.setDrawn d0) = true) (hnat : (Cond.native ⟨"java/lang/Double", "longBitsToDouble", "(J)D"⟩).before args (s.setDrawn d0) = true) (hstat : (Cond.static ⟨"java/lang/Double", "longBitsToDouble", "(J)D"⟩).before args (s.setDrawn d0) = true) (hinit : (Cond.initialized "java/lang/Double").before args (s.setDrawn d0) = true) {b : Int64}
    (hframes : 1 ≤ R.frames) (hlocals : (rest.map fun v => v.category).sum + 15 ≤ R.locals) (hdg : decode cc pc = .ok (.invokestatic index, 3))
    (k : ∀ (r : UInt64) (d' : Drawn), l2dR b r → s.drawn.sameBut d' cs → W p l e R (s.setDrawn d') m args below meth c H locs cells slots Q (F0 m (pc + 3) ls (.double r :: rest))) : W p l e R (s.setDrawn d0) m args below meth c H locs cells slots Q (F0 m pc ls (.long b :: rest)) := by
  cases hv : vn_snl2d b with
  | false => exact vn_l2d (s := s.setDrawn d0) hexec hb hml hown hlink hnat hstat hinit hv hframes hlocals hdg (k _ d0 (Or.inl rfl) hd0)
  | true =>
    intro T hT X
    obtain ⟨r, kS, methS, hnS, hmS, hkS, N⟩ := NativeOf.of_static hnat hstat (ps := [.long]) (ret := some .double) (by decide +kernel)
    have hinitS : kS.init = .initialized := Cond.initialized_spec (findClass_of_methodNamed hnS) hkS hinit
    obtain ⟨vm', X', step⟩ := X.invokestatic hexec hown hlink hnS hmS N.static hkS hinitS (by decide) (g := F0 m pc ls (.long b :: rest)) rfl (argsL := [.long b]) (rest := rest) (by rw [N.sig]; rfl) rfl (by rw [hb]; exact hdg)
    obtain ⟨kS', N'⟩ := N.alike X'.warmed.alike
    have hdr : (T.setVm vm').drawn = d0 := X'.drawn_eq
    have hd1 : s.drawn.sameBut ((T.setVm vm').drawn.next nCopy) cs := by
      rw [hdr]
      exact Drawn.sameBut.trans hd0 (Drawn.sameBut.mono (Drawn.next_named d0 "NaN.copy") (fun c hc => by
        simp only [List.mem_cons, List.not_mem_nil, or_false] at hc
        rw [hc]; exact hn))
    have hl2 : l2dR b (if e.choices nCopy ((T.setVm vm').drawn.count nCopy) % 2 == 0 then b.toUInt64 else b.toUInt64 ||| 0x0008000000000000) := by
      split
      · exact Or.inl rfl
      · exact Or.inr ⟨hv, rfl⟩
    obtain ⟨t, a1, b1⟩ := k _ _ hl2 hd1 ((T.setVm vm').setDrawn ((T.setVm vm').drawn.next nCopy)) hT (X'.drew _)
    refine ⟨t, step t fun acts => ?_, b1⟩
    have hw : nativeFrameWords "java/lang/Double" "longBitsToDouble" 2 = 4 := by decide
    exact dr_l2dS (g := { F0 m pc ls (.long b :: rest) with stack := rest }) (ig := .invokestatic index) (len := 3) X'.here acts N' b (X'.notFull (g := { F0 m pc ls (.long b :: rest) with stack := rest }) (by show ls.size = _; rw [hml]) (vars := nativeFrameWords "java/lang/Double" "longBitsToDouble" 2) hframes (by show 2 * 0 + (rest.map fun v => v.category).sum + (nativeFrameWords "java/lang/Double" "longBitsToDouble" 2 + 11) ≤ _; omega)) hv (by rw [hb]; exact hdg) a1
end RunD
def eg_RD (d : eg_M) (Q : Option Value → List eg_E → Prop) (n0 pc kc ks : Nat) (loc : eg_Lo) (st : List Value) (h : List eg_E) : Prop :=
  ∀ (Z : State → Prop) (p : Program) (l : Launch) (e : Env) (s : State) (m : MethodId) (args : Array Value) (below : List Frame) (meth : Method) (c : Code) (D : va_G) (tc : Nat → ClassId) (u base : Nat), eg_C d p s m args meth c D tc u base → s.heap.size + (eg_rm d).cells = base + n0 → (∀ d0 t, s.drawn.sameBut d0 lw_cs → MQ below (eg_Qc D tc u base n0 Q) args (s.setDrawn d0) (eg_rm d).cells (eg_rm d).slots (fun q => base ≤ q) t → Z t) → ∀ d0, s.drawn.sameBut d0 lw_cs → eg_At d Z p l e (s.setDrawn d0) m args below meth c D tc u base pc kc ks loc st h
theorem eg_C_dr {d : eg_M} {p : Program} {s : State} {m : MethodId} {args : Array Value} {meth : Method} {c : Code} {D : va_G} {tc : Nat → ClassId} {u base : Nat} (h : eg_C d p s m args meth c D tc u base) (d0 : Drawn) : eg_C d p (s.setDrawn d0) m args meth c D tc u base :=
  ⟨h.1, h.2.1, h.2.2.1, h.2.2.2.1, h.2.2.2.2.1, dr_words h.2.2.2.2.2.1 d0, h.2.2.2.2.2.2⟩
theorem eg_RD_R {d : eg_M} {Q : Option Value → List eg_E → Prop} {n0 pc kc ks : Nat} {loc : eg_Lo} {st : List Value} {h : List eg_E} (hr : eg_R d Q n0 pc kc ks loc st h) : eg_RD d Q n0 pc kc ks loc st h := by
  intro Z p l e s m args below meth c D tc u base hC hn0 hZ d0 hd0
  exact hr Z p l e (s.setDrawn d0) m args below meth c D tc u base (eg_C_dr hC d0) hn0 (fun t ht => hZ d0 t hd0 ht)
theorem eg_blkD {d : eg_M} {Q : Option Value → List eg_E → Prop} {n0 pc kc ks : Nat} {loc : eg_Lo} {st : List Value} {h : List eg_E} {code : List eg_I} {K : Nat → Nat → Nat → eg_Lo → List Value → List eg_E → Prop} (hK : ∀ pc kc ks loc st h, K pc kc ks loc st h → eg_RD d Q n0 pc kc ks loc st h) (hs : eg_seq d pc code = true) (hw : wps (eg_rm d) K Q code kc ks loc st h) : eg_RD d Q n0 pc kc ks loc st h := by
  intro Z p l e s m args below meth c D tc u base hC hn0 hZ d0 hd0
  exact eg_sound (eg_C_dr hC d0) hn0 (fun t ht => hZ d0 t hd0 ht) (fun pc kc ks loc st h hk => hK pc kc ks loc st h hk Z p l e s m args below meth c D tc u base hC hn0 hZ d0 hd0) code pc kc ks loc st h hs hw
theorem eg_runD {d : eg_M} {Q : Option Value → List eg_E → Prop} {n0 : Nat} {T : List (Nat × List eg_I)} (hT : ∀ q ∈ T, eg_seq d q.1 q.2 = true) : ∀ (f pc kc ks : Nat) (loc : eg_Lo) (st : List Value) (h : List eg_E), eg_run (eg_rm d) (eg_RD d Q n0) Q T f pc kc ks loc st h → eg_RD d Q n0 pc kc ks loc st h := by
  intro f
  induction f with
  | zero => intro pc kc ks loc st h hw; exact hw
  | succ f ih =>
    intro pc kc ks loc st h hw
    unfold eg_run at hw
    split at hw
    · rename_i code hc
      exact eg_blkD ih (hT _ (eg_lkp hc)) hw
    · exact hw
theorem eg_goD {d : eg_M} {Q : Option Value → List eg_E → Prop} {n0 pc kc ks f : Nat} {loc : eg_Lo} {st : List Value} {h : List eg_E} {code : List eg_I} {T : List (Nat × List eg_I)} (hs : eg_seq d pc code = true) (hT : ∀ q ∈ T, eg_seq d q.1 q.2 = true) (hw : wps (eg_rm d) (eg_run (eg_rm d) (eg_RD d Q n0) Q T f) Q code kc ks loc st h) : eg_RD d Q n0 pc kc ks loc st h := eg_blkD (eg_runD hT f) hs hw
/-- method n, which may draw, called with as over h, ends, and Q holds of its answer and of what it leaves -/
def eg_RunsD (n : Nat) (as : List Value) (h : List eg_E) (Q : Option Value → List eg_E → Prop) : Prop := ∀ (l : Launch) (D : va_G) (tc : Nat → ClassId) (u base : Nat), MetD lw_cs l (eg_y (eg_md n)) (eg_ws (eg_md n)) (eg_rm (eg_md n)) (va_Pc (as.map (eg_v (eg_ad u base))) (eg_Pre D tc u base h)) (eg_Qc D tc u base (h.length + (eg_rm (eg_md n)).cells) Q) (eg_rm (eg_md n)).cells (eg_rm (eg_md n)).slots (fun q => base ≤ q)
theorem eg_RunsD_of {n : Nat} {as : List Value} {h : List eg_E} {Q : Option Value → List eg_E → Prop} (hr : eg_Runs n as h Q) : eg_RunsD n as h Q := fun l D tc u base => MetD.of_met (hr l D tc u base)
