/-! THE LAW: its arguments -/
section LArgs
variable {Z : State → Prop} {p : Program} {l : Launch} {e : Env} {s : State} {m : MethodId} {below : List Frame} {meth : Method} {c : Code} {D : va_G} {tc : Nat → ClassId} {u : Nat}
/-- the law's locals within its loop -/
def lvL (s : State) (b i : Nat) : List (Nat × Value) := [(3, .int (nI i)), (2, .ref (s.heap.size + 95)), (1, .ref s.heap.size), (0, .ref b)]
def lawA (pc k : Nat) : Prop := decode code pc = .ok (.aload_n 0, 1) ∧ decode code (pc + 1) = .ok (.iload_n 3, 1) ∧ decode code (pc + 2) = .ok (.iconst k, 1) ∧ decode code (pc + 3) = .ok (.iadd, 1) ∧ decode code (pc + 4) = .ok (.iaload, 1)
theorem L_arg {b L : Nat} {xs : Nat → Int32} (hC : LC p s m meth c b L xs D tc u) (hL : L ≤ 3584) {pc k i kc ks : Nat} {H : Heap} {locs : List Loc} {ls : Array Slot} {st : List Value} {d0 : Drawn} (hS : va_S (fun q => s.heap.size ≤ q) s.heap H locs) (hl : lv_has ls 4 (lvL s b i)) (hd : lawA pc k) (hk : k < 6) (hi : i + k < L)
    (kk : W p l e room_1 (s.setDrawn d0) m #[Value.ref b] below meth c H locs kc ks Z (F0 m (pc + 5) ls (.int (xs (i + k)) :: st))) : W p l e room_1 (s.setDrawn d0) m #[Value.ref b] below meth c H locs kc ks Z (F0 m pc ls st) := by
  obtain ⟨⟨hx, hb, hr, hml, hown, hts, hXs, hbl, hlocks, hgv⟩, hK0, hX, hNst⟩ := id hC
  obtain ⟨d1, d2, d3, d4, d5⟩ := hd
  have hX1 : va_X b L xs (s.setDrawn d0) s.heap := hXs
  refine lv_aload_n hx hb d1 rfl (lv_at hl 3 rfl) ?_
  refine lv_iload_n hx hb d2 rfl (lv_at hl 0 rfl) ?_
  refine lv_iconst (v := nI k) hx hb d3 (by rw [nI, Int32.ofInt_eq_ofNat]) ?_
  refine lv_iadd hx hb d4 ?_
  have e1 : nI i + nI k = nI (i + k) := nI_add i k
  rw [e1]
  refine va_sld hx hb hX1 hbl (Nat.not_le.mpr hbl) hS (i := nI (i + k)) ?_ d5 ?_
  · exact vp_in_nI hi (by omega)
  · rw [nI_clamp (by omega)]
    exact kk
def lawA6 (pc : Nat) : Prop := decode code pc = .ok (.aload_n 0, 1) ∧ decode code (pc + 1) = .ok (.iload_n 3, 1) ∧ decode code (pc + 2) = .ok (.bipush 6, 2) ∧ decode code (pc + 4) = .ok (.iadd, 1) ∧ decode code (pc + 5) = .ok (.iaload, 1)
theorem L_arg6 {b L : Nat} {xs : Nat → Int32} (hC : LC p s m meth c b L xs D tc u) (hL : L ≤ 3584) {pc i kc ks : Nat} {H : Heap} {locs : List Loc} {ls : Array Slot} {st : List Value} {d0 : Drawn} (hS : va_S (fun q => s.heap.size ≤ q) s.heap H locs) (hl : lv_has ls 4 (lvL s b i)) (hd : lawA6 pc) (hi : i + 6 < L)
    (kk : W p l e room_1 (s.setDrawn d0) m #[Value.ref b] below meth c H locs kc ks Z (F0 m (pc + 6) ls (.int (xs (i + 6)) :: st))) : W p l e room_1 (s.setDrawn d0) m #[Value.ref b] below meth c H locs kc ks Z (F0 m pc ls st) := by
  obtain ⟨⟨hx, hb, hr, hml, hown, hts, hXs, hbl, hlocks, hgv⟩, hK0, hX, hNst⟩ := id hC
  obtain ⟨d1, d2, d3, d4, d5⟩ := hd
  have hX1 : va_X b L xs (s.setDrawn d0) s.heap := hXs
  refine lv_aload_n hx hb d1 rfl (lv_at hl 3 rfl) ?_
  refine lv_iload_n hx hb d2 rfl (lv_at hl 0 rfl) ?_
  refine lv_bipush (v := nI 6) hx hb d3 (by decide) ?_
  refine lv_iadd hx hb d4 ?_
  have e1 : nI i + nI 6 = nI (i + 6) := nI_add i 6
  rw [e1]
  refine va_sld hx hb hX1 hbl (Nat.not_le.mpr hbl) hS (i := nI (i + 6)) ?_ d5 ?_
  · exact vp_in_nI hi (by omega)
  · rw [nI_clamp (by omega)]
    exact kk
/-- script[i + k] != 0 -/
def lawZ (pc k : Nat) : Prop := lawA pc k ∧ decode code (pc + 5) = .ok (.ifCond .eq 7, 3) ∧ decode code (pc + 8) = .ok (.iconst 1, 1) ∧ decode code (pc + 9) = .ok (.goto 4, 3) ∧ decode code (pc + 12) = .ok (.iconst 0, 1)
theorem L_argZ {b L : Nat} {xs : Nat → Int32} (hC : LC p s m meth c b L xs D tc u) (hL : L ≤ 3584) {pc k i kc ks : Nat} {H : Heap} {locs : List Loc} {ls : Array Slot} {st : List Value} {d0 : Drawn} (hS : va_S (fun q => s.heap.size ≤ q) s.heap H locs) (hl : lv_has ls 4 (lvL s b i)) (hd : lawZ pc k) (hk : k < 6) (hi : i + k < L)
    (kk : W p l e room_1 (s.setDrawn d0) m #[Value.ref b] below meth c H locs kc ks Z (F0 m (pc + 13) ls (.int (if xs (i + k) = 0 then 0 else 1) :: st))) : W p l e room_1 (s.setDrawn d0) m #[Value.ref b] below meth c H locs kc ks Z (F0 m pc ls st) := by
  have hx := hC.1.1
  have hb := hC.1.2.1
  obtain ⟨hA, d1, d2, d3, d4⟩ := hd
  refine L_arg hC hL hS hl hA hk hi ?_
  by_cases z : xs (i + k) = 0
  · rw [if_pos z] at kk
    refine lv_if_eq (tgt := pc + 12) hx hb d1 (by omega) (fun _ => ?_) (fun q => absurd z q)
    exact lv_iconst (v := 0) hx hb d4 (by decide) kk
  · rw [if_neg z] at kk
    refine lv_if_eq (tgt := pc + 12) hx hb d1 (by omega) (fun q => absurd q z) (fun _ => ?_)
    refine lv_iconst (v := 1) hx hb d2 (by decide) ?_
    exact lv_goto (tgt := pc + 13) hx hb d3 (by omega) kk
end LArgs
