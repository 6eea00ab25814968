/-! THE LAW: the case of bits -/
section LBits
variable {Z : State → Prop} {p : Program} {l : Launch} {e : Env} {s : State} {m : MethodId} {below : List Frame} {meth : Method} {c : Code} {D : va_G} {tc : Nat → ClassId} {u : Nat}
/-- (long) x << 32 | y & 0xFFFFFFFFL -/
def lawL (x y : Int32) : Int64 := (x.toInt64 <<< ((32 : Int32).toInt64 &&& 63)) ||| (y.toInt64 &&& 4294967295)
def lawB (pc : Nat) : Prop := lawA pc 3 ∧ decode code (pc + 5) = .ok (.i2l, 1) ∧ decode code (pc + 6) = .ok (.bipush 32, 2) ∧ decode code (pc + 8) = .ok (.lshl, 1) ∧ lawA (pc + 9) 4 ∧ decode code (pc + 14) = .ok (.i2l, 1) ∧ decode code (pc + 15) = .ok (.ldc2_w 62, 3) ∧ decode code (pc + 18) = .ok (.land, 1) ∧ decode code (pc + 19) = .ok (.lor, 1)
theorem lawB_k : Cond.constantLong R_law 62 4294967295 ∈ lw_tbl := by decide +kernel
theorem L_argB {b L : Nat} {xs : Nat → Int32} (hC : LC p s m meth c b L xs D tc u) (hL : L ≤ 3584) {pc i kc ks : Nat} {H : Heap} {locs : List Loc} {ls : Array Slot} {st : List Value} {d0 : Drawn} (hS : va_S (fun q => s.heap.size ≤ q) s.heap H locs) (hl : lv_has ls 4 (lvL s b i)) (hd : lawB pc) (hi : i + 6 < L)
    (kk : W p l e room_1 (s.setDrawn d0) m #[Value.ref b] below meth c H locs kc ks Z (F0 m (pc + 20) ls (.long (lawL (xs (i + 3)) (xs (i + 4))) :: st))) : W p l e room_1 (s.setDrawn d0) m #[Value.ref b] below meth c H locs kc ks Z (F0 m pc ls st) := by
  have hx := hC.1.1
  have hb := hC.1.2.1
  have hown : (s.setDrawn d0).vm.findClass R_law = some m.cls := hC.1.2.2.2.2.1
  have hts := dr_words hC.1.2.2.2.2.2.1 d0
  obtain ⟨hA, d1, d2, d3, hA2, d4, d5, d6, d7⟩ := hd
  refine L_arg (k := 3) hC hL hS hl hA (by decide) (by omega) ?_
  refine lv_i2l hx hb d1 rfl ?_
  refine lv_bipush (v := 32) hx hb d2 (by decide) ?_
  refine lv_lshl hx hb d3 rfl ?_
  refine L_arg (k := 4) hC hL hS hl hA2 (by decide) (by omega) ?_
  refine lv_i2l hx hb d4 rfl ?_
  refine lv_ldc2 hx hb hown (hts _ lawB_k) d5 ?_
  refine lv_land hx hb d6 ?_
  refine lv_lor hx hb d7 ?_
  exact kk
theorem LW_argB {b L : Nat} {xs : Nat → Int32} (hC : LC p s m meth c b L xs D tc u) (hL : L ≤ 3584) {pc i kc ks : Nat} {st : List Value} {S T : eg_S} (hd : lawB pc) (hi : i + 6 < L) (kk : LW Z p l e s m below meth c D tc u b kc ks i (pc + 20) (.long (lawL (xs (i + 3)) (xs (i + 4))) :: st) S T) : LW Z p l e s m below meth c D tc u b kc ks i pc st S T := fun d0 H locs ls h1 h2 h3 h4 h5 => L_argB hC hL h4 h5 hd hi (kk d0 H locs ls h1 h2 h3 h4 h5)
theorem cs_11 {b L : Nat} {xs : Nat → Int32} (hC : LC p s m meth c b L xs D tc u) (hL : L ≤ 3584) {i ks : Nat} {S T : eg_S} (hi : i + 6 < L) (hks : ks ≤ room_1.slots) (R : Rel S T) (kk : ∀ S' T', Rel S' T' → LW Z p l e s m below meth c D tc u b 122 ks i 1706 [] S' T') : LW Z p l e s m below meth c D tc u b 122 ks i 648 [] S T := by
  obtain ⟨P, h1, h2⟩ := st_bits R (xs (i + 1)) (xs (i + 2)) (lawL (xs (i + 3)) (xs (i + 4)))
  refine LW_x hC (show decode code 648 = _ by decide +kernel) ?_
  refine LW_arg (k := 1) hC hL (show lawA 649 1 by unfold lawA; decide +kernel) (by decide) (by omega) ?_
  refine LW_arg (k := 2) hC hL (show lawA 654 2 by unfold lawA; decide +kernel) (by decide) (by omega) ?_
  refine LW_argB hC hL (show lawB 659 from ⟨by unfold lawA; decide +kernel, by decide +kernel, by decide +kernel, by decide +kernel, by unfold lawA; decide +kernel, by decide +kernel, by decide +kernel, by decide +kernel, by decide +kernel⟩) hi ?_
  refine LW_callX (idx := 64) (as := [.int (xs (i + 1)), .int (xs (i + 2)), .long (lawL (xs (i + 3)) (xs (i + 4)))]) hC (show lawC n_X_bits 64 3 11 679 by unfold lawC; decide +kernel) (Nat.le_of_ble_eq_true rfl) rfl (by decide +kernel) (Nat.le_of_ble_eq_true rfl) hks (Nat.le_of_ble_eq_true rfl) (fun _ => rfl) h1 (fun r S' hP => ?_)
  refine LW_m hC (show decode code 682 = _ by decide +kernel) ?_
  refine LW_arg (k := 1) hC hL (show lawA 683 1 by unfold lawA; decide +kernel) (by decide) (by omega) ?_
  refine LW_arg (k := 2) hC hL (show lawA 688 2 by unfold lawA; decide +kernel) (by decide) (by omega) ?_
  refine LW_argB hC hL (show lawB 693 from ⟨by unfold lawA; decide +kernel, by decide +kernel, by decide +kernel, by decide +kernel, by unfold lawA; decide +kernel, by decide +kernel, by decide +kernel, by decide +kernel, by decide +kernel⟩) hi ?_
  refine LW_callM (idx := 68) (as := [.int (xs (i + 1)), .int (xs (i + 2)), .long (lawL (xs (i + 3)) (xs (i + 4)))]) hC (show lawC n_M_bits 68 3 12 713 by unfold lawC; decide +kernel) (Nat.le_of_ble_eq_true rfl) rfl (by decide +kernel) (Nat.le_of_ble_eq_true rfl) hks (Nat.le_of_ble_eq_true rfl) (fun _ => rfl) (h2 r S' hP) (fun T' hR => ?_)
  exact LW_eq (off := 989) hC (by decide +kernel) (kk S' T' hR)
end LBits
