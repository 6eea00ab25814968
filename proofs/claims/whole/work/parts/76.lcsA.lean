/-! THE LAW: its cases, A (by gen76.py) -/
theorem z01 (x : Int32) : (if x = 0 then (0 : Int32) else 1) = 0 ∨ (if x = 0 then (0 : Int32) else 1) = 1 := by split <;> simp
section LCs
variable {Z : State → Prop} {p : Program} {l : Launch} {e : Env} {s : State} {m : MethodId} {below : List Frame} {meth : Method} {c : Code} {D : va_G} {tc : Nat → ClassId} {u : Nat}
theorem cs_0 {b L : Nat} {xs : Nat → Int32} (hC : LC p s m meth c b L xs D tc u) (hL : L ≤ 3584) {i ks : Nat} {S T : eg_S} (hi : i + 6 < L) (hks : ks ≤ room_1.slots) (R : Rel S T) (kk : ∀ S' T', Rel S' T' → LW Z p l e s m below meth c D tc u b 122 ks i 1706 [] S' T') : LW Z p l e s m below meth c D tc u b 122 ks i 192 [] S T := by
  obtain ⟨P, h1, h2⟩ := (st_point R (xs (i + 1)) (xs (i + 2)) (xs (i + 3)) (xs (i + 4))).to.toD
  refine LW_x hC (show decode code 192 = _ by decide +kernel) ?_
  refine LW_arg (k := 1) hC hL (show lawA 193 1 by unfold lawA; decide +kernel) (by decide) (by omega) ?_
  refine LW_arg (k := 2) hC hL (show lawA 198 2 by unfold lawA; decide +kernel) (by decide) (by omega) ?_
  refine LW_arg (k := 3) hC hL (show lawA 203 3 by unfold lawA; decide +kernel) (by decide) (by omega) ?_
  refine LW_arg (k := 4) hC hL (show lawA 208 4 by unfold lawA; decide +kernel) (by decide) (by omega) ?_
  refine LW_callX (idx := 13) (as := [.int (xs (i + 1)), .int (xs (i + 2)), .int (xs (i + 3)), .int (xs (i + 4))]) hC (show lawC n_X_point 13 4 11 213 by unfold lawC; decide +kernel) (Nat.le_of_ble_eq_true rfl) rfl (by decide +kernel) (Nat.le_of_ble_eq_true rfl) hks (Nat.le_of_ble_eq_true rfl) (fun _ => rfl) h1 (fun r S' hP => ?_)
  refine LW_m hC (show decode code 216 = _ by decide +kernel) ?_
  refine LW_arg (k := 1) hC hL (show lawA 217 1 by unfold lawA; decide +kernel) (by decide) (by omega) ?_
  refine LW_arg (k := 2) hC hL (show lawA 222 2 by unfold lawA; decide +kernel) (by decide) (by omega) ?_
  refine LW_arg (k := 3) hC hL (show lawA 227 3 by unfold lawA; decide +kernel) (by decide) (by omega) ?_
  refine LW_arg (k := 4) hC hL (show lawA 232 4 by unfold lawA; decide +kernel) (by decide) (by omega) ?_
  refine LW_callM (idx := 17) (as := [.int (xs (i + 1)), .int (xs (i + 2)), .int (xs (i + 3)), .int (xs (i + 4))]) hC (show lawC n_M_point 17 4 12 237 by unfold lawC; decide +kernel) (Nat.le_of_ble_eq_true rfl) rfl (by decide +kernel) (Nat.le_of_ble_eq_true rfl) hks (Nat.le_of_ble_eq_true rfl) (fun _ => rfl) (h2 r S' hP) (fun T' hR => ?_)
  exact LW_eq (off := 1465) hC (by decide +kernel) (kk S' T' hR)
theorem cs_1 {b L : Nat} {xs : Nat → Int32} (hC : LC p s m meth c b L xs D tc u) (hL : L ≤ 3584) {i ks : Nat} {S T : eg_S} (hi : i + 6 < L) (hks : ks ≤ room_1.slots) (R : Rel S T) (kk : ∀ S' T', Rel S' T' → LW Z p l e s m below meth c D tc u b 122 ks i 1706 [] S' T') : LW Z p l e s m below meth c D tc u b 122 ks i 246 [] S T := by
  obtain ⟨P, h1, h2⟩ := (st_miss R (xs (i + 1))).to.toD
  refine LW_x hC (show decode code 246 = _ by decide +kernel) ?_
  refine LW_arg (k := 1) hC hL (show lawA 247 1 by unfold lawA; decide +kernel) (by decide) (by omega) ?_
  refine LW_callX (idx := 18) (as := [.int (xs (i + 1))]) hC (show lawC n_X_miss 18 1 11 252 by unfold lawC; decide +kernel) (Nat.le_of_ble_eq_true rfl) rfl (by decide +kernel) (Nat.le_of_ble_eq_true rfl) hks (Nat.le_of_ble_eq_true rfl) (fun _ => rfl) h1 (fun r S' hP => ?_)
  refine LW_m hC (show decode code 255 = _ by decide +kernel) ?_
  refine LW_arg (k := 1) hC hL (show lawA 256 1 by unfold lawA; decide +kernel) (by decide) (by omega) ?_
  refine LW_callM (idx := 22) (as := [.int (xs (i + 1))]) hC (show lawC n_M_miss 22 1 12 261 by unfold lawC; decide +kernel) (Nat.le_of_ble_eq_true rfl) rfl (by decide +kernel) (Nat.le_of_ble_eq_true rfl) hks (Nat.le_of_ble_eq_true rfl) (fun _ => rfl) (h2 r S' hP) (fun T' hR => ?_)
  exact LW_eq (off := 1441) hC (by decide +kernel) (kk S' T' hR)
theorem cs_2 {b L : Nat} {xs : Nat → Int32} (hC : LC p s m meth c b L xs D tc u) (hL : L ≤ 3584) {i ks : Nat} {S T : eg_S} (hi : i + 6 < L) (hks : ks ≤ room_1.slots) (R : Rel S T) (kk : ∀ S' T', Rel S' T' → LW Z p l e s m below meth c D tc u b 122 ks i 1706 [] S' T') : LW Z p l e s m below meth c D tc u b 122 ks i 270 [] S T := by
  obtain ⟨P, h1, h2⟩ := (st_clear R (xs (i + 1))).to.toD
  refine LW_x hC (show decode code 270 = _ by decide +kernel) ?_
  refine LW_arg (k := 1) hC hL (show lawA 271 1 by unfold lawA; decide +kernel) (by decide) (by omega) ?_
  refine LW_callX (idx := 23) (as := [.int (xs (i + 1))]) hC (show lawC n_X_clear 23 1 11 276 by unfold lawC; decide +kernel) (Nat.le_of_ble_eq_true rfl) rfl (by decide +kernel) (Nat.le_of_ble_eq_true rfl) hks (Nat.le_of_ble_eq_true rfl) (fun _ => rfl) h1 (fun r S' hP => ?_)
  refine LW_m hC (show decode code 279 = _ by decide +kernel) ?_
  refine LW_arg (k := 1) hC hL (show lawA 280 1 by unfold lawA; decide +kernel) (by decide) (by omega) ?_
  refine LW_callM (idx := 26) (as := [.int (xs (i + 1))]) hC (show lawC n_M_clear 26 1 12 285 by unfold lawC; decide +kernel) (Nat.le_of_ble_eq_true rfl) rfl (by decide +kernel) (Nat.le_of_ble_eq_true rfl) hks (Nat.le_of_ble_eq_true rfl) (fun _ => rfl) (h2 r S' hP) (fun T' hR => ?_)
  exact LW_eq (off := 1417) hC (by decide +kernel) (kk S' T' hR)
theorem cs_3 {b L : Nat} {xs : Nat → Int32} (hC : LC p s m meth c b L xs D tc u) (hL : L ≤ 3584) {i ks : Nat} {S T : eg_S} (hi : i + 6 < L) (hks : ks ≤ room_1.slots) (R : Rel S T) (kk : ∀ S' T', Rel S' T' → LW Z p l e s m below meth c D tc u b 122 ks i 1706 [] S' T') : LW Z p l e s m below meth c D tc u b 122 ks i 294 [] S T := by
  obtain ⟨P, h1, h2⟩ := (st_at R (xs (i + 1)) (xs (i + 2)) (xs (i + 3))).to.toD
  refine LW_x hC (show decode code 294 = _ by decide +kernel) ?_
  refine LW_arg (k := 1) hC hL (show lawA 295 1 by unfold lawA; decide +kernel) (by decide) (by omega) ?_
  refine LW_arg (k := 2) hC hL (show lawA 300 2 by unfold lawA; decide +kernel) (by decide) (by omega) ?_
  refine LW_arg (k := 3) hC hL (show lawA 305 3 by unfold lawA; decide +kernel) (by decide) (by omega) ?_
  refine LW_callX (idx := 27) (as := [.int (xs (i + 1)), .int (xs (i + 2)), .int (xs (i + 3))]) hC (show lawC n_X_at 27 3 11 310 by unfold lawC; decide +kernel) (Nat.le_of_ble_eq_true rfl) rfl (by decide +kernel) (Nat.le_of_ble_eq_true rfl) hks (Nat.le_of_ble_eq_true rfl) (fun _ => rfl) h1 (fun r S' hP => ?_)
  refine LW_m hC (show decode code 313 = _ by decide +kernel) ?_
  refine LW_arg (k := 1) hC hL (show lawA 314 1 by unfold lawA; decide +kernel) (by decide) (by omega) ?_
  refine LW_arg (k := 2) hC hL (show lawA 319 2 by unfold lawA; decide +kernel) (by decide) (by omega) ?_
  refine LW_arg (k := 3) hC hL (show lawA 324 3 by unfold lawA; decide +kernel) (by decide) (by omega) ?_
  refine LW_callM (idx := 31) (as := [.int (xs (i + 1)), .int (xs (i + 2)), .int (xs (i + 3))]) hC (show lawC n_M_at_III 31 3 12 329 by unfold lawC; decide +kernel) (Nat.le_of_ble_eq_true rfl) rfl (by decide +kernel) (Nat.le_of_ble_eq_true rfl) hks (Nat.le_of_ble_eq_true rfl) (fun _ => rfl) (h2 r S' hP) (fun T' hR => ?_)
  exact LW_eq (off := 1373) hC (by decide +kernel) (kk S' T' hR)
theorem cs_4 {b L : Nat} {xs : Nat → Int32} (hC : LC p s m meth c b L xs D tc u) (hL : L ≤ 3584) {i ks : Nat} {S T : eg_S} (hi : i + 6 < L) (hks : ks ≤ room_1.slots) (R : Rel S T) (kk : ∀ S' T', Rel S' T' → LW Z p l e s m below meth c D tc u b 122 ks i 1706 [] S' T') : LW Z p l e s m below meth c D tc u b 122 ks i 338 [] S T := by
  obtain ⟨P, h1, h2⟩ := (st_points R (xs (i + 1)) (if xs (i + 2) = 0 then 0 else 1) (z01 _)).toD
  refine LW_x hC (show decode code 338 = _ by decide +kernel) ?_
  refine LW_arg (k := 1) hC hL (show lawA 339 1 by unfold lawA; decide +kernel) (by decide) (by omega) ?_
  refine LW_argZ (k := 2) hC hL (show lawZ 344 2 by unfold lawZ lawA; decide +kernel) (by decide) (by omega) ?_
  refine LW_callX (idx := 32) (as := [.int (xs (i + 1)), .int (if xs (i + 2) = 0 then 0 else 1)]) hC (show lawC n_X_points 32 2 11 357 by unfold lawC; decide +kernel) (Nat.le_of_ble_eq_true rfl) rfl (by decide +kernel) (Nat.le_of_ble_eq_true rfl) hks (Nat.le_of_ble_eq_true rfl) (fun _ => rfl) h1 (fun r S' hP => ?_)
  refine LW_m hC (show decode code 360 = _ by decide +kernel) ?_
  refine LW_arg (k := 1) hC hL (show lawA 361 1 by unfold lawA; decide +kernel) (by decide) (by omega) ?_
  refine LW_argZ (k := 2) hC hL (show lawZ 366 2 by unfold lawZ lawA; decide +kernel) (by decide) (by omega) ?_
  refine LW_callM (idx := 36) (as := [.int (xs (i + 1)), .int (if xs (i + 2) = 0 then 0 else 1)]) hC (show lawC n_M_points 36 2 12 379 by unfold lawC; decide +kernel) (Nat.le_of_ble_eq_true rfl) rfl (by decide +kernel) (Nat.le_of_ble_eq_true rfl) hks (Nat.le_of_ble_eq_true rfl) (fun _ => rfl) (h2 r S' hP) (fun T' hR => ?_)
  exact LW_eq (off := 1323) hC (by decide +kernel) (kk S' T' hR)
theorem cs_5 {b L : Nat} {xs : Nat → Int32} (hC : LC p s m meth c b L xs D tc u) (hL : L ≤ 3584) {i ks : Nat} {S T : eg_S} (hi : i + 6 < L) (hks : ks ≤ room_1.slots) (R : Rel S T) (kk : ∀ S' T', Rel S' T' → LW Z p l e s m below meth c D tc u b 122 ks i 1706 [] S' T') : LW Z p l e s m below meth c D tc u b 122 ks i 388 [] S T := by
  obtain ⟨P, h1, h2⟩ := (st_mend R (xs (i + 1))).toD
  refine LW_x hC (show decode code 388 = _ by decide +kernel) ?_
  refine LW_arg (k := 1) hC hL (show lawA 389 1 by unfold lawA; decide +kernel) (by decide) (by omega) ?_
  refine LW_callX (idx := 37) (as := [.int (xs (i + 1))]) hC (show lawC n_X_mend 37 1 11 394 by unfold lawC; decide +kernel) (Nat.le_of_ble_eq_true rfl) rfl (by decide +kernel) (Nat.le_of_ble_eq_true rfl) hks (Nat.le_of_ble_eq_true rfl) (fun _ => rfl) h1 (fun r S' hP => ?_)
  refine LW_m hC (show decode code 397 = _ by decide +kernel) ?_
  refine LW_arg (k := 1) hC hL (show lawA 398 1 by unfold lawA; decide +kernel) (by decide) (by omega) ?_
  refine LW_callM (idx := 40) (as := [.int (xs (i + 1))]) hC (show lawC n_M_mend 40 1 12 403 by unfold lawC; decide +kernel) (Nat.le_of_ble_eq_true rfl) rfl (by decide +kernel) (Nat.le_of_ble_eq_true rfl) hks (Nat.le_of_ble_eq_true rfl) (fun _ => rfl) (h2 r S' hP) (fun T' hR => ?_)
  exact LW_eq (off := 1299) hC (by decide +kernel) (kk S' T' hR)
end LCs
