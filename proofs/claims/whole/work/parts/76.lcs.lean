/-! THE LAW: its cases (by gen76.py) -/
theorem z01 (x : Int32) : (if x = 0 then (0 : Int32) else 1) = 0 ∨ (if x = 0 then (0 : Int32) else 1) = 1 := by split <;> simp
section LCs
variable {Z : State → Prop} {p : Program} {l : Launch} {e : Env} {s : State} {m : MethodId} {below : List Frame} {meth : Method} {c : Code} {D : va_G} {tc : Nat → ClassId} {u : Nat}
theorem cs_0 {b L : Nat} {xs : Nat → Int32} (hC : LC p s m meth c b L xs D tc u) (hL : L ≤ 3584) {i ks : Nat} {S T : eg_S} (hi : i + 6 < L) (hks : ks ≤ room_1.slots) (R : Rel S T) (kk : ∀ S' T', Rel S' T' → LW Z p l e s m below meth c D tc u b 122 ks i 1706 [] S' T') : LW Z p l e s m below meth c D tc u b 122 ks i 192 [] S T := by
  obtain ⟨P, h1, h2⟩ := (st_point R (xs (i + 1)) (xs (i + 2)) (xs (i + 3)) (xs (i + 4))).to.toD
  refine LW_x hC (show decode code 192 = _ by decide +kernel) ?_
  refine LW_arg (k := 1) hC hL (show lawA 193 1 by unfold lawA; decide +kernel) (by decide) (by omega) ?_
  refine LW_arg (k := 2) hC hL (show lawA 198 2 by unfold lawA; decide +kernel) (by decide) (by omega) ?_
  refine LW_arg (k := 3) hC hL (show lawA 203 3 by unfold lawA; decide +kernel) (by decide) (by omega) ?_
  refine LW_arg (k := 4) hC hL (show lawA 208 4 by unfold lawA; decide +kernel) (by decide) (by omega) ?_
  refine LW_callX (idx := 13) (as := [.int (xs (i + 1)), .int (xs (i + 2)), .int (xs (i + 3)), .int (xs (i + 4))]) hC (show lawC n_X_point 13 4 11 213 by unfold lawC; decide +kernel) (Nat.le_of_ble_eq_true rfl) rfl (by decide +kernel) (Nat.le_of_ble_eq_true rfl) hks (Nat.le_of_ble_eq_true rfl) (fun _ => rfl) h1 (fun r S' hP => ?_)
  refine LW_m hC (show decode code 216 = _ by decide +kernel) ?_
  refine LW_arg (k := 1) hC hL (show lawA 217 1 by unfold lawA; decide +kernel) (by decide) (by omega) ?_
  refine LW_arg (k := 2) hC hL (show lawA 222 2 by unfold lawA; decide +kernel) (by decide) (by omega) ?_
  refine LW_arg (k := 3) hC hL (show lawA 227 3 by unfold lawA; decide +kernel) (by decide) (by omega) ?_
  refine LW_arg (k := 4) hC hL (show lawA 232 4 by unfold lawA; decide +kernel) (by decide) (by omega) ?_
  refine LW_callM (idx := 17) (as := [.int (xs (i + 1)), .int (xs (i + 2)), .int (xs (i + 3)), .int (xs (i + 4))]) hC (show lawC n_M_point 17 4 12 237 by unfold lawC; decide +kernel) (Nat.le_of_ble_eq_true rfl) rfl (by decide +kernel) (Nat.le_of_ble_eq_true rfl) hks (Nat.le_of_ble_eq_true rfl) (fun _ => rfl) (h2 r S' hP) (fun T' hR => ?_)
  exact LW_eq (off := 1465) hC (by decide +kernel) (kk S' T' hR)
theorem cs_1 {b L : Nat} {xs : Nat → Int32} (hC : LC p s m meth c b L xs D tc u) (hL : L ≤ 3584) {i ks : Nat} {S T : eg_S} (hi : i + 6 < L) (hks : ks ≤ room_1.slots) (R : Rel S T) (kk : ∀ S' T', Rel S' T' → LW Z p l e s m below meth c D tc u b 122 ks i 1706 [] S' T') : LW Z p l e s m below meth c D tc u b 122 ks i 246 [] S T := by
  obtain ⟨P, h1, h2⟩ := (st_miss R (xs (i + 1))).to.toD
  refine LW_x hC (show decode code 246 = _ by decide +kernel) ?_
  refine LW_arg (k := 1) hC hL (show lawA 247 1 by unfold lawA; decide +kernel) (by decide) (by omega) ?_
  refine LW_callX (idx := 18) (as := [.int (xs (i + 1))]) hC (show lawC n_X_miss 18 1 11 252 by unfold lawC; decide +kernel) (Nat.le_of_ble_eq_true rfl) rfl (by decide +kernel) (Nat.le_of_ble_eq_true rfl) hks (Nat.le_of_ble_eq_true rfl) (fun _ => rfl) h1 (fun r S' hP => ?_)
  refine LW_m hC (show decode code 255 = _ by decide +kernel) ?_
  refine LW_arg (k := 1) hC hL (show lawA 256 1 by unfold lawA; decide +kernel) (by decide) (by omega) ?_
  refine LW_callM (idx := 22) (as := [.int (xs (i + 1))]) hC (show lawC n_M_miss 22 1 12 261 by unfold lawC; decide +kernel) (Nat.le_of_ble_eq_true rfl) rfl (by decide +kernel) (Nat.le_of_ble_eq_true rfl) hks (Nat.le_of_ble_eq_true rfl) (fun _ => rfl) (h2 r S' hP) (fun T' hR => ?_)
  exact LW_eq (off := 1441) hC (by decide +kernel) (kk S' T' hR)
theorem cs_2 {b L : Nat} {xs : Nat → Int32} (hC : LC p s m meth c b L xs D tc u) (hL : L ≤ 3584) {i ks : Nat} {S T : eg_S} (hi : i + 6 < L) (hks : ks ≤ room_1.slots) (R : Rel S T) (kk : ∀ S' T', Rel S' T' → LW Z p l e s m below meth c D tc u b 122 ks i 1706 [] S' T') : LW Z p l e s m below meth c D tc u b 122 ks i 270 [] S T := by
  obtain ⟨P, h1, h2⟩ := (st_clear R (xs (i + 1))).to.toD
  refine LW_x hC (show decode code 270 = _ by decide +kernel) ?_
  refine LW_arg (k := 1) hC hL (show lawA 271 1 by unfold lawA; decide +kernel) (by decide) (by omega) ?_
  refine LW_callX (idx := 23) (as := [.int (xs (i + 1))]) hC (show lawC n_X_clear 23 1 11 276 by unfold lawC; decide +kernel) (Nat.le_of_ble_eq_true rfl) rfl (by decide +kernel) (Nat.le_of_ble_eq_true rfl) hks (Nat.le_of_ble_eq_true rfl) (fun _ => rfl) h1 (fun r S' hP => ?_)
  refine LW_m hC (show decode code 279 = _ by decide +kernel) ?_
  refine LW_arg (k := 1) hC hL (show lawA 280 1 by unfold lawA; decide +kernel) (by decide) (by omega) ?_
  refine LW_callM (idx := 26) (as := [.int (xs (i + 1))]) hC (show lawC n_M_clear 26 1 12 285 by unfold lawC; decide +kernel) (Nat.le_of_ble_eq_true rfl) rfl (by decide +kernel) (Nat.le_of_ble_eq_true rfl) hks (Nat.le_of_ble_eq_true rfl) (fun _ => rfl) (h2 r S' hP) (fun T' hR => ?_)
  exact LW_eq (off := 1417) hC (by decide +kernel) (kk S' T' hR)
theorem cs_3 {b L : Nat} {xs : Nat → Int32} (hC : LC p s m meth c b L xs D tc u) (hL : L ≤ 3584) {i ks : Nat} {S T : eg_S} (hi : i + 6 < L) (hks : ks ≤ room_1.slots) (R : Rel S T) (kk : ∀ S' T', Rel S' T' → LW Z p l e s m below meth c D tc u b 122 ks i 1706 [] S' T') : LW Z p l e s m below meth c D tc u b 122 ks i 294 [] S T := by
  obtain ⟨P, h1, h2⟩ := (st_at R (xs (i + 1)) (xs (i + 2)) (xs (i + 3))).to.toD
  refine LW_x hC (show decode code 294 = _ by decide +kernel) ?_
  refine LW_arg (k := 1) hC hL (show lawA 295 1 by unfold lawA; decide +kernel) (by decide) (by omega) ?_
  refine LW_arg (k := 2) hC hL (show lawA 300 2 by unfold lawA; decide +kernel) (by decide) (by omega) ?_
  refine LW_arg (k := 3) hC hL (show lawA 305 3 by unfold lawA; decide +kernel) (by decide) (by omega) ?_
  refine LW_callX (idx := 27) (as := [.int (xs (i + 1)), .int (xs (i + 2)), .int (xs (i + 3))]) hC (show lawC n_X_at 27 3 11 310 by unfold lawC; decide +kernel) (Nat.le_of_ble_eq_true rfl) rfl (by decide +kernel) (Nat.le_of_ble_eq_true rfl) hks (Nat.le_of_ble_eq_true rfl) (fun _ => rfl) h1 (fun r S' hP => ?_)
  refine LW_m hC (show decode code 313 = _ by decide +kernel) ?_
  refine LW_arg (k := 1) hC hL (show lawA 314 1 by unfold lawA; decide +kernel) (by decide) (by omega) ?_
  refine LW_arg (k := 2) hC hL (show lawA 319 2 by unfold lawA; decide +kernel) (by decide) (by omega) ?_
  refine LW_arg (k := 3) hC hL (show lawA 324 3 by unfold lawA; decide +kernel) (by decide) (by omega) ?_
  refine LW_callM (idx := 31) (as := [.int (xs (i + 1)), .int (xs (i + 2)), .int (xs (i + 3))]) hC (show lawC n_M_at_III 31 3 12 329 by unfold lawC; decide +kernel) (Nat.le_of_ble_eq_true rfl) rfl (by decide +kernel) (Nat.le_of_ble_eq_true rfl) hks (Nat.le_of_ble_eq_true rfl) (fun _ => rfl) (h2 r S' hP) (fun T' hR => ?_)
  exact LW_eq (off := 1373) hC (by decide +kernel) (kk S' T' hR)
theorem cs_4 {b L : Nat} {xs : Nat → Int32} (hC : LC p s m meth c b L xs D tc u) (hL : L ≤ 3584) {i ks : Nat} {S T : eg_S} (hi : i + 6 < L) (hks : ks ≤ room_1.slots) (R : Rel S T) (kk : ∀ S' T', Rel S' T' → LW Z p l e s m below meth c D tc u b 122 ks i 1706 [] S' T') : LW Z p l e s m below meth c D tc u b 122 ks i 338 [] S T := by
  obtain ⟨P, h1, h2⟩ := (st_points R (xs (i + 1)) (if xs (i + 2) = 0 then 0 else 1) (z01 _)).toD
  refine LW_x hC (show decode code 338 = _ by decide +kernel) ?_
  refine LW_arg (k := 1) hC hL (show lawA 339 1 by unfold lawA; decide +kernel) (by decide) (by omega) ?_
  refine LW_argZ (k := 2) hC hL (show lawZ 344 2 by unfold lawZ lawA; decide +kernel) (by decide) (by omega) ?_
  refine LW_callX (idx := 32) (as := [.int (xs (i + 1)), .int (if xs (i + 2) = 0 then 0 else 1)]) hC (show lawC n_X_points 32 2 11 357 by unfold lawC; decide +kernel) (Nat.le_of_ble_eq_true rfl) rfl (by decide +kernel) (Nat.le_of_ble_eq_true rfl) hks (Nat.le_of_ble_eq_true rfl) (fun _ => rfl) h1 (fun r S' hP => ?_)
  refine LW_m hC (show decode code 360 = _ by decide +kernel) ?_
  refine LW_arg (k := 1) hC hL (show lawA 361 1 by unfold lawA; decide +kernel) (by decide) (by omega) ?_
  refine LW_argZ (k := 2) hC hL (show lawZ 366 2 by unfold lawZ lawA; decide +kernel) (by decide) (by omega) ?_
  refine LW_callM (idx := 36) (as := [.int (xs (i + 1)), .int (if xs (i + 2) = 0 then 0 else 1)]) hC (show lawC n_M_points 36 2 12 379 by unfold lawC; decide +kernel) (Nat.le_of_ble_eq_true rfl) rfl (by decide +kernel) (Nat.le_of_ble_eq_true rfl) hks (Nat.le_of_ble_eq_true rfl) (fun _ => rfl) (h2 r S' hP) (fun T' hR => ?_)
  exact LW_eq (off := 1323) hC (by decide +kernel) (kk S' T' hR)
theorem cs_5 {b L : Nat} {xs : Nat → Int32} (hC : LC p s m meth c b L xs D tc u) (hL : L ≤ 3584) {i ks : Nat} {S T : eg_S} (hi : i + 6 < L) (hks : ks ≤ room_1.slots) (R : Rel S T) (kk : ∀ S' T', Rel S' T' → LW Z p l e s m below meth c D tc u b 122 ks i 1706 [] S' T') : LW Z p l e s m below meth c D tc u b 122 ks i 388 [] S T := by
  obtain ⟨P, h1, h2⟩ := (st_mend R (xs (i + 1))).toD
  refine LW_x hC (show decode code 388 = _ by decide +kernel) ?_
  refine LW_arg (k := 1) hC hL (show lawA 389 1 by unfold lawA; decide +kernel) (by decide) (by omega) ?_
  refine LW_callX (idx := 37) (as := [.int (xs (i + 1))]) hC (show lawC n_X_mend 37 1 11 394 by unfold lawC; decide +kernel) (Nat.le_of_ble_eq_true rfl) rfl (by decide +kernel) (Nat.le_of_ble_eq_true rfl) hks (Nat.le_of_ble_eq_true rfl) (fun _ => rfl) h1 (fun r S' hP => ?_)
  refine LW_m hC (show decode code 397 = _ by decide +kernel) ?_
  refine LW_arg (k := 1) hC hL (show lawA 398 1 by unfold lawA; decide +kernel) (by decide) (by omega) ?_
  refine LW_callM (idx := 40) (as := [.int (xs (i + 1))]) hC (show lawC n_M_mend 40 1 12 403 by unfold lawC; decide +kernel) (Nat.le_of_ble_eq_true rfl) rfl (by decide +kernel) (Nat.le_of_ble_eq_true rfl) hks (Nat.le_of_ble_eq_true rfl) (fun _ => rfl) (h2 r S' hP) (fun T' hR => ?_)
  exact LW_eq (off := 1299) hC (by decide +kernel) (kk S' T' hR)
theorem cs_6 {b L : Nat} {xs : Nat → Int32} (hC : LC p s m meth c b L xs D tc u) (hL : L ≤ 3584) {i ks : Nat} {S T : eg_S} (hi : i + 6 < L) (hks : ks ≤ room_1.slots) (R : Rel S T) (kk : ∀ S' T', Rel S' T' → LW Z p l e s m below meth c D tc u b 122 ks i 1706 [] S' T') : LW Z p l e s m below meth c D tc u b 122 ks i 412 [] S T := by
  obtain ⟨P, h1, h2⟩ := (st_grid R (xs (i + 1)) (xs (i + 2)) (xs (i + 3))).toD
  refine LW_x hC (show decode code 412 = _ by decide +kernel) ?_
  refine LW_arg (k := 1) hC hL (show lawA 413 1 by unfold lawA; decide +kernel) (by decide) (by omega) ?_
  refine LW_arg (k := 2) hC hL (show lawA 418 2 by unfold lawA; decide +kernel) (by decide) (by omega) ?_
  refine LW_arg (k := 3) hC hL (show lawA 423 3 by unfold lawA; decide +kernel) (by decide) (by omega) ?_
  refine LW_callX (idx := 41) (as := [.int (xs (i + 1)), .int (xs (i + 2)), .int (xs (i + 3))]) hC (show lawC n_X_grid 41 3 11 428 by unfold lawC; decide +kernel) (Nat.le_of_ble_eq_true rfl) rfl (by decide +kernel) (Nat.le_of_ble_eq_true rfl) hks (Nat.le_of_ble_eq_true rfl) (fun _ => rfl) h1 (fun r S' hP => ?_)
  refine LW_m hC (show decode code 431 = _ by decide +kernel) ?_
  refine LW_arg (k := 1) hC hL (show lawA 432 1 by unfold lawA; decide +kernel) (by decide) (by omega) ?_
  refine LW_arg (k := 2) hC hL (show lawA 437 2 by unfold lawA; decide +kernel) (by decide) (by omega) ?_
  refine LW_arg (k := 3) hC hL (show lawA 442 3 by unfold lawA; decide +kernel) (by decide) (by omega) ?_
  refine LW_callM (idx := 44) (as := [.int (xs (i + 1)), .int (xs (i + 2)), .int (xs (i + 3))]) hC (show lawC n_M_grid 44 3 12 447 by unfold lawC; decide +kernel) (Nat.le_of_ble_eq_true rfl) rfl (by decide +kernel) (Nat.le_of_ble_eq_true rfl) hks (Nat.le_of_ble_eq_true rfl) (fun _ => rfl) (h2 r S' hP) (fun T' hR => ?_)
  exact LW_eq (off := 1255) hC (by decide +kernel) (kk S' T' hR)
theorem cs_7 {b L : Nat} {xs : Nat → Int32} (hC : LC p s m meth c b L xs D tc u) (hL : L ≤ 3584) {i ks : Nat} {S T : eg_S} (hi : i + 6 < L) (hks : ks ≤ room_1.slots) (R : Rel S T) (kk : ∀ S' T', Rel S' T' → LW Z p l e s m below meth c D tc u b 122 ks i 1706 [] S' T') : LW Z p l e s m below meth c D tc u b 122 ks i 456 [] S T := by
  obtain ⟨P, h1, h2⟩ := (st_off R (xs (i + 1)) (xs (i + 2)) (if xs (i + 3) = 0 then 0 else 1) (z01 _)).toD
  refine LW_x hC (show decode code 456 = _ by decide +kernel) ?_
  refine LW_arg (k := 1) hC hL (show lawA 457 1 by unfold lawA; decide +kernel) (by decide) (by omega) ?_
  refine LW_arg (k := 2) hC hL (show lawA 462 2 by unfold lawA; decide +kernel) (by decide) (by omega) ?_
  refine LW_argZ (k := 3) hC hL (show lawZ 467 3 by unfold lawZ lawA; decide +kernel) (by decide) (by omega) ?_
  refine LW_callX (idx := 45) (as := [.int (xs (i + 1)), .int (xs (i + 2)), .int (if xs (i + 3) = 0 then 0 else 1)]) hC (show lawC n_X_off 45 3 11 480 by unfold lawC; decide +kernel) (Nat.le_of_ble_eq_true rfl) rfl (by decide +kernel) (Nat.le_of_ble_eq_true rfl) hks (Nat.le_of_ble_eq_true rfl) (fun _ => rfl) h1 (fun r S' hP => ?_)
  refine LW_m hC (show decode code 483 = _ by decide +kernel) ?_
  refine LW_arg (k := 1) hC hL (show lawA 484 1 by unfold lawA; decide +kernel) (by decide) (by omega) ?_
  refine LW_arg (k := 2) hC hL (show lawA 489 2 by unfold lawA; decide +kernel) (by decide) (by omega) ?_
  refine LW_argZ (k := 3) hC hL (show lawZ 494 3 by unfold lawZ lawA; decide +kernel) (by decide) (by omega) ?_
  refine LW_callM (idx := 49) (as := [.int (xs (i + 1)), .int (xs (i + 2)), .int (if xs (i + 3) = 0 then 0 else 1)]) hC (show lawC n_M_off 49 3 12 507 by unfold lawC; decide +kernel) (Nat.le_of_ble_eq_true rfl) rfl (by decide +kernel) (Nat.le_of_ble_eq_true rfl) hks (Nat.le_of_ble_eq_true rfl) (fun _ => rfl) (h2 r S' hP) (fun T' hR => ?_)
  exact LW_eq (off := 1195) hC (by decide +kernel) (kk S' T' hR)
theorem cs_8 {b L : Nat} {xs : Nat → Int32} (hC : LC p s m meth c b L xs D tc u) (hL : L ≤ 3584) {i ks : Nat} {S T : eg_S} (hi : i + 6 < L) (hks : ks ≤ room_1.slots) (R : Rel S T) (kk : ∀ S' T', Rel S' T' → LW Z p l e s m below meth c D tc u b 122 ks i 1706 [] S' T') : LW Z p l e s m below meth c D tc u b 122 ks i 516 [] S T := by
  obtain ⟨P, h1, h2⟩ := (st_apart R (xs (i + 1)) (xs (i + 2)) (xs (i + 3))).toD
  refine LW_x hC (show decode code 516 = _ by decide +kernel) ?_
  refine LW_arg (k := 1) hC hL (show lawA 517 1 by unfold lawA; decide +kernel) (by decide) (by omega) ?_
  refine LW_arg (k := 2) hC hL (show lawA 522 2 by unfold lawA; decide +kernel) (by decide) (by omega) ?_
  refine LW_arg (k := 3) hC hL (show lawA 527 3 by unfold lawA; decide +kernel) (by decide) (by omega) ?_
  refine LW_callX (idx := 50) (as := [.int (xs (i + 1)), .int (xs (i + 2)), .int (xs (i + 3))]) hC (show lawC n_X_apart 50 3 11 532 by unfold lawC; decide +kernel) (Nat.le_of_ble_eq_true rfl) rfl (by decide +kernel) (Nat.le_of_ble_eq_true rfl) hks (Nat.le_of_ble_eq_true rfl) (fun _ => rfl) h1 (fun r S' hP => ?_)
  refine LW_m hC (show decode code 535 = _ by decide +kernel) ?_
  refine LW_arg (k := 1) hC hL (show lawA 536 1 by unfold lawA; decide +kernel) (by decide) (by omega) ?_
  refine LW_arg (k := 2) hC hL (show lawA 541 2 by unfold lawA; decide +kernel) (by decide) (by omega) ?_
  refine LW_arg (k := 3) hC hL (show lawA 546 3 by unfold lawA; decide +kernel) (by decide) (by omega) ?_
  refine LW_callM (idx := 53) (as := [.int (xs (i + 1)), .int (xs (i + 2)), .int (xs (i + 3))]) hC (show lawC n_M_apart 53 3 12 551 by unfold lawC; decide +kernel) (Nat.le_of_ble_eq_true rfl) rfl (by decide +kernel) (Nat.le_of_ble_eq_true rfl) hks (Nat.le_of_ble_eq_true rfl) (fun _ => rfl) (h2 r S' hP) (fun T' hR => ?_)
  exact LW_eq (off := 1151) hC (by decide +kernel) (kk S' T' hR)
theorem cs_9 {b L : Nat} {xs : Nat → Int32} (hC : LC p s m meth c b L xs D tc u) (hL : L ≤ 3584) {i ks : Nat} {S T : eg_S} (hi : i + 6 < L) (hks : ks ≤ room_1.slots) (R : Rel S T) (kk : ∀ S' T', Rel S' T' → LW Z p l e s m below meth c D tc u b 122 ks i 1706 [] S' T') : LW Z p l e s m below meth c D tc u b 122 ks i 560 [] S T := by
  obtain ⟨P, h1, h2⟩ := (st_sheet R (xs (i + 1)) (xs (i + 2)) (xs (i + 3))).toD
  refine LW_x hC (show decode code 560 = _ by decide +kernel) ?_
  refine LW_arg (k := 1) hC hL (show lawA 561 1 by unfold lawA; decide +kernel) (by decide) (by omega) ?_
  refine LW_arg (k := 2) hC hL (show lawA 566 2 by unfold lawA; decide +kernel) (by decide) (by omega) ?_
  refine LW_arg (k := 3) hC hL (show lawA 571 3 by unfold lawA; decide +kernel) (by decide) (by omega) ?_
  refine LW_callX (idx := 54) (as := [.int (xs (i + 1)), .int (xs (i + 2)), .int (xs (i + 3))]) hC (show lawC n_X_sheet 54 3 11 576 by unfold lawC; decide +kernel) (Nat.le_of_ble_eq_true rfl) rfl (by decide +kernel) (Nat.le_of_ble_eq_true rfl) hks (Nat.le_of_ble_eq_true rfl) (fun _ => rfl) h1 (fun r S' hP => ?_)
  refine LW_m hC (show decode code 579 = _ by decide +kernel) ?_
  refine LW_arg (k := 1) hC hL (show lawA 580 1 by unfold lawA; decide +kernel) (by decide) (by omega) ?_
  refine LW_arg (k := 2) hC hL (show lawA 585 2 by unfold lawA; decide +kernel) (by decide) (by omega) ?_
  refine LW_arg (k := 3) hC hL (show lawA 590 3 by unfold lawA; decide +kernel) (by decide) (by omega) ?_
  refine LW_callM (idx := 57) (as := [.int (xs (i + 1)), .int (xs (i + 2)), .int (xs (i + 3))]) hC (show lawC n_M_sheet 57 3 12 595 by unfold lawC; decide +kernel) (Nat.le_of_ble_eq_true rfl) rfl (by decide +kernel) (Nat.le_of_ble_eq_true rfl) hks (Nat.le_of_ble_eq_true rfl) (fun _ => rfl) (h2 r S' hP) (fun T' hR => ?_)
  exact LW_eq (off := 1107) hC (by decide +kernel) (kk S' T' hR)
theorem cs_10 {b L : Nat} {xs : Nat → Int32} (hC : LC p s m meth c b L xs D tc u) (hL : L ≤ 3584) {i ks : Nat} {S T : eg_S} (hi : i + 6 < L) (hks : ks ≤ room_1.slots) (R : Rel S T) (kk : ∀ S' T', Rel S' T' → LW Z p l e s m below meth c D tc u b 122 ks i 1706 [] S' T') : LW Z p l e s m below meth c D tc u b 122 ks i 604 [] S T := by
  obtain ⟨P, h1, h2⟩ := (st_put R (xs (i + 1)) (xs (i + 2)) (xs (i + 3))).toD
  refine LW_x hC (show decode code 604 = _ by decide +kernel) ?_
  refine LW_arg (k := 1) hC hL (show lawA 605 1 by unfold lawA; decide +kernel) (by decide) (by omega) ?_
  refine LW_arg (k := 2) hC hL (show lawA 610 2 by unfold lawA; decide +kernel) (by decide) (by omega) ?_
  refine LW_arg (k := 3) hC hL (show lawA 615 3 by unfold lawA; decide +kernel) (by decide) (by omega) ?_
  refine LW_callX (idx := 58) (as := [.int (xs (i + 1)), .int (xs (i + 2)), .int (xs (i + 3))]) hC (show lawC n_X_put 58 3 11 620 by unfold lawC; decide +kernel) (Nat.le_of_ble_eq_true rfl) rfl (by decide +kernel) (Nat.le_of_ble_eq_true rfl) hks (Nat.le_of_ble_eq_true rfl) (fun _ => rfl) h1 (fun r S' hP => ?_)
  refine LW_m hC (show decode code 623 = _ by decide +kernel) ?_
  refine LW_arg (k := 1) hC hL (show lawA 624 1 by unfold lawA; decide +kernel) (by decide) (by omega) ?_
  refine LW_arg (k := 2) hC hL (show lawA 629 2 by unfold lawA; decide +kernel) (by decide) (by omega) ?_
  refine LW_arg (k := 3) hC hL (show lawA 634 3 by unfold lawA; decide +kernel) (by decide) (by omega) ?_
  refine LW_callM (idx := 61) (as := [.int (xs (i + 1)), .int (xs (i + 2)), .int (xs (i + 3))]) hC (show lawC n_M_put 61 3 12 639 by unfold lawC; decide +kernel) (Nat.le_of_ble_eq_true rfl) rfl (by decide +kernel) (Nat.le_of_ble_eq_true rfl) hks (Nat.le_of_ble_eq_true rfl) (fun _ => rfl) (h2 r S' hP) (fun T' hR => ?_)
  exact LW_eq (off := 1063) hC (by decide +kernel) (kk S' T' hR)
theorem cs_12 {b L : Nat} {xs : Nat → Int32} (hC : LC p s m meth c b L xs D tc u) (hL : L ≤ 3584) {i ks : Nat} {S T : eg_S} (hi : i + 6 < L) (hks : ks ≤ room_1.slots) (R : Rel S T) (kk : ∀ S' T', Rel S' T' → LW Z p l e s m below meth c D tc u b 122 ks i 1706 [] S' T') : LW Z p l e s m below meth c D tc u b 122 ks i 722 [] S T := by
  obtain ⟨P, h1, h2⟩ := (st_copy R (xs (i + 1)) (xs (i + 2)) (xs (i + 3)) (xs (i + 4)) (xs (i + 5))).toD
  refine LW_x hC (show decode code 722 = _ by decide +kernel) ?_
  refine LW_arg (k := 1) hC hL (show lawA 723 1 by unfold lawA; decide +kernel) (by decide) (by omega) ?_
  refine LW_arg (k := 2) hC hL (show lawA 728 2 by unfold lawA; decide +kernel) (by decide) (by omega) ?_
  refine LW_arg (k := 3) hC hL (show lawA 733 3 by unfold lawA; decide +kernel) (by decide) (by omega) ?_
  refine LW_arg (k := 4) hC hL (show lawA 738 4 by unfold lawA; decide +kernel) (by decide) (by omega) ?_
  refine LW_arg (k := 5) hC hL (show lawA 743 5 by unfold lawA; decide +kernel) (by decide) (by omega) ?_
  refine LW_callX (idx := 69) (as := [.int (xs (i + 1)), .int (xs (i + 2)), .int (xs (i + 3)), .int (xs (i + 4)), .int (xs (i + 5))]) hC (show lawC n_X_copy 69 5 11 748 by unfold lawC; decide +kernel) (Nat.le_of_ble_eq_true rfl) rfl (by decide +kernel) (Nat.le_of_ble_eq_true rfl) hks (Nat.le_of_ble_eq_true rfl) (fun _ => rfl) h1 (fun r S' hP => ?_)
  refine LW_m hC (show decode code 751 = _ by decide +kernel) ?_
  refine LW_arg (k := 1) hC hL (show lawA 752 1 by unfold lawA; decide +kernel) (by decide) (by omega) ?_
  refine LW_arg (k := 2) hC hL (show lawA 757 2 by unfold lawA; decide +kernel) (by decide) (by omega) ?_
  refine LW_arg (k := 3) hC hL (show lawA 762 3 by unfold lawA; decide +kernel) (by decide) (by omega) ?_
  refine LW_arg (k := 4) hC hL (show lawA 767 4 by unfold lawA; decide +kernel) (by decide) (by omega) ?_
  refine LW_arg (k := 5) hC hL (show lawA 772 5 by unfold lawA; decide +kernel) (by decide) (by omega) ?_
  refine LW_callM (idx := 73) (as := [.int (xs (i + 1)), .int (xs (i + 2)), .int (xs (i + 3)), .int (xs (i + 4)), .int (xs (i + 5))]) hC (show lawC n_M_copy 73 5 12 777 by unfold lawC; decide +kernel) (Nat.le_of_ble_eq_true rfl) rfl (by decide +kernel) (Nat.le_of_ble_eq_true rfl) hks (Nat.le_of_ble_eq_true rfl) (fun _ => rfl) (h2 r S' hP) (fun T' hR => ?_)
  exact LW_eq (off := 925) hC (by decide +kernel) (kk S' T' hR)
theorem cs_13 {b L : Nat} {xs : Nat → Int32} (hC : LC p s m meth c b L xs D tc u) (hL : L ≤ 3584) {i ks : Nat} {S T : eg_S} (hi : i + 6 < L) (hks : ks ≤ room_1.slots) (R : Rel S T) (kk : ∀ S' T', Rel S' T' → LW Z p l e s m below meth c D tc u b 122 ks i 1706 [] S' T') : LW Z p l e s m below meth c D tc u b 122 ks i 786 [] S T := by
  obtain ⟨P, h1, h2⟩ := (st_lay R (xs (i + 1)) (xs (i + 2))).toD
  refine LW_x hC (show decode code 786 = _ by decide +kernel) ?_
  refine LW_arg (k := 1) hC hL (show lawA 787 1 by unfold lawA; decide +kernel) (by decide) (by omega) ?_
  refine LW_arg (k := 2) hC hL (show lawA 792 2 by unfold lawA; decide +kernel) (by decide) (by omega) ?_
  refine LW_callX (idx := 74) (as := [.int (xs (i + 1)), .int (xs (i + 2))]) hC (show lawC n_X_lay 74 2 11 797 by unfold lawC; decide +kernel) (Nat.le_of_ble_eq_true rfl) rfl (by decide +kernel) (Nat.le_of_ble_eq_true rfl) hks (Nat.le_of_ble_eq_true rfl) (fun _ => rfl) h1 (fun r S' hP => ?_)
  refine LW_m hC (show decode code 800 = _ by decide +kernel) ?_
  refine LW_arg (k := 1) hC hL (show lawA 801 1 by unfold lawA; decide +kernel) (by decide) (by omega) ?_
  refine LW_arg (k := 2) hC hL (show lawA 806 2 by unfold lawA; decide +kernel) (by decide) (by omega) ?_
  refine LW_callM (idx := 78) (as := [.int (xs (i + 1)), .int (xs (i + 2))]) hC (show lawC n_M_lay 78 2 12 811 by unfold lawC; decide +kernel) (Nat.le_of_ble_eq_true rfl) rfl (by decide +kernel) (Nat.le_of_ble_eq_true rfl) hks (Nat.le_of_ble_eq_true rfl) (fun _ => rfl) (h2 r S' hP) (fun T' hR => ?_)
  exact LW_eq (off := 891) hC (by decide +kernel) (kk S' T' hR)
theorem cs_14 {b L : Nat} {xs : Nat → Int32} (hC : LC p s m meth c b L xs D tc u) (hL : L ≤ 3584) {i ks : Nat} {S T : eg_S} (hi : i + 6 < L) (hks : ks ≤ room_1.slots) (R : Rel S T) (kk : ∀ S' T', Rel S' T' → LW Z p l e s m below meth c D tc u b 122 ks i 1706 [] S' T') : LW Z p l e s m below meth c D tc u b 122 ks i 820 [] S T := by
  obtain ⟨P, h1, h2⟩ := (st_fit R (xs (i + 1)) (xs (i + 2)) (xs (i + 3))).toD
  refine LW_x hC (show decode code 820 = _ by decide +kernel) ?_
  refine LW_arg (k := 1) hC hL (show lawA 821 1 by unfold lawA; decide +kernel) (by decide) (by omega) ?_
  refine LW_arg (k := 2) hC hL (show lawA 826 2 by unfold lawA; decide +kernel) (by decide) (by omega) ?_
  refine LW_arg (k := 3) hC hL (show lawA 831 3 by unfold lawA; decide +kernel) (by decide) (by omega) ?_
  refine LW_callX (idx := 79) (as := [.int (xs (i + 1)), .int (xs (i + 2)), .int (xs (i + 3))]) hC (show lawC n_X_fit 79 3 11 836 by unfold lawC; decide +kernel) (Nat.le_of_ble_eq_true rfl) rfl (by decide +kernel) (Nat.le_of_ble_eq_true rfl) hks (Nat.le_of_ble_eq_true rfl) (fun _ => rfl) h1 (fun r S' hP => ?_)
  refine LW_m hC (show decode code 839 = _ by decide +kernel) ?_
  refine LW_arg (k := 1) hC hL (show lawA 840 1 by unfold lawA; decide +kernel) (by decide) (by omega) ?_
  refine LW_arg (k := 2) hC hL (show lawA 845 2 by unfold lawA; decide +kernel) (by decide) (by omega) ?_
  refine LW_arg (k := 3) hC hL (show lawA 850 3 by unfold lawA; decide +kernel) (by decide) (by omega) ?_
  refine LW_callM (idx := 82) (as := [.int (xs (i + 1)), .int (xs (i + 2)), .int (xs (i + 3))]) hC (show lawC n_M_fit 82 3 12 855 by unfold lawC; decide +kernel) (Nat.le_of_ble_eq_true rfl) rfl (by decide +kernel) (Nat.le_of_ble_eq_true rfl) hks (Nat.le_of_ble_eq_true rfl) (fun _ => rfl) (h2 r S' hP) (fun T' hR => ?_)
  exact LW_eq (off := 847) hC (by decide +kernel) (kk S' T' hR)
theorem cs_15 {b L : Nat} {xs : Nat → Int32} (hC : LC p s m meth c b L xs D tc u) (hL : L ≤ 3584) {i ks : Nat} {S T : eg_S} (hi : i + 6 < L) (hks : ks ≤ room_1.slots) (R : Rel S T) (kk : ∀ S' T', Rel S' T' → LW Z p l e s m below meth c D tc u b 122 ks i 1706 [] S' T') : LW Z p l e s m below meth c D tc u b 122 ks i 864 [] S T := by
  obtain ⟨P, h1, h2⟩ := (st_drop R (xs (i + 1))).toD
  refine LW_x hC (show decode code 864 = _ by decide +kernel) ?_
  refine LW_arg (k := 1) hC hL (show lawA 865 1 by unfold lawA; decide +kernel) (by decide) (by omega) ?_
  refine LW_callX (idx := 83) (as := [.int (xs (i + 1))]) hC (show lawC n_X_drop 83 1 11 870 by unfold lawC; decide +kernel) (Nat.le_of_ble_eq_true rfl) rfl (by decide +kernel) (Nat.le_of_ble_eq_true rfl) hks (Nat.le_of_ble_eq_true rfl) (fun _ => rfl) h1 (fun r S' hP => ?_)
  refine LW_m hC (show decode code 873 = _ by decide +kernel) ?_
  refine LW_arg (k := 1) hC hL (show lawA 874 1 by unfold lawA; decide +kernel) (by decide) (by omega) ?_
  refine LW_callM (idx := 86) (as := [.int (xs (i + 1))]) hC (show lawC n_M_drop 86 1 12 879 by unfold lawC; decide +kernel) (Nat.le_of_ble_eq_true rfl) rfl (by decide +kernel) (Nat.le_of_ble_eq_true rfl) hks (Nat.le_of_ble_eq_true rfl) (fun _ => rfl) (h2 r S' hP) (fun T' hR => ?_)
  exact LW_eq (off := 823) hC (by decide +kernel) (kk S' T' hR)
theorem cs_16 {b L : Nat} {xs : Nat → Int32} (hC : LC p s m meth c b L xs D tc u) (hL : L ≤ 3584) {i ks : Nat} {S T : eg_S} (hi : i + 6 < L) (hks : ks ≤ room_1.slots) (R : Rel S T) (kk : ∀ S' T', Rel S' T' → LW Z p l e s m below meth c D tc u b 122 ks i 1706 [] S' T') : LW Z p l e s m below meth c D tc u b 122 ks i 888 [] S T := by
  obtain ⟨P, h1, h2⟩ := (st_as R (xs (i + 1)) (xs (i + 2))).toD
  refine LW_x hC (show decode code 888 = _ by decide +kernel) ?_
  refine LW_arg (k := 1) hC hL (show lawA 889 1 by unfold lawA; decide +kernel) (by decide) (by omega) ?_
  refine LW_arg (k := 2) hC hL (show lawA 894 2 by unfold lawA; decide +kernel) (by decide) (by omega) ?_
  refine LW_callX (idx := 87) (as := [.int (xs (i + 1)), .int (xs (i + 2))]) hC (show lawC n_X_as 87 2 11 899 by unfold lawC; decide +kernel) (Nat.le_of_ble_eq_true rfl) rfl (by decide +kernel) (Nat.le_of_ble_eq_true rfl) hks (Nat.le_of_ble_eq_true rfl) (fun _ => rfl) h1 (fun r S' hP => ?_)
  refine LW_m hC (show decode code 902 = _ by decide +kernel) ?_
  refine LW_arg (k := 1) hC hL (show lawA 903 1 by unfold lawA; decide +kernel) (by decide) (by omega) ?_
  refine LW_arg (k := 2) hC hL (show lawA 908 2 by unfold lawA; decide +kernel) (by decide) (by omega) ?_
  refine LW_callM (idx := 90) (as := [.int (xs (i + 1)), .int (xs (i + 2))]) hC (show lawC n_M_as 90 2 12 913 by unfold lawC; decide +kernel) (Nat.le_of_ble_eq_true rfl) rfl (by decide +kernel) (Nat.le_of_ble_eq_true rfl) hks (Nat.le_of_ble_eq_true rfl) (fun _ => rfl) (h2 r S' hP) (fun T' hR => ?_)
  exact LW_eq (off := 789) hC (by decide +kernel) (kk S' T' hR)
theorem cs_17 {b L : Nat} {xs : Nat → Int32} (hC : LC p s m meth c b L xs D tc u) (hL : L ≤ 3584) {i ks : Nat} {S T : eg_S} (hi : i + 6 < L) (hks : ks ≤ room_1.slots) (R : Rel S T) (kk : ∀ S' T', Rel S' T' → LW Z p l e s m below meth c D tc u b 122 ks i 1706 [] S' T') : LW Z p l e s m below meth c D tc u b 122 ks i 922 [] S T := by
  obtain ⟨P, h1, h2⟩ := (st_held R (xs (i + 1)) (xs (i + 2))).toD
  refine LW_x hC (show decode code 922 = _ by decide +kernel) ?_
  refine LW_arg (k := 1) hC hL (show lawA 923 1 by unfold lawA; decide +kernel) (by decide) (by omega) ?_
  refine LW_arg (k := 2) hC hL (show lawA 928 2 by unfold lawA; decide +kernel) (by decide) (by omega) ?_
  refine LW_callX (idx := 91) (as := [.int (xs (i + 1)), .int (xs (i + 2))]) hC (show lawC n_X_held 91 2 11 933 by unfold lawC; decide +kernel) (Nat.le_of_ble_eq_true rfl) rfl (by decide +kernel) (Nat.le_of_ble_eq_true rfl) hks (Nat.le_of_ble_eq_true rfl) (fun _ => rfl) h1 (fun r S' hP => ?_)
  refine LW_m hC (show decode code 936 = _ by decide +kernel) ?_
  refine LW_arg (k := 1) hC hL (show lawA 937 1 by unfold lawA; decide +kernel) (by decide) (by omega) ?_
  refine LW_arg (k := 2) hC hL (show lawA 942 2 by unfold lawA; decide +kernel) (by decide) (by omega) ?_
  refine LW_callM (idx := 94) (as := [.int (xs (i + 1)), .int (xs (i + 2))]) hC (show lawC n_M_held_II 94 2 12 947 by unfold lawC; decide +kernel) (Nat.le_of_ble_eq_true rfl) rfl (by decide +kernel) (Nat.le_of_ble_eq_true rfl) hks (Nat.le_of_ble_eq_true rfl) (fun _ => rfl) (h2 r S' hP) (fun T' hR => ?_)
  exact LW_eq (off := 755) hC (by decide +kernel) (kk S' T' hR)
theorem cs_18 {b L : Nat} {xs : Nat → Int32} (hC : LC p s m meth c b L xs D tc u) (hL : L ≤ 3584) {i ks : Nat} {S T : eg_S} (hi : i + 6 < L) (hks : ks ≤ room_1.slots) (R : Rel S T) (kk : ∀ S' T', Rel S' T' → LW Z p l e s m below meth c D tc u b 122 ks i 1706 [] S' T') : LW Z p l e s m below meth c D tc u b 122 ks i 956 [] S T := by
  obtain ⟨P, h1, h2⟩ := (st_missOf R (xs (i + 1)) (if xs (i + 2) = 0 then 0 else 1) (z01 _)).toD
  refine LW_x hC (show decode code 956 = _ by decide +kernel) ?_
  refine LW_arg (k := 1) hC hL (show lawA 957 1 by unfold lawA; decide +kernel) (by decide) (by omega) ?_
  refine LW_argZ (k := 2) hC hL (show lawZ 962 2 by unfold lawZ lawA; decide +kernel) (by decide) (by omega) ?_
  refine LW_callX (idx := 95) (as := [.int (xs (i + 1)), .int (if xs (i + 2) = 0 then 0 else 1)]) hC (show lawC n_X_missOf 95 2 11 975 by unfold lawC; decide +kernel) (Nat.le_of_ble_eq_true rfl) rfl (by decide +kernel) (Nat.le_of_ble_eq_true rfl) hks (Nat.le_of_ble_eq_true rfl) (fun _ => rfl) h1 (fun r S' hP => ?_)
  refine LW_m hC (show decode code 978 = _ by decide +kernel) ?_
  refine LW_arg (k := 1) hC hL (show lawA 979 1 by unfold lawA; decide +kernel) (by decide) (by omega) ?_
  refine LW_argZ (k := 2) hC hL (show lawZ 984 2 by unfold lawZ lawA; decide +kernel) (by decide) (by omega) ?_
  refine LW_callM (idx := 98) (as := [.int (xs (i + 1)), .int (if xs (i + 2) = 0 then 0 else 1)]) hC (show lawC n_M_missOf 98 2 12 997 by unfold lawC; decide +kernel) (Nat.le_of_ble_eq_true rfl) rfl (by decide +kernel) (Nat.le_of_ble_eq_true rfl) hks (Nat.le_of_ble_eq_true rfl) (fun _ => rfl) (h2 r S' hP) (fun T' hR => ?_)
  exact LW_eq (off := 705) hC (by decide +kernel) (kk S' T' hR)
theorem cs_19 {b L : Nat} {xs : Nat → Int32} (hC : LC p s m meth c b L xs D tc u) (hL : L ≤ 3584) {i ks : Nat} {S T : eg_S} (hi : i + 6 < L) (hks : ks ≤ room_1.slots) (R : Rel S T) (kk : ∀ S' T', Rel S' T' → LW Z p l e s m below meth c D tc u b 122 ks i 1706 [] S' T') : LW Z p l e s m below meth c D tc u b 122 ks i 1006 [] S T := by
  obtain ⟨P, h1, h2⟩ := (st_way R (xs (i + 1)) (xs (i + 2))).toD
  refine LW_x hC (show decode code 1006 = _ by decide +kernel) ?_
  refine LW_arg (k := 1) hC hL (show lawA 1007 1 by unfold lawA; decide +kernel) (by decide) (by omega) ?_
  refine LW_arg (k := 2) hC hL (show lawA 1012 2 by unfold lawA; decide +kernel) (by decide) (by omega) ?_
  refine LW_callX (idx := 99) (as := [.int (xs (i + 1)), .int (xs (i + 2))]) hC (show lawC n_X_way 99 2 11 1017 by unfold lawC; decide +kernel) (Nat.le_of_ble_eq_true rfl) rfl (by decide +kernel) (Nat.le_of_ble_eq_true rfl) hks (Nat.le_of_ble_eq_true rfl) (fun _ => rfl) h1 (fun r S' hP => ?_)
  refine LW_m hC (show decode code 1020 = _ by decide +kernel) ?_
  refine LW_arg (k := 1) hC hL (show lawA 1021 1 by unfold lawA; decide +kernel) (by decide) (by omega) ?_
  refine LW_arg (k := 2) hC hL (show lawA 1026 2 by unfold lawA; decide +kernel) (by decide) (by omega) ?_
  refine LW_callM (idx := 102) (as := [.int (xs (i + 1)), .int (xs (i + 2))]) hC (show lawC n_M_way 102 2 12 1031 by unfold lawC; decide +kernel) (Nat.le_of_ble_eq_true rfl) rfl (by decide +kernel) (Nat.le_of_ble_eq_true rfl) hks (Nat.le_of_ble_eq_true rfl) (fun _ => rfl) (h2 r S' hP) (fun T' hR => ?_)
  exact LW_eq (off := 671) hC (by decide +kernel) (kk S' T' hR)
theorem cs_20 {b L : Nat} {xs : Nat → Int32} (hC : LC p s m meth c b L xs D tc u) (hL : L ≤ 3584) {i ks : Nat} {S T : eg_S} (hi : i + 6 < L) (hks : ks ≤ room_1.slots) (R : Rel S T) (kk : ∀ S' T', Rel S' T' → LW Z p l e s m below meth c D tc u b 122 ks i 1706 [] S' T') : LW Z p l e s m below meth c D tc u b 122 ks i 1040 [] S T := by
  obtain ⟨P, h1, h2⟩ := (st_middle R (xs (i + 1)) (if xs (i + 2) = 0 then 0 else 1) (if xs (i + 3) = 0 then 0 else 1) (z01 _) (z01 _)).toD
  refine LW_x hC (show decode code 1040 = _ by decide +kernel) ?_
  refine LW_arg (k := 1) hC hL (show lawA 1041 1 by unfold lawA; decide +kernel) (by decide) (by omega) ?_
  refine LW_argZ (k := 2) hC hL (show lawZ 1046 2 by unfold lawZ lawA; decide +kernel) (by decide) (by omega) ?_
  refine LW_argZ (k := 3) hC hL (show lawZ 1059 3 by unfold lawZ lawA; decide +kernel) (by decide) (by omega) ?_
  refine LW_callX (idx := 103) (as := [.int (xs (i + 1)), .int (if xs (i + 2) = 0 then 0 else 1), .int (if xs (i + 3) = 0 then 0 else 1)]) hC (show lawC n_X_middle 103 3 11 1072 by unfold lawC; decide +kernel) (Nat.le_of_ble_eq_true rfl) rfl (by decide +kernel) (Nat.le_of_ble_eq_true rfl) hks (Nat.le_of_ble_eq_true rfl) (fun _ => rfl) h1 (fun r S' hP => ?_)
  refine LW_m hC (show decode code 1075 = _ by decide +kernel) ?_
  refine LW_arg (k := 1) hC hL (show lawA 1076 1 by unfold lawA; decide +kernel) (by decide) (by omega) ?_
  refine LW_argZ (k := 2) hC hL (show lawZ 1081 2 by unfold lawZ lawA; decide +kernel) (by decide) (by omega) ?_
  refine LW_argZ (k := 3) hC hL (show lawZ 1094 3 by unfold lawZ lawA; decide +kernel) (by decide) (by omega) ?_
  refine LW_callM (idx := 107) (as := [.int (xs (i + 1)), .int (if xs (i + 2) = 0 then 0 else 1), .int (if xs (i + 3) = 0 then 0 else 1)]) hC (show lawC n_M_middle 107 3 12 1107 by unfold lawC; decide +kernel) (Nat.le_of_ble_eq_true rfl) rfl (by decide +kernel) (Nat.le_of_ble_eq_true rfl) hks (Nat.le_of_ble_eq_true rfl) (fun _ => rfl) (h2 r S' hP) (fun T' hR => ?_)
  exact LW_eq (off := 595) hC (by decide +kernel) (kk S' T' hR)
theorem cs_21 {b L : Nat} {xs : Nat → Int32} (hC : LC p s m meth c b L xs D tc u) (hL : L ≤ 3584) {i ks : Nat} {S T : eg_S} (hi : i + 6 < L) (hks : ks ≤ room_1.slots) (R : Rel S T) (kk : ∀ S' T', Rel S' T' → LW Z p l e s m below meth c D tc u b 122 ks i 1706 [] S' T') : LW Z p l e s m below meth c D tc u b 122 ks i 1116 [] S T := by
  obtain ⟨P, h1, h2⟩ := (st_ask R (xs (i + 1)) (xs (i + 2))).toD
  refine LW_x hC (show decode code 1116 = _ by decide +kernel) ?_
  refine LW_arg (k := 1) hC hL (show lawA 1117 1 by unfold lawA; decide +kernel) (by decide) (by omega) ?_
  refine LW_arg (k := 2) hC hL (show lawA 1122 2 by unfold lawA; decide +kernel) (by decide) (by omega) ?_
  refine LW_callX (idx := 108) (as := [.int (xs (i + 1)), .int (xs (i + 2))]) hC (show lawC n_X_ask 108 2 11 1127 by unfold lawC; decide +kernel) (Nat.le_of_ble_eq_true rfl) rfl (by decide +kernel) (Nat.le_of_ble_eq_true rfl) hks (Nat.le_of_ble_eq_true rfl) (fun _ => rfl) h1 (fun r S' hP => ?_)
  refine LW_m hC (show decode code 1130 = _ by decide +kernel) ?_
  refine LW_arg (k := 1) hC hL (show lawA 1131 1 by unfold lawA; decide +kernel) (by decide) (by omega) ?_
  refine LW_arg (k := 2) hC hL (show lawA 1136 2 by unfold lawA; decide +kernel) (by decide) (by omega) ?_
  refine LW_callM (idx := 111) (as := [.int (xs (i + 1)), .int (xs (i + 2))]) hC (show lawC n_M_ask 111 2 12 1141 by unfold lawC; decide +kernel) (Nat.le_of_ble_eq_true rfl) rfl (by decide +kernel) (Nat.le_of_ble_eq_true rfl) hks (Nat.le_of_ble_eq_true rfl) (fun _ => rfl) (h2 r S' hP) (fun T' hR => ?_)
  exact LW_eq (off := 561) hC (by decide +kernel) (kk S' T' hR)
theorem cs_22 {b L : Nat} {xs : Nat → Int32} (hC : LC p s m meth c b L xs D tc u) (hL : L ≤ 3584) {i ks : Nat} {S T : eg_S} (hi : i + 6 < L) (hks : ks ≤ room_1.slots) (R : Rel S T) (kk : ∀ S' T', Rel S' T' → LW Z p l e s m below meth c D tc u b 122 ks i 1706 [] S' T') : LW Z p l e s m below meth c D tc u b 122 ks i 1150 [] S T := by
  obtain ⟨P, h1, h2⟩ := (st_level R (xs (i + 1))).toD
  refine LW_x hC (show decode code 1150 = _ by decide +kernel) ?_
  refine LW_arg (k := 1) hC hL (show lawA 1151 1 by unfold lawA; decide +kernel) (by decide) (by omega) ?_
  refine LW_callX (idx := 112) (as := [.int (xs (i + 1))]) hC (show lawC n_X_level 112 1 11 1156 by unfold lawC; decide +kernel) (Nat.le_of_ble_eq_true rfl) rfl (by decide +kernel) (Nat.le_of_ble_eq_true rfl) hks (Nat.le_of_ble_eq_true rfl) (fun _ => rfl) h1 (fun r S' hP => ?_)
  refine LW_m hC (show decode code 1159 = _ by decide +kernel) ?_
  refine LW_arg (k := 1) hC hL (show lawA 1160 1 by unfold lawA; decide +kernel) (by decide) (by omega) ?_
  refine LW_callM (idx := 115) (as := [.int (xs (i + 1))]) hC (show lawC n_M_level 115 1 12 1165 by unfold lawC; decide +kernel) (Nat.le_of_ble_eq_true rfl) rfl (by decide +kernel) (Nat.le_of_ble_eq_true rfl) hks (Nat.le_of_ble_eq_true rfl) (fun _ => rfl) (h2 r S' hP) (fun T' hR => ?_)
  exact LW_eq (off := 537) hC (by decide +kernel) (kk S' T' hR)
theorem cs_23 {b L : Nat} {xs : Nat → Int32} (hC : LC p s m meth c b L xs D tc u) (hL : L ≤ 3584) {i ks : Nat} {S T : eg_S} (hi : i + 6 < L) (hks : ks ≤ room_1.slots) (R : Rel S T) (kk : ∀ S' T', Rel S' T' → LW Z p l e s m below meth c D tc u b 122 ks i 1706 [] S' T') : LW Z p l e s m below meth c D tc u b 122 ks i 1174 [] S T := by
  obtain ⟨P, h1, h2⟩ := (st_more R (xs (i + 1)) (xs (i + 2)) (xs (i + 3)) (xs (i + 4))).toD
  refine LW_x hC (show decode code 1174 = _ by decide +kernel) ?_
  refine LW_arg (k := 1) hC hL (show lawA 1175 1 by unfold lawA; decide +kernel) (by decide) (by omega) ?_
  refine LW_arg (k := 2) hC hL (show lawA 1180 2 by unfold lawA; decide +kernel) (by decide) (by omega) ?_
  refine LW_arg (k := 3) hC hL (show lawA 1185 3 by unfold lawA; decide +kernel) (by decide) (by omega) ?_
  refine LW_arg (k := 4) hC hL (show lawA 1190 4 by unfold lawA; decide +kernel) (by decide) (by omega) ?_
  refine LW_callX (idx := 116) (as := [.int (xs (i + 1)), .int (xs (i + 2)), .int (xs (i + 3)), .int (xs (i + 4))]) hC (show lawC n_X_more 116 4 11 1195 by unfold lawC; decide +kernel) (Nat.le_of_ble_eq_true rfl) rfl (by decide +kernel) (Nat.le_of_ble_eq_true rfl) hks (Nat.le_of_ble_eq_true rfl) (fun _ => rfl) h1 (fun r S' hP => ?_)
  refine LW_m hC (show decode code 1198 = _ by decide +kernel) ?_
  refine LW_arg (k := 1) hC hL (show lawA 1199 1 by unfold lawA; decide +kernel) (by decide) (by omega) ?_
  refine LW_arg (k := 2) hC hL (show lawA 1204 2 by unfold lawA; decide +kernel) (by decide) (by omega) ?_
  refine LW_arg (k := 3) hC hL (show lawA 1209 3 by unfold lawA; decide +kernel) (by decide) (by omega) ?_
  refine LW_arg (k := 4) hC hL (show lawA 1214 4 by unfold lawA; decide +kernel) (by decide) (by omega) ?_
  refine LW_callM (idx := 119) (as := [.int (xs (i + 1)), .int (xs (i + 2)), .int (xs (i + 3)), .int (xs (i + 4))]) hC (show lawC n_M_more 119 4 12 1219 by unfold lawC; decide +kernel) (Nat.le_of_ble_eq_true rfl) rfl (by decide +kernel) (Nat.le_of_ble_eq_true rfl) hks (Nat.le_of_ble_eq_true rfl) (fun _ => rfl) (h2 r S' hP) (fun T' hR => ?_)
  exact LW_eq (off := 483) hC (by decide +kernel) (kk S' T' hR)
theorem cs_24 {b L : Nat} {xs : Nat → Int32} (hC : LC p s m meth c b L xs D tc u) (hL : L ≤ 3584) {i ks : Nat} {S T : eg_S} (hi : i + 6 < L) (hks : ks ≤ room_1.slots) (R : Rel S T) (kk : ∀ S' T', Rel S' T' → LW Z p l e s m below meth c D tc u b 122 ks i 1706 [] S' T') : LW Z p l e s m below meth c D tc u b 122 ks i 1228 [] S T := by
  obtain ⟨P, h1, h2⟩ := (st_frame R (xs (i + 1)) (xs (i + 2)) (xs (i + 3)) (xs (i + 4)) (xs (i + 5)) (xs (i + 6))).toD
  refine LW_x hC (show decode code 1228 = _ by decide +kernel) ?_
  refine LW_arg (k := 1) hC hL (show lawA 1229 1 by unfold lawA; decide +kernel) (by decide) (by omega) ?_
  refine LW_arg (k := 2) hC hL (show lawA 1234 2 by unfold lawA; decide +kernel) (by decide) (by omega) ?_
  refine LW_arg (k := 3) hC hL (show lawA 1239 3 by unfold lawA; decide +kernel) (by decide) (by omega) ?_
  refine LW_arg (k := 4) hC hL (show lawA 1244 4 by unfold lawA; decide +kernel) (by decide) (by omega) ?_
  refine LW_arg (k := 5) hC hL (show lawA 1249 5 by unfold lawA; decide +kernel) (by decide) (by omega) ?_
  refine LW_arg6 hC hL (show lawA6 1254 by unfold lawA6; decide +kernel) (by omega) ?_
  refine LW_callX (idx := 120) (as := [.int (xs (i + 1)), .int (xs (i + 2)), .int (xs (i + 3)), .int (xs (i + 4)), .int (xs (i + 5)), .int (xs (i + 6))]) hC (show lawC n_X_frame 120 6 11 1260 by unfold lawC; decide +kernel) (Nat.le_of_ble_eq_true rfl) rfl (by decide +kernel) (Nat.le_of_ble_eq_true rfl) hks (Nat.le_of_ble_eq_true rfl) (fun _ => rfl) h1 (fun r S' hP => ?_)
  refine LW_m hC (show decode code 1263 = _ by decide +kernel) ?_
  refine LW_arg (k := 1) hC hL (show lawA 1264 1 by unfold lawA; decide +kernel) (by decide) (by omega) ?_
  refine LW_arg (k := 2) hC hL (show lawA 1269 2 by unfold lawA; decide +kernel) (by decide) (by omega) ?_
  refine LW_arg (k := 3) hC hL (show lawA 1274 3 by unfold lawA; decide +kernel) (by decide) (by omega) ?_
  refine LW_arg (k := 4) hC hL (show lawA 1279 4 by unfold lawA; decide +kernel) (by decide) (by omega) ?_
  refine LW_arg (k := 5) hC hL (show lawA 1284 5 by unfold lawA; decide +kernel) (by decide) (by omega) ?_
  refine LW_arg6 hC hL (show lawA6 1289 by unfold lawA6; decide +kernel) (by omega) ?_
  refine LW_callM (idx := 124) (as := [.int (xs (i + 1)), .int (xs (i + 2)), .int (xs (i + 3)), .int (xs (i + 4)), .int (xs (i + 5)), .int (xs (i + 6))]) hC (show lawC n_M_frame 124 6 12 1295 by unfold lawC; decide +kernel) (Nat.le_of_ble_eq_true rfl) rfl (by decide +kernel) (Nat.le_of_ble_eq_true rfl) hks (Nat.le_of_ble_eq_true rfl) (fun _ => rfl) (h2 r S' hP) (fun T' hR => ?_)
  exact LW_eq (off := 407) hC (by decide +kernel) (kk S' T' hR)
theorem cs_25 {b L : Nat} {xs : Nat → Int32} (hC : LC p s m meth c b L xs D tc u) (hL : L ≤ 3584) {i ks : Nat} {S T : eg_S} (hi : i + 6 < L) (hks : ks ≤ room_1.slots) (R : Rel S T) (kk : ∀ S' T', Rel S' T' → LW Z p l e s m below meth c D tc u b 122 ks i 1706 [] S' T') : LW Z p l e s m below meth c D tc u b 122 ks i 1304 [] S T := by
  obtain ⟨P, h1, h2⟩ := (st_axis R (xs (i + 1)) (xs (i + 2))).toD
  refine LW_x hC (show decode code 1304 = _ by decide +kernel) ?_
  refine LW_arg (k := 1) hC hL (show lawA 1305 1 by unfold lawA; decide +kernel) (by decide) (by omega) ?_
  refine LW_arg (k := 2) hC hL (show lawA 1310 2 by unfold lawA; decide +kernel) (by decide) (by omega) ?_
  refine LW_callX (idx := 125) (as := [.int (xs (i + 1)), .int (xs (i + 2))]) hC (show lawC n_X_axis 125 2 11 1315 by unfold lawC; decide +kernel) (Nat.le_of_ble_eq_true rfl) rfl (by decide +kernel) (Nat.le_of_ble_eq_true rfl) hks (Nat.le_of_ble_eq_true rfl) (fun _ => rfl) h1 (fun r S' hP => ?_)
  refine LW_m hC (show decode code 1318 = _ by decide +kernel) ?_
  refine LW_arg (k := 1) hC hL (show lawA 1319 1 by unfold lawA; decide +kernel) (by decide) (by omega) ?_
  refine LW_arg (k := 2) hC hL (show lawA 1324 2 by unfold lawA; decide +kernel) (by decide) (by omega) ?_
  refine LW_callM (idx := 128) (as := [.int (xs (i + 1)), .int (xs (i + 2))]) hC (show lawC n_M_axis 128 2 12 1329 by unfold lawC; decide +kernel) (Nat.le_of_ble_eq_true rfl) rfl (by decide +kernel) (Nat.le_of_ble_eq_true rfl) hks (Nat.le_of_ble_eq_true rfl) (fun _ => rfl) (h2 r S' hP) (fun T' hR => ?_)
  exact LW_eq (off := 373) hC (by decide +kernel) (kk S' T' hR)
theorem cs_26 {b L : Nat} {xs : Nat → Int32} (hC : LC p s m meth c b L xs D tc u) (hL : L ≤ 3584) {i ks : Nat} {S T : eg_S} (hi : i + 6 < L) (hks : ks ≤ room_1.slots) (R : Rel S T) (kk : ∀ S' T', Rel S' T' → LW Z p l e s m below meth c D tc u b 122 ks i 1706 [] S' T') : LW Z p l e s m below meth c D tc u b 122 ks i 1338 [] S T := by
  obtain ⟨P, h1, h2⟩ := (st_inFrame R (xs (i + 1)) (xs (i + 2)) (xs (i + 3))).toD
  refine LW_x hC (show decode code 1338 = _ by decide +kernel) ?_
  refine LW_arg (k := 1) hC hL (show lawA 1339 1 by unfold lawA; decide +kernel) (by decide) (by omega) ?_
  refine LW_arg (k := 2) hC hL (show lawA 1344 2 by unfold lawA; decide +kernel) (by decide) (by omega) ?_
  refine LW_arg (k := 3) hC hL (show lawA 1349 3 by unfold lawA; decide +kernel) (by decide) (by omega) ?_
  refine LW_callX (idx := 129) (as := [.int (xs (i + 1)), .int (xs (i + 2)), .int (xs (i + 3))]) hC (show lawC n_X_inFrame 129 3 11 1354 by unfold lawC; decide +kernel) (Nat.le_of_ble_eq_true rfl) rfl (by decide +kernel) (Nat.le_of_ble_eq_true rfl) hks (Nat.le_of_ble_eq_true rfl) (fun _ => rfl) h1 (fun r S' hP => ?_)
  refine LW_m hC (show decode code 1357 = _ by decide +kernel) ?_
  refine LW_arg (k := 1) hC hL (show lawA 1358 1 by unfold lawA; decide +kernel) (by decide) (by omega) ?_
  refine LW_arg (k := 2) hC hL (show lawA 1363 2 by unfold lawA; decide +kernel) (by decide) (by omega) ?_
  refine LW_arg (k := 3) hC hL (show lawA 1368 3 by unfold lawA; decide +kernel) (by decide) (by omega) ?_
  refine LW_callM (idx := 132) (as := [.int (xs (i + 1)), .int (xs (i + 2)), .int (xs (i + 3))]) hC (show lawC n_M_inFrame 132 3 12 1373 by unfold lawC; decide +kernel) (Nat.le_of_ble_eq_true rfl) rfl (by decide +kernel) (Nat.le_of_ble_eq_true rfl) hks (Nat.le_of_ble_eq_true rfl) (fun _ => rfl) (h2 r S' hP) (fun T' hR => ?_)
  exact LW_eq (off := 329) hC (by decide +kernel) (kk S' T' hR)
theorem cs_27 {b L : Nat} {xs : Nat → Int32} (hC : LC p s m meth c b L xs D tc u) (hL : L ≤ 3584) {i ks : Nat} {S T : eg_S} (hi : i + 6 < L) (hks : ks ≤ room_1.slots) (R : Rel S T) (kk : ∀ S' T', Rel S' T' → LW Z p l e s m below meth c D tc u b 122 ks i 1706 [] S' T') : LW Z p l e s m below meth c D tc u b 122 ks i 1382 [] S T := by
  obtain ⟨P, h1, h2⟩ := (st_corner R (xs (i + 1)) (xs (i + 2))).toD
  refine LW_x hC (show decode code 1382 = _ by decide +kernel) ?_
  refine LW_arg (k := 1) hC hL (show lawA 1383 1 by unfold lawA; decide +kernel) (by decide) (by omega) ?_
  refine LW_arg (k := 2) hC hL (show lawA 1388 2 by unfold lawA; decide +kernel) (by decide) (by omega) ?_
  refine LW_callX (idx := 133) (as := [.int (xs (i + 1)), .int (xs (i + 2))]) hC (show lawC n_X_corner 133 2 11 1393 by unfold lawC; decide +kernel) (Nat.le_of_ble_eq_true rfl) rfl (by decide +kernel) (Nat.le_of_ble_eq_true rfl) hks (Nat.le_of_ble_eq_true rfl) (fun _ => rfl) h1 (fun r S' hP => ?_)
  refine LW_m hC (show decode code 1396 = _ by decide +kernel) ?_
  refine LW_arg (k := 1) hC hL (show lawA 1397 1 by unfold lawA; decide +kernel) (by decide) (by omega) ?_
  refine LW_arg (k := 2) hC hL (show lawA 1402 2 by unfold lawA; decide +kernel) (by decide) (by omega) ?_
  refine LW_callM (idx := 136) (as := [.int (xs (i + 1)), .int (xs (i + 2))]) hC (show lawC n_M_corner 136 2 12 1407 by unfold lawC; decide +kernel) (Nat.le_of_ble_eq_true rfl) rfl (by decide +kernel) (Nat.le_of_ble_eq_true rfl) hks (Nat.le_of_ble_eq_true rfl) (fun _ => rfl) (h2 r S' hP) (fun T' hR => ?_)
  exact LW_eq (off := 295) hC (by decide +kernel) (kk S' T' hR)
theorem cs_28 {b L : Nat} {xs : Nat → Int32} (hC : LC p s m meth c b L xs D tc u) (hL : L ≤ 3584) {i ks : Nat} {S T : eg_S} (hi : i + 6 < L) (hks : ks ≤ room_1.slots) (R : Rel S T) (kk : ∀ S' T', Rel S' T' → LW Z p l e s m below meth c D tc u b 122 ks i 1706 [] S' T') : LW Z p l e s m below meth c D tc u b 122 ks i 1416 [] S T := by
  obtain ⟨P, h1, h2⟩ := (st_open R).toD
  refine LW_x hC (show decode code 1416 = _ by decide +kernel) ?_
  refine LW_callX (idx := 137) (as := []) hC (show lawC n_X_open 137 0 11 1417 by unfold lawC; decide +kernel) (Nat.le_of_ble_eq_true rfl) rfl (by decide +kernel) (Nat.le_of_ble_eq_true rfl) hks (Nat.le_of_ble_eq_true rfl) (fun _ => rfl) h1 (fun r S' hP => ?_)
  refine LW_m hC (show decode code 1420 = _ by decide +kernel) ?_
  refine LW_callM (idx := 141) (as := []) hC (show lawC n_M_open 141 0 12 1421 by unfold lawC; decide +kernel) (Nat.le_of_ble_eq_true rfl) rfl (by decide +kernel) (Nat.le_of_ble_eq_true rfl) hks (Nat.le_of_ble_eq_true rfl) (fun _ => rfl) (h2 r S' hP) (fun T' hR => ?_)
  exact LW_eq (off := 281) hC (by decide +kernel) (kk S' T' hR)
theorem cs_29 {b L : Nat} {xs : Nat → Int32} (hC : LC p s m meth c b L xs D tc u) (hL : L ≤ 3584) {i ks : Nat} {S T : eg_S} (hi : i + 6 < L) (hks : ks ≤ room_1.slots) (R : Rel S T) (kk : ∀ S' T', Rel S' T' → LW Z p l e s m below meth c D tc u b 122 ks i 1706 [] S' T') : LW Z p l e s m below meth c D tc u b 122 ks i 1430 [] S T := by
  obtain ⟨P, h1, h2⟩ := (st_nearest R (xs (i + 1)) (xs (i + 2))).toD
  refine LW_x hC (show decode code 1430 = _ by decide +kernel) ?_
  refine LW_arg (k := 1) hC hL (show lawA 1431 1 by unfold lawA; decide +kernel) (by decide) (by omega) ?_
  refine LW_arg (k := 2) hC hL (show lawA 1436 2 by unfold lawA; decide +kernel) (by decide) (by omega) ?_
  refine LW_callX (idx := 142) (as := [.int (xs (i + 1)), .int (xs (i + 2))]) hC (show lawC n_X_nearest 142 2 11 1441 by unfold lawC; decide +kernel) (Nat.le_of_ble_eq_true rfl) rfl (by decide +kernel) (Nat.le_of_ble_eq_true rfl) hks (Nat.le_of_ble_eq_true rfl) (fun _ => rfl) h1 (fun r S' hP => ?_)
  refine LW_m hC (show decode code 1444 = _ by decide +kernel) ?_
  refine LW_arg (k := 1) hC hL (show lawA 1445 1 by unfold lawA; decide +kernel) (by decide) (by omega) ?_
  refine LW_arg (k := 2) hC hL (show lawA 1450 2 by unfold lawA; decide +kernel) (by decide) (by omega) ?_
  refine LW_callM (idx := 145) (as := [.int (xs (i + 1)), .int (xs (i + 2))]) hC (show lawC n_M_nearest 145 2 12 1455 by unfold lawC; decide +kernel) (Nat.le_of_ble_eq_true rfl) rfl (by decide +kernel) (Nat.le_of_ble_eq_true rfl) hks (Nat.le_of_ble_eq_true rfl) (fun _ => rfl) (h2 r S' hP) (fun T' hR => ?_)
  exact LW_eq (off := 247) hC (by decide +kernel) (kk S' T' hR)
theorem cs_30 {b L : Nat} {xs : Nat → Int32} (hC : LC p s m meth c b L xs D tc u) (hL : L ≤ 3584) {i ks : Nat} {S T : eg_S} (hi : i + 6 < L) (hks : ks ≤ room_1.slots) (R : Rel S T) (kk : ∀ S' T', Rel S' T' → LW Z p l e s m below meth c D tc u b 122 ks i 1706 [] S' T') : LW Z p l e s m below meth c D tc u b 122 ks i 1464 [] S T := by
  obtain ⟨P, h1, h2⟩ := (st_far R (xs (i + 1)) (xs (i + 2)) (if xs (i + 3) = 0 then 0 else 1) (z01 _)).toD
  refine LW_x hC (show decode code 1464 = _ by decide +kernel) ?_
  refine LW_arg (k := 1) hC hL (show lawA 1465 1 by unfold lawA; decide +kernel) (by decide) (by omega) ?_
  refine LW_arg (k := 2) hC hL (show lawA 1470 2 by unfold lawA; decide +kernel) (by decide) (by omega) ?_
  refine LW_argZ (k := 3) hC hL (show lawZ 1475 3 by unfold lawZ lawA; decide +kernel) (by decide) (by omega) ?_
  refine LW_callX (idx := 146) (as := [.int (xs (i + 1)), .int (xs (i + 2)), .int (if xs (i + 3) = 0 then 0 else 1)]) hC (show lawC n_X_far 146 3 11 1488 by unfold lawC; decide +kernel) (Nat.le_of_ble_eq_true rfl) rfl (by decide +kernel) (Nat.le_of_ble_eq_true rfl) hks (Nat.le_of_ble_eq_true rfl) (fun _ => rfl) h1 (fun r S' hP => ?_)
  refine LW_m hC (show decode code 1491 = _ by decide +kernel) ?_
  refine LW_arg (k := 1) hC hL (show lawA 1492 1 by unfold lawA; decide +kernel) (by decide) (by omega) ?_
  refine LW_arg (k := 2) hC hL (show lawA 1497 2 by unfold lawA; decide +kernel) (by decide) (by omega) ?_
  refine LW_argZ (k := 3) hC hL (show lawZ 1502 3 by unfold lawZ lawA; decide +kernel) (by decide) (by omega) ?_
  refine LW_callM (idx := 149) (as := [.int (xs (i + 1)), .int (xs (i + 2)), .int (if xs (i + 3) = 0 then 0 else 1)]) hC (show lawC n_M_far 149 3 12 1515 by unfold lawC; decide +kernel) (Nat.le_of_ble_eq_true rfl) rfl (by decide +kernel) (Nat.le_of_ble_eq_true rfl) hks (Nat.le_of_ble_eq_true rfl) (fun _ => rfl) (h2 r S' hP) (fun T' hR => ?_)
  exact LW_eq (off := 187) hC (by decide +kernel) (kk S' T' hR)
theorem cs_31 {b L : Nat} {xs : Nat → Int32} (hC : LC p s m meth c b L xs D tc u) (hL : L ≤ 3584) {i ks : Nat} {S T : eg_S} (hi : i + 6 < L) (hks : ks ≤ room_1.slots) (R : Rel S T) (kk : ∀ S' T', Rel S' T' → LW Z p l e s m below meth c D tc u b 122 ks i 1706 [] S' T') : LW Z p l e s m below meth c D tc u b 122 ks i 1524 [] S T := by
  obtain ⟨P, h1, h2⟩ := (st_box R (xs (i + 1)) (xs (i + 2)) (xs (i + 3)) (xs (i + 4)) (xs (i + 5)) (xs (i + 6))).toD
  refine LW_x hC (show decode code 1524 = _ by decide +kernel) ?_
  refine LW_arg (k := 1) hC hL (show lawA 1525 1 by unfold lawA; decide +kernel) (by decide) (by omega) ?_
  refine LW_arg (k := 2) hC hL (show lawA 1530 2 by unfold lawA; decide +kernel) (by decide) (by omega) ?_
  refine LW_arg (k := 3) hC hL (show lawA 1535 3 by unfold lawA; decide +kernel) (by decide) (by omega) ?_
  refine LW_arg (k := 4) hC hL (show lawA 1540 4 by unfold lawA; decide +kernel) (by decide) (by omega) ?_
  refine LW_arg (k := 5) hC hL (show lawA 1545 5 by unfold lawA; decide +kernel) (by decide) (by omega) ?_
  refine LW_arg6 hC hL (show lawA6 1550 by unfold lawA6; decide +kernel) (by omega) ?_
  refine LW_callX (idx := 150) (as := [.int (xs (i + 1)), .int (xs (i + 2)), .int (xs (i + 3)), .int (xs (i + 4)), .int (xs (i + 5)), .int (xs (i + 6))]) hC (show lawC n_X_box 150 6 11 1556 by unfold lawC; decide +kernel) (Nat.le_of_ble_eq_true rfl) rfl (by decide +kernel) (Nat.le_of_ble_eq_true rfl) hks (Nat.le_of_ble_eq_true rfl) (fun _ => rfl) h1 (fun r S' hP => ?_)
  refine LW_m hC (show decode code 1559 = _ by decide +kernel) ?_
  refine LW_arg (k := 1) hC hL (show lawA 1560 1 by unfold lawA; decide +kernel) (by decide) (by omega) ?_
  refine LW_arg (k := 2) hC hL (show lawA 1565 2 by unfold lawA; decide +kernel) (by decide) (by omega) ?_
  refine LW_arg (k := 3) hC hL (show lawA 1570 3 by unfold lawA; decide +kernel) (by decide) (by omega) ?_
  refine LW_arg (k := 4) hC hL (show lawA 1575 4 by unfold lawA; decide +kernel) (by decide) (by omega) ?_
  refine LW_arg (k := 5) hC hL (show lawA 1580 5 by unfold lawA; decide +kernel) (by decide) (by omega) ?_
  refine LW_arg6 hC hL (show lawA6 1585 by unfold lawA6; decide +kernel) (by omega) ?_
  refine LW_callM (idx := 153) (as := [.int (xs (i + 1)), .int (xs (i + 2)), .int (xs (i + 3)), .int (xs (i + 4)), .int (xs (i + 5)), .int (xs (i + 6))]) hC (show lawC n_M_box 153 6 12 1591 by unfold lawC; decide +kernel) (Nat.le_of_ble_eq_true rfl) rfl (by decide +kernel) (Nat.le_of_ble_eq_true rfl) hks (Nat.le_of_ble_eq_true rfl) (fun _ => rfl) (h2 r S' hP) (fun T' hR => ?_)
  exact LW_eq (off := 111) hC (by decide +kernel) (kk S' T' hR)
theorem cs_32 {b L : Nat} {xs : Nat → Int32} (hC : LC p s m meth c b L xs D tc u) (hL : L ≤ 3584) {i ks : Nat} {S T : eg_S} (hi : i + 6 < L) (hks : ks ≤ room_1.slots) (R : Rel S T) (kk : ∀ S' T', Rel S' T' → LW Z p l e s m below meth c D tc u b 122 ks i 1706 [] S' T') : LW Z p l e s m below meth c D tc u b 122 ks i 1600 [] S T := by
  obtain ⟨P, h1, h2⟩ := (st_unbox R).toD
  refine LW_x hC (show decode code 1600 = _ by decide +kernel) ?_
  refine LW_callX (idx := 154) (as := []) hC (show lawC n_X_unbox 154 0 11 1601 by unfold lawC; decide +kernel) (Nat.le_of_ble_eq_true rfl) rfl (by decide +kernel) (Nat.le_of_ble_eq_true rfl) hks (Nat.le_of_ble_eq_true rfl) (fun _ => rfl) h1 (fun r S' hP => ?_)
  refine LW_m hC (show decode code 1604 = _ by decide +kernel) ?_
  refine LW_callM (idx := 157) (as := []) hC (show lawC n_M_unbox 157 0 12 1605 by unfold lawC; decide +kernel) (Nat.le_of_ble_eq_true rfl) rfl (by decide +kernel) (Nat.le_of_ble_eq_true rfl) hks (Nat.le_of_ble_eq_true rfl) (fun _ => rfl) (h2 r S' hP) (fun T' hR => ?_)
  exact LW_eq (off := 97) hC (by decide +kernel) (kk S' T' hR)
theorem cs_33 {b L : Nat} {xs : Nat → Int32} (hC : LC p s m meth c b L xs D tc u) (hL : L ≤ 3584) {i ks : Nat} {S T : eg_S} (hi : i + 6 < L) (hks : ks ≤ room_1.slots) (R : Rel S T) (kk : ∀ S' T', Rel S' T' → LW Z p l e s m below meth c D tc u b 122 ks i 1706 [] S' T') : LW Z p l e s m below meth c D tc u b 122 ks i 1614 [] S T := by
  obtain ⟨P, h1, h2⟩ := (st_move R (xs (i + 1)) (xs (i + 2)) (xs (i + 3))).toD
  refine LW_x hC (show decode code 1614 = _ by decide +kernel) ?_
  refine LW_arg (k := 1) hC hL (show lawA 1615 1 by unfold lawA; decide +kernel) (by decide) (by omega) ?_
  refine LW_arg (k := 2) hC hL (show lawA 1620 2 by unfold lawA; decide +kernel) (by decide) (by omega) ?_
  refine LW_arg (k := 3) hC hL (show lawA 1625 3 by unfold lawA; decide +kernel) (by decide) (by omega) ?_
  refine LW_callX (idx := 158) (as := [.int (xs (i + 1)), .int (xs (i + 2)), .int (xs (i + 3))]) hC (show lawC n_X_move 158 3 11 1630 by unfold lawC; decide +kernel) (Nat.le_of_ble_eq_true rfl) rfl (by decide +kernel) (Nat.le_of_ble_eq_true rfl) hks (Nat.le_of_ble_eq_true rfl) (fun _ => rfl) h1 (fun r S' hP => ?_)
  refine LW_m hC (show decode code 1633 = _ by decide +kernel) ?_
  refine LW_arg (k := 1) hC hL (show lawA 1634 1 by unfold lawA; decide +kernel) (by decide) (by omega) ?_
  refine LW_arg (k := 2) hC hL (show lawA 1639 2 by unfold lawA; decide +kernel) (by decide) (by omega) ?_
  refine LW_arg (k := 3) hC hL (show lawA 1644 3 by unfold lawA; decide +kernel) (by decide) (by omega) ?_
  refine LW_callM (idx := 161) (as := [.int (xs (i + 1)), .int (xs (i + 2)), .int (xs (i + 3))]) hC (show lawC n_M_move 161 3 12 1649 by unfold lawC; decide +kernel) (Nat.le_of_ble_eq_true rfl) rfl (by decide +kernel) (Nat.le_of_ble_eq_true rfl) hks (Nat.le_of_ble_eq_true rfl) (fun _ => rfl) (h2 r S' hP) (fun T' hR => ?_)
  exact LW_eq (off := 53) hC (by decide +kernel) (kk S' T' hR)
theorem cs_34 {b L : Nat} {xs : Nat → Int32} (hC : LC p s m meth c b L xs D tc u) (hL : L ≤ 3584) {i ks : Nat} {S T : eg_S} (hi : i + 6 < L) (hks : ks ≤ room_1.slots) (R : Rel S T) (kk : ∀ S' T', Rel S' T' → LW Z p l e s m below meth c D tc u b 122 ks i 1706 [] S' T') : LW Z p l e s m below meth c D tc u b 122 ks i 1658 [] S T := by
  obtain ⟨P, h1, h2⟩ := (st_path R (xs (i + 1))).toD
  refine LW_x hC (show decode code 1658 = _ by decide +kernel) ?_
  refine LW_arg (k := 1) hC hL (show lawA 1659 1 by unfold lawA; decide +kernel) (by decide) (by omega) ?_
  refine LW_callX (idx := 162) (as := [.int (xs (i + 1))]) hC (show lawC n_X_path 162 1 11 1664 by unfold lawC; decide +kernel) (Nat.le_of_ble_eq_true rfl) rfl (by decide +kernel) (Nat.le_of_ble_eq_true rfl) hks (Nat.le_of_ble_eq_true rfl) (fun _ => rfl) h1 (fun r S' hP => ?_)
  refine LW_m hC (show decode code 1667 = _ by decide +kernel) ?_
  refine LW_arg (k := 1) hC hL (show lawA 1668 1 by unfold lawA; decide +kernel) (by decide) (by omega) ?_
  refine LW_callM (idx := 165) (as := [.int (xs (i + 1))]) hC (show lawC n_M_path 165 1 12 1673 by unfold lawC; decide +kernel) (Nat.le_of_ble_eq_true rfl) rfl (by decide +kernel) (Nat.le_of_ble_eq_true rfl) hks (Nat.le_of_ble_eq_true rfl) (fun _ => rfl) (h2 r S' hP) (fun T' hR => ?_)
  exact LW_eq (off := 29) hC (by decide +kernel) (kk S' T' hR)
theorem cs_35 {b L : Nat} {xs : Nat → Int32} (hC : LC p s m meth c b L xs D tc u) (hL : L ≤ 3584) {i ks : Nat} {S T : eg_S} (hi : i + 6 < L) (hks : ks ≤ room_1.slots) (R : Rel S T) (kk : ∀ S' T', Rel S' T' → LW Z p l e s m below meth c D tc u b 122 ks i 1706 [] S' T') : LW Z p l e s m below meth c D tc u b 122 ks i 1682 [] S T := by
  obtain ⟨P, h1, h2⟩ := (st_told R (xs (i + 1))).toD
  refine LW_x hC (show decode code 1682 = _ by decide +kernel) ?_
  refine LW_arg (k := 1) hC hL (show lawA 1683 1 by unfold lawA; decide +kernel) (by decide) (by omega) ?_
  refine LW_callX (idx := 166) (as := [.int (xs (i + 1))]) hC (show lawC n_X_told 166 1 11 1688 by unfold lawC; decide +kernel) (Nat.le_of_ble_eq_true rfl) rfl (by decide +kernel) (Nat.le_of_ble_eq_true rfl) hks (Nat.le_of_ble_eq_true rfl) (fun _ => rfl) h1 (fun r S' hP => ?_)
  refine LW_m hC (show decode code 1691 = _ by decide +kernel) ?_
  refine LW_arg (k := 1) hC hL (show lawA 1692 1 by unfold lawA; decide +kernel) (by decide) (by omega) ?_
  refine LW_callM (idx := 169) (as := [.int (xs (i + 1))]) hC (show lawC n_M_told 169 1 12 1697 by unfold lawC; decide +kernel) (Nat.le_of_ble_eq_true rfl) rfl (by decide +kernel) (Nat.le_of_ble_eq_true rfl) hks (Nat.le_of_ble_eq_true rfl) (fun _ => rfl) (h2 r S' hP) (fun T' hR => ?_)
  exact LW_eq (off := 5) hC (by decide +kernel) (kk S' T' hR)
end LCs
