/-! THE LAW: its cases, B (by gen76.py) -/
section LCs
variable {Z : State → Prop} {p : Program} {l : Launch} {e : Env} {s : State} {m : MethodId} {below : List Frame} {meth : Method} {c : Code} {D : va_G} {tc : Nat → ClassId} {u : Nat}
theorem cs_6 {b L : Nat} {xs : Nat → Int32} (hC : LC p s m meth c b L xs D tc u) (hL : L ≤ 3584) {i ks : Nat} {S T : eg_S} (hi : i + 6 < L) (hks : ks ≤ room_1.slots) (R : Rel S T) (kk : ∀ S' T', Rel S' T' → LW Z p l e s m below meth c D tc u b 122 ks i 1706 [] S' T') : LW Z p l e s m below meth c D tc u b 122 ks i 412 [] S T := by
  obtain ⟨P, h1, h2⟩ := (st_grid R (xs (i + 1)) (xs (i + 2)) (xs (i + 3))).toD
  refine LW_x hC (show decode code 412 = _ by decide +kernel) ?_
  refine LW_arg (k := 1) hC hL (show lawA 413 1 by unfold lawA; decide +kernel) (by decide) (by omega) ?_
  refine LW_arg (k := 2) hC hL (show lawA 418 2 by unfold lawA; decide +kernel) (by decide) (by omega) ?_
  refine LW_arg (k := 3) hC hL (show lawA 423 3 by unfold lawA; decide +kernel) (by decide) (by omega) ?_
  refine LW_callX (idx := 41) (as := [.int (xs (i + 1)), .int (xs (i + 2)), .int (xs (i + 3))]) hC (show lawC n_X_grid 41 3 11 428 by unfold lawC; decide +kernel) (Nat.le_of_ble_eq_true rfl) rfl (by decide +kernel) (Nat.le_of_ble_eq_true rfl) hks (Nat.le_of_ble_eq_true rfl) (fun _ => rfl) h1 (fun r S' hP => ?_)
  refine LW_m hC (show decode code 431 = _ by decide +kernel) ?_
  refine LW_arg (k := 1) hC hL (show lawA 432 1 by unfold lawA; decide +kernel) (by decide) (by omega) ?_
  refine LW_arg (k := 2) hC hL (show lawA 437 2 by unfold lawA; decide +kernel) (by decide) (by omega) ?_
  refine LW_arg (k := 3) hC hL (show lawA 442 3 by unfold lawA; decide +kernel) (by decide) (by omega) ?_
  refine LW_callM (idx := 44) (as := [.int (xs (i + 1)), .int (xs (i + 2)), .int (xs (i + 3))]) hC (show lawC n_M_grid 44 3 12 447 by unfold lawC; decide +kernel) (Nat.le_of_ble_eq_true rfl) rfl (by decide +kernel) (Nat.le_of_ble_eq_true rfl) hks (Nat.le_of_ble_eq_true rfl) (fun _ => rfl) (h2 r S' hP) (fun T' hR => ?_)
  exact LW_eq (off := 1255) hC (by decide +kernel) (kk S' T' hR)
theorem cs_7 {b L : Nat} {xs : Nat → Int32} (hC : LC p s m meth c b L xs D tc u) (hL : L ≤ 3584) {i ks : Nat} {S T : eg_S} (hi : i + 6 < L) (hks : ks ≤ room_1.slots) (R : Rel S T) (kk : ∀ S' T', Rel S' T' → LW Z p l e s m below meth c D tc u b 122 ks i 1706 [] S' T') : LW Z p l e s m below meth c D tc u b 122 ks i 456 [] S T := by
  obtain ⟨P, h1, h2⟩ := (st_off R (xs (i + 1)) (xs (i + 2)) (if xs (i + 3) = 0 then 0 else 1) (z01 _)).toD
  refine LW_x hC (show decode code 456 = _ by decide +kernel) ?_
  refine LW_arg (k := 1) hC hL (show lawA 457 1 by unfold lawA; decide +kernel) (by decide) (by omega) ?_
  refine LW_arg (k := 2) hC hL (show lawA 462 2 by unfold lawA; decide +kernel) (by decide) (by omega) ?_
  refine LW_argZ (k := 3) hC hL (show lawZ 467 3 by unfold lawZ lawA; decide +kernel) (by decide) (by omega) ?_
  refine LW_callX (idx := 45) (as := [.int (xs (i + 1)), .int (xs (i + 2)), .int (if xs (i + 3) = 0 then 0 else 1)]) hC (show lawC n_X_off 45 3 11 480 by unfold lawC; decide +kernel) (Nat.le_of_ble_eq_true rfl) rfl (by decide +kernel) (Nat.le_of_ble_eq_true rfl) hks (Nat.le_of_ble_eq_true rfl) (fun _ => rfl) h1 (fun r S' hP => ?_)
  refine LW_m hC (show decode code 483 = _ by decide +kernel) ?_
  refine LW_arg (k := 1) hC hL (show lawA 484 1 by unfold lawA; decide +kernel) (by decide) (by omega) ?_
  refine LW_arg (k := 2) hC hL (show lawA 489 2 by unfold lawA; decide +kernel) (by decide) (by omega) ?_
  refine LW_argZ (k := 3) hC hL (show lawZ 494 3 by unfold lawZ lawA; decide +kernel) (by decide) (by omega) ?_
  refine LW_callM (idx := 49) (as := [.int (xs (i + 1)), .int (xs (i + 2)), .int (if xs (i + 3) = 0 then 0 else 1)]) hC (show lawC n_M_off 49 3 12 507 by unfold lawC; decide +kernel) (Nat.le_of_ble_eq_true rfl) rfl (by decide +kernel) (Nat.le_of_ble_eq_true rfl) hks (Nat.le_of_ble_eq_true rfl) (fun _ => rfl) (h2 r S' hP) (fun T' hR => ?_)
  exact LW_eq (off := 1195) hC (by decide +kernel) (kk S' T' hR)
theorem cs_8 {b L : Nat} {xs : Nat → Int32} (hC : LC p s m meth c b L xs D tc u) (hL : L ≤ 3584) {i ks : Nat} {S T : eg_S} (hi : i + 6 < L) (hks : ks ≤ room_1.slots) (R : Rel S T) (kk : ∀ S' T', Rel S' T' → LW Z p l e s m below meth c D tc u b 122 ks i 1706 [] S' T') : LW Z p l e s m below meth c D tc u b 122 ks i 516 [] S T := by
  obtain ⟨P, h1, h2⟩ := (st_apart R (xs (i + 1)) (xs (i + 2)) (xs (i + 3))).toD
  refine LW_x hC (show decode code 516 = _ by decide +kernel) ?_
  refine LW_arg (k := 1) hC hL (show lawA 517 1 by unfold lawA; decide +kernel) (by decide) (by omega) ?_
  refine LW_arg (k := 2) hC hL (show lawA 522 2 by unfold lawA; decide +kernel) (by decide) (by omega) ?_
  refine LW_arg (k := 3) hC hL (show lawA 527 3 by unfold lawA; decide +kernel) (by decide) (by omega) ?_
  refine LW_callX (idx := 50) (as := [.int (xs (i + 1)), .int (xs (i + 2)), .int (xs (i + 3))]) hC (show lawC n_X_apart 50 3 11 532 by unfold lawC; decide +kernel) (Nat.le_of_ble_eq_true rfl) rfl (by decide +kernel) (Nat.le_of_ble_eq_true rfl) hks (Nat.le_of_ble_eq_true rfl) (fun _ => rfl) h1 (fun r S' hP => ?_)
  refine LW_m hC (show decode code 535 = _ by decide +kernel) ?_
  refine LW_arg (k := 1) hC hL (show lawA 536 1 by unfold lawA; decide +kernel) (by decide) (by omega) ?_
  refine LW_arg (k := 2) hC hL (show lawA 541 2 by unfold lawA; decide +kernel) (by decide) (by omega) ?_
  refine LW_arg (k := 3) hC hL (show lawA 546 3 by unfold lawA; decide +kernel) (by decide) (by omega) ?_
  refine LW_callM (idx := 53) (as := [.int (xs (i + 1)), .int (xs (i + 2)), .int (xs (i + 3))]) hC (show lawC n_M_apart 53 3 12 551 by unfold lawC; decide +kernel) (Nat.le_of_ble_eq_true rfl) rfl (by decide +kernel) (Nat.le_of_ble_eq_true rfl) hks (Nat.le_of_ble_eq_true rfl) (fun _ => rfl) (h2 r S' hP) (fun T' hR => ?_)
  exact LW_eq (off := 1151) hC (by decide +kernel) (kk S' T' hR)
theorem cs_9 {b L : Nat} {xs : Nat → Int32} (hC : LC p s m meth c b L xs D tc u) (hL : L ≤ 3584) {i ks : Nat} {S T : eg_S} (hi : i + 6 < L) (hks : ks ≤ room_1.slots) (R : Rel S T) (kk : ∀ S' T', Rel S' T' → LW Z p l e s m below meth c D tc u b 122 ks i 1706 [] S' T') : LW Z p l e s m below meth c D tc u b 122 ks i 560 [] S T := by
  obtain ⟨P, h1, h2⟩ := (st_sheet R (xs (i + 1)) (xs (i + 2)) (xs (i + 3))).toD
  refine LW_x hC (show decode code 560 = _ by decide +kernel) ?_
  refine LW_arg (k := 1) hC hL (show lawA 561 1 by unfold lawA; decide +kernel) (by decide) (by omega) ?_
  refine LW_arg (k := 2) hC hL (show lawA 566 2 by unfold lawA; decide +kernel) (by decide) (by omega) ?_
  refine LW_arg (k := 3) hC hL (show lawA 571 3 by unfold lawA; decide +kernel) (by decide) (by omega) ?_
  refine LW_callX (idx := 54) (as := [.int (xs (i + 1)), .int (xs (i + 2)), .int (xs (i + 3))]) hC (show lawC n_X_sheet 54 3 11 576 by unfold lawC; decide +kernel) (Nat.le_of_ble_eq_true rfl) rfl (by decide +kernel) (Nat.le_of_ble_eq_true rfl) hks (Nat.le_of_ble_eq_true rfl) (fun _ => rfl) h1 (fun r S' hP => ?_)
  refine LW_m hC (show decode code 579 = _ by decide +kernel) ?_
  refine LW_arg (k := 1) hC hL (show lawA 580 1 by unfold lawA; decide +kernel) (by decide) (by omega) ?_
  refine LW_arg (k := 2) hC hL (show lawA 585 2 by unfold lawA; decide +kernel) (by decide) (by omega) ?_
  refine LW_arg (k := 3) hC hL (show lawA 590 3 by unfold lawA; decide +kernel) (by decide) (by omega) ?_
  refine LW_callM (idx := 57) (as := [.int (xs (i + 1)), .int (xs (i + 2)), .int (xs (i + 3))]) hC (show lawC n_M_sheet 57 3 12 595 by unfold lawC; decide +kernel) (Nat.le_of_ble_eq_true rfl) rfl (by decide +kernel) (Nat.le_of_ble_eq_true rfl) hks (Nat.le_of_ble_eq_true rfl) (fun _ => rfl) (h2 r S' hP) (fun T' hR => ?_)
  exact LW_eq (off := 1107) hC (by decide +kernel) (kk S' T' hR)
theorem cs_10 {b L : Nat} {xs : Nat → Int32} (hC : LC p s m meth c b L xs D tc u) (hL : L ≤ 3584) {i ks : Nat} {S T : eg_S} (hi : i + 6 < L) (hks : ks ≤ room_1.slots) (R : Rel S T) (kk : ∀ S' T', Rel S' T' → LW Z p l e s m below meth c D tc u b 122 ks i 1706 [] S' T') : LW Z p l e s m below meth c D tc u b 122 ks i 604 [] S T := by
  obtain ⟨P, h1, h2⟩ := (st_put R (xs (i + 1)) (xs (i + 2)) (xs (i + 3))).toD
  refine LW_x hC (show decode code 604 = _ by decide +kernel) ?_
  refine LW_arg (k := 1) hC hL (show lawA 605 1 by unfold lawA; decide +kernel) (by decide) (by omega) ?_
  refine LW_arg (k := 2) hC hL (show lawA 610 2 by unfold lawA; decide +kernel) (by decide) (by omega) ?_
  refine LW_arg (k := 3) hC hL (show lawA 615 3 by unfold lawA; decide +kernel) (by decide) (by omega) ?_
  refine LW_callX (idx := 58) (as := [.int (xs (i + 1)), .int (xs (i + 2)), .int (xs (i + 3))]) hC (show lawC n_X_put 58 3 11 620 by unfold lawC; decide +kernel) (Nat.le_of_ble_eq_true rfl) rfl (by decide +kernel) (Nat.le_of_ble_eq_true rfl) hks (Nat.le_of_ble_eq_true rfl) (fun _ => rfl) h1 (fun r S' hP => ?_)
  refine LW_m hC (show decode code 623 = _ by decide +kernel) ?_
  refine LW_arg (k := 1) hC hL (show lawA 624 1 by unfold lawA; decide +kernel) (by decide) (by omega) ?_
  refine LW_arg (k := 2) hC hL (show lawA 629 2 by unfold lawA; decide +kernel) (by decide) (by omega) ?_
  refine LW_arg (k := 3) hC hL (show lawA 634 3 by unfold lawA; decide +kernel) (by decide) (by omega) ?_
  refine LW_callM (idx := 61) (as := [.int (xs (i + 1)), .int (xs (i + 2)), .int (xs (i + 3))]) hC (show lawC n_M_put 61 3 12 639 by unfold lawC; decide +kernel) (Nat.le_of_ble_eq_true rfl) rfl (by decide +kernel) (Nat.le_of_ble_eq_true rfl) hks (Nat.le_of_ble_eq_true rfl) (fun _ => rfl) (h2 r S' hP) (fun T' hR => ?_)
  exact LW_eq (off := 1063) hC (by decide +kernel) (kk S' T' hR)
end LCs
