/-! THE LAW: its cases, F (by gen76.py) -/
section LCs
variable {Z : State → Prop} {p : Program} {l : Launch} {e : Env} {s : State} {m : MethodId} {below : List Frame} {meth : Method} {c : Code} {D : va_G} {tc : Nat → ClassId} {u : Nat}
theorem cs_30 {b L : Nat} {xs : Nat → Int32} (hC : LC p s m meth c b L xs D tc u) (hL : L ≤ 3584) {i ks : Nat} {S T : eg_S} (hi : i + 6 < L) (hks : ks ≤ room_1.slots) (R : Rel S T) (kk : ∀ S' T', Rel S' T' → LW Z p l e s m below meth c D tc u b 122 ks i 1706 [] S' T') : LW Z p l e s m below meth c D tc u b 122 ks i 1464 [] S T := by
  obtain ⟨P, h1, h2⟩ := (st_far R (xs (i + 1)) (xs (i + 2)) (if xs (i + 3) = 0 then 0 else 1) (z01 _)).toD
  refine LW_x hC (show decode code 1464 = _ by decide +kernel) ?_
  refine LW_arg (k := 1) hC hL (show lawA 1465 1 by unfold lawA; decide +kernel) (by decide) (by omega) ?_
  refine LW_arg (k := 2) hC hL (show lawA 1470 2 by unfold lawA; decide +kernel) (by decide) (by omega) ?_
  refine LW_argZ (k := 3) hC hL (show lawZ 1475 3 by unfold lawZ lawA; decide +kernel) (by decide) (by omega) ?_
  refine LW_callX (idx := 146) (as := [.int (xs (i + 1)), .int (xs (i + 2)), .int (if xs (i + 3) = 0 then 0 else 1)]) hC (show lawC n_X_far 146 3 11 1488 by unfold lawC; decide +kernel) (Nat.le_of_ble_eq_true rfl) rfl (by decide +kernel) (Nat.le_of_ble_eq_true rfl) hks (Nat.le_of_ble_eq_true rfl) (fun _ => rfl) h1 (fun r S' hP => ?_)
  refine LW_m hC (show decode code 1491 = _ by decide +kernel) ?_
  refine LW_arg (k := 1) hC hL (show lawA 1492 1 by unfold lawA; decide +kernel) (by decide) (by omega) ?_
  refine LW_arg (k := 2) hC hL (show lawA 1497 2 by unfold lawA; decide +kernel) (by decide) (by omega) ?_
  refine LW_argZ (k := 3) hC hL (show lawZ 1502 3 by unfold lawZ lawA; decide +kernel) (by decide) (by omega) ?_
  refine LW_callM (idx := 149) (as := [.int (xs (i + 1)), .int (xs (i + 2)), .int (if xs (i + 3) = 0 then 0 else 1)]) hC (show lawC n_M_far 149 3 12 1515 by unfold lawC; decide +kernel) (Nat.le_of_ble_eq_true rfl) rfl (by decide +kernel) (Nat.le_of_ble_eq_true rfl) hks (Nat.le_of_ble_eq_true rfl) (fun _ => rfl) (h2 r S' hP) (fun T' hR => ?_)
  exact LW_eq (off := 187) hC (by decide +kernel) (kk S' T' hR)
theorem cs_31 {b L : Nat} {xs : Nat → Int32} (hC : LC p s m meth c b L xs D tc u) (hL : L ≤ 3584) {i ks : Nat} {S T : eg_S} (hi : i + 6 < L) (hks : ks ≤ room_1.slots) (R : Rel S T) (kk : ∀ S' T', Rel S' T' → LW Z p l e s m below meth c D tc u b 122 ks i 1706 [] S' T') : LW Z p l e s m below meth c D tc u b 122 ks i 1524 [] S T := by
  obtain ⟨P, h1, h2⟩ := (st_box R (xs (i + 1)) (xs (i + 2)) (xs (i + 3)) (xs (i + 4)) (xs (i + 5)) (xs (i + 6))).toD
  refine LW_x hC (show decode code 1524 = _ by decide +kernel) ?_
  refine LW_arg (k := 1) hC hL (show lawA 1525 1 by unfold lawA; decide +kernel) (by decide) (by omega) ?_
  refine LW_arg (k := 2) hC hL (show lawA 1530 2 by unfold lawA; decide +kernel) (by decide) (by omega) ?_
  refine LW_arg (k := 3) hC hL (show lawA 1535 3 by unfold lawA; decide +kernel) (by decide) (by omega) ?_
  refine LW_arg (k := 4) hC hL (show lawA 1540 4 by unfold lawA; decide +kernel) (by decide) (by omega) ?_
  refine LW_arg (k := 5) hC hL (show lawA 1545 5 by unfold lawA; decide +kernel) (by decide) (by omega) ?_
  refine LW_arg6 hC hL (show lawA6 1550 by unfold lawA6; decide +kernel) (by omega) ?_
  refine LW_callX (idx := 150) (as := [.int (xs (i + 1)), .int (xs (i + 2)), .int (xs (i + 3)), .int (xs (i + 4)), .int (xs (i + 5)), .int (xs (i + 6))]) hC (show lawC n_X_box 150 6 11 1556 by unfold lawC; decide +kernel) (Nat.le_of_ble_eq_true rfl) rfl (by decide +kernel) (Nat.le_of_ble_eq_true rfl) hks (Nat.le_of_ble_eq_true rfl) (fun _ => rfl) h1 (fun r S' hP => ?_)
  refine LW_m hC (show decode code 1559 = _ by decide +kernel) ?_
  refine LW_arg (k := 1) hC hL (show lawA 1560 1 by unfold lawA; decide +kernel) (by decide) (by omega) ?_
  refine LW_arg (k := 2) hC hL (show lawA 1565 2 by unfold lawA; decide +kernel) (by decide) (by omega) ?_
  refine LW_arg (k := 3) hC hL (show lawA 1570 3 by unfold lawA; decide +kernel) (by decide) (by omega) ?_
  refine LW_arg (k := 4) hC hL (show lawA 1575 4 by unfold lawA; decide +kernel) (by decide) (by omega) ?_
  refine LW_arg (k := 5) hC hL (show lawA 1580 5 by unfold lawA; decide +kernel) (by decide) (by omega) ?_
  refine LW_arg6 hC hL (show lawA6 1585 by unfold lawA6; decide +kernel) (by omega) ?_
  refine LW_callM (idx := 153) (as := [.int (xs (i + 1)), .int (xs (i + 2)), .int (xs (i + 3)), .int (xs (i + 4)), .int (xs (i + 5)), .int (xs (i + 6))]) hC (show lawC n_M_box 153 6 12 1591 by unfold lawC; decide +kernel) (Nat.le_of_ble_eq_true rfl) rfl (by decide +kernel) (Nat.le_of_ble_eq_true rfl) hks (Nat.le_of_ble_eq_true rfl) (fun _ => rfl) (h2 r S' hP) (fun T' hR => ?_)
  exact LW_eq (off := 111) hC (by decide +kernel) (kk S' T' hR)
theorem cs_32 {b L : Nat} {xs : Nat → Int32} (hC : LC p s m meth c b L xs D tc u) (hL : L ≤ 3584) {i ks : Nat} {S T : eg_S} (hi : i + 6 < L) (hks : ks ≤ room_1.slots) (R : Rel S T) (kk : ∀ S' T', Rel S' T' → LW Z p l e s m below meth c D tc u b 122 ks i 1706 [] S' T') : LW Z p l e s m below meth c D tc u b 122 ks i 1600 [] S T := by
  obtain ⟨P, h1, h2⟩ := (st_unbox R).toD
  refine LW_x hC (show decode code 1600 = _ by decide +kernel) ?_
  refine LW_callX (idx := 154) (as := []) hC (show lawC n_X_unbox 154 0 11 1601 by unfold lawC; decide +kernel) (Nat.le_of_ble_eq_true rfl) rfl (by decide +kernel) (Nat.le_of_ble_eq_true rfl) hks (Nat.le_of_ble_eq_true rfl) (fun _ => rfl) h1 (fun r S' hP => ?_)
  refine LW_m hC (show decode code 1604 = _ by decide +kernel) ?_
  refine LW_callM (idx := 157) (as := []) hC (show lawC n_M_unbox 157 0 12 1605 by unfold lawC; decide +kernel) (Nat.le_of_ble_eq_true rfl) rfl (by decide +kernel) (Nat.le_of_ble_eq_true rfl) hks (Nat.le_of_ble_eq_true rfl) (fun _ => rfl) (h2 r S' hP) (fun T' hR => ?_)
  exact LW_eq (off := 97) hC (by decide +kernel) (kk S' T' hR)
theorem cs_33 {b L : Nat} {xs : Nat → Int32} (hC : LC p s m meth c b L xs D tc u) (hL : L ≤ 3584) {i ks : Nat} {S T : eg_S} (hi : i + 6 < L) (hks : ks ≤ room_1.slots) (R : Rel S T) (kk : ∀ S' T', Rel S' T' → LW Z p l e s m below meth c D tc u b 122 ks i 1706 [] S' T') : LW Z p l e s m below meth c D tc u b 122 ks i 1614 [] S T := by
  obtain ⟨P, h1, h2⟩ := (st_move R (xs (i + 1)) (xs (i + 2)) (xs (i + 3))).toD
  refine LW_x hC (show decode code 1614 = _ by decide +kernel) ?_
  refine LW_arg (k := 1) hC hL (show lawA 1615 1 by unfold lawA; decide +kernel) (by decide) (by omega) ?_
  refine LW_arg (k := 2) hC hL (show lawA 1620 2 by unfold lawA; decide +kernel) (by decide) (by omega) ?_
  refine LW_arg (k := 3) hC hL (show lawA 1625 3 by unfold lawA; decide +kernel) (by decide) (by omega) ?_
  refine LW_callX (idx := 158) (as := [.int (xs (i + 1)), .int (xs (i + 2)), .int (xs (i + 3))]) hC (show lawC n_X_move 158 3 11 1630 by unfold lawC; decide +kernel) (Nat.le_of_ble_eq_true rfl) rfl (by decide +kernel) (Nat.le_of_ble_eq_true rfl) hks (Nat.le_of_ble_eq_true rfl) (fun _ => rfl) h1 (fun r S' hP => ?_)
  refine LW_m hC (show decode code 1633 = _ by decide +kernel) ?_
  refine LW_arg (k := 1) hC hL (show lawA 1634 1 by unfold lawA; decide +kernel) (by decide) (by omega) ?_
  refine LW_arg (k := 2) hC hL (show lawA 1639 2 by unfold lawA; decide +kernel) (by decide) (by omega) ?_
  refine LW_arg (k := 3) hC hL (show lawA 1644 3 by unfold lawA; decide +kernel) (by decide) (by omega) ?_
  refine LW_callM (idx := 161) (as := [.int (xs (i + 1)), .int (xs (i + 2)), .int (xs (i + 3))]) hC (show lawC n_M_move 161 3 12 1649 by unfold lawC; decide +kernel) (Nat.le_of_ble_eq_true rfl) rfl (by decide +kernel) (Nat.le_of_ble_eq_true rfl) hks (Nat.le_of_ble_eq_true rfl) (fun _ => rfl) (h2 r S' hP) (fun T' hR => ?_)
  exact LW_eq (off := 53) hC (by decide +kernel) (kk S' T' hR)
theorem cs_34 {b L : Nat} {xs : Nat → Int32} (hC : LC p s m meth c b L xs D tc u) (hL : L ≤ 3584) {i ks : Nat} {S T : eg_S} (hi : i + 6 < L) (hks : ks ≤ room_1.slots) (R : Rel S T) (kk : ∀ S' T', Rel S' T' → LW Z p l e s m below meth c D tc u b 122 ks i 1706 [] S' T') : LW Z p l e s m below meth c D tc u b 122 ks i 1658 [] S T := by
  obtain ⟨P, h1, h2⟩ := (st_path R (xs (i + 1))).toD
  refine LW_x hC (show decode code 1658 = _ by decide +kernel) ?_
  refine LW_arg (k := 1) hC hL (show lawA 1659 1 by unfold lawA; decide +kernel) (by decide) (by omega) ?_
  refine LW_callX (idx := 162) (as := [.int (xs (i + 1))]) hC (show lawC n_X_path 162 1 11 1664 by unfold lawC; decide +kernel) (Nat.le_of_ble_eq_true rfl) rfl (by decide +kernel) (Nat.le_of_ble_eq_true rfl) hks (Nat.le_of_ble_eq_true rfl) (fun _ => rfl) h1 (fun r S' hP => ?_)
  refine LW_m hC (show decode code 1667 = _ by decide +kernel) ?_
  refine LW_arg (k := 1) hC hL (show lawA 1668 1 by unfold lawA; decide +kernel) (by decide) (by omega) ?_
  refine LW_callM (idx := 165) (as := [.int (xs (i + 1))]) hC (show lawC n_M_path 165 1 12 1673 by unfold lawC; decide +kernel) (Nat.le_of_ble_eq_true rfl) rfl (by decide +kernel) (Nat.le_of_ble_eq_true rfl) hks (Nat.le_of_ble_eq_true rfl) (fun _ => rfl) (h2 r S' hP) (fun T' hR => ?_)
  exact LW_eq (off := 29) hC (by decide +kernel) (kk S' T' hR)
theorem cs_35 {b L : Nat} {xs : Nat → Int32} (hC : LC p s m meth c b L xs D tc u) (hL : L ≤ 3584) {i ks : Nat} {S T : eg_S} (hi : i + 6 < L) (hks : ks ≤ room_1.slots) (R : Rel S T) (kk : ∀ S' T', Rel S' T' → LW Z p l e s m below meth c D tc u b 122 ks i 1706 [] S' T') : LW Z p l e s m below meth c D tc u b 122 ks i 1682 [] S T := by
  obtain ⟨P, h1, h2⟩ := (st_told R (xs (i + 1))).toD
  refine LW_x hC (show decode code 1682 = _ by decide +kernel) ?_
  refine LW_arg (k := 1) hC hL (show lawA 1683 1 by unfold lawA; decide +kernel) (by decide) (by omega) ?_
  refine LW_callX (idx := 166) (as := [.int (xs (i + 1))]) hC (show lawC n_X_told 166 1 11 1688 by unfold lawC; decide +kernel) (Nat.le_of_ble_eq_true rfl) rfl (by decide +kernel) (Nat.le_of_ble_eq_true rfl) hks (Nat.le_of_ble_eq_true rfl) (fun _ => rfl) h1 (fun r S' hP => ?_)
  refine LW_m hC (show decode code 1691 = _ by decide +kernel) ?_
  refine LW_arg (k := 1) hC hL (show lawA 1692 1 by unfold lawA; decide +kernel) (by decide) (by omega) ?_
  refine LW_callM (idx := 169) (as := [.int (xs (i + 1))]) hC (show lawC n_M_told 169 1 12 1697 by unfold lawC; decide +kernel) (Nat.le_of_ble_eq_true rfl) rfl (by decide +kernel) (Nat.le_of_ble_eq_true rfl) hks (Nat.le_of_ble_eq_true rfl) (fun _ => rfl) (h2 r S' hP) (fun T' hR => ?_)
  exact LW_eq (off := 5) hC (by decide +kernel) (kk S' T' hR)
end LCs
