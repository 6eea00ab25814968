/-! THE LAW: its cases, E (by gen76.py) -/
section LCs
variable {Z : State → Prop} {p : Program} {l : Launch} {e : Env} {s : State} {m : MethodId} {below : List Frame} {meth : Method} {c : Code} {D : va_G} {tc : Nat → ClassId} {u : Nat}
theorem cs_24 {b L : Nat} {xs : Nat → Int32} (hC : LC p s m meth c b L xs D tc u) (hL : L ≤ 3584) {i ks : Nat} {S T : eg_S} (hi : i + 6 < L) (hks : ks ≤ room_1.slots) (R : Rel S T) (kk : ∀ S' T', Rel S' T' → LW Z p l e s m below meth c D tc u b 122 ks i 1706 [] S' T') : LW Z p l e s m below meth c D tc u b 122 ks i 1228 [] S T := by
  obtain ⟨P, h1, h2⟩ := (st_frame R (xs (i + 1)) (xs (i + 2)) (xs (i + 3)) (xs (i + 4)) (xs (i + 5)) (xs (i + 6))).toD
  refine LW_x hC (show decode code 1228 = _ by decide +kernel) ?_
  refine LW_arg (k := 1) hC hL (show lawA 1229 1 by unfold lawA; decide +kernel) (by decide) (by omega) ?_
  refine LW_arg (k := 2) hC hL (show lawA 1234 2 by unfold lawA; decide +kernel) (by decide) (by omega) ?_
  refine LW_arg (k := 3) hC hL (show lawA 1239 3 by unfold lawA; decide +kernel) (by decide) (by omega) ?_
  refine LW_arg (k := 4) hC hL (show lawA 1244 4 by unfold lawA; decide +kernel) (by decide) (by omega) ?_
  refine LW_arg (k := 5) hC hL (show lawA 1249 5 by unfold lawA; decide +kernel) (by decide) (by omega) ?_
  refine LW_arg6 hC hL (show lawA6 1254 by unfold lawA6; decide +kernel) (by omega) ?_
  refine LW_callX (idx := 120) (as := [.int (xs (i + 1)), .int (xs (i + 2)), .int (xs (i + 3)), .int (xs (i + 4)), .int (xs (i + 5)), .int (xs (i + 6))]) hC (show lawC n_X_frame 120 6 11 1260 by unfold lawC; decide +kernel) (Nat.le_of_ble_eq_true rfl) rfl (by decide +kernel) (Nat.le_of_ble_eq_true rfl) hks (Nat.le_of_ble_eq_true rfl) (fun _ => rfl) h1 (fun r S' hP => ?_)
  refine LW_m hC (show decode code 1263 = _ by decide +kernel) ?_
  refine LW_arg (k := 1) hC hL (show lawA 1264 1 by unfold lawA; decide +kernel) (by decide) (by omega) ?_
  refine LW_arg (k := 2) hC hL (show lawA 1269 2 by unfold lawA; decide +kernel) (by decide) (by omega) ?_
  refine LW_arg (k := 3) hC hL (show lawA 1274 3 by unfold lawA; decide +kernel) (by decide) (by omega) ?_
  refine LW_arg (k := 4) hC hL (show lawA 1279 4 by unfold lawA; decide +kernel) (by decide) (by omega) ?_
  refine LW_arg (k := 5) hC hL (show lawA 1284 5 by unfold lawA; decide +kernel) (by decide) (by omega) ?_
  refine LW_arg6 hC hL (show lawA6 1289 by unfold lawA6; decide +kernel) (by omega) ?_
  refine LW_callM (idx := 124) (as := [.int (xs (i + 1)), .int (xs (i + 2)), .int (xs (i + 3)), .int (xs (i + 4)), .int (xs (i + 5)), .int (xs (i + 6))]) hC (show lawC n_M_frame 124 6 12 1295 by unfold lawC; decide +kernel) (Nat.le_of_ble_eq_true rfl) rfl (by decide +kernel) (Nat.le_of_ble_eq_true rfl) hks (Nat.le_of_ble_eq_true rfl) (fun _ => rfl) (h2 r S' hP) (fun T' hR => ?_)
  exact LW_eq (off := 407) hC (by decide +kernel) (kk S' T' hR)
theorem cs_25 {b L : Nat} {xs : Nat → Int32} (hC : LC p s m meth c b L xs D tc u) (hL : L ≤ 3584) {i ks : Nat} {S T : eg_S} (hi : i + 6 < L) (hks : ks ≤ room_1.slots) (R : Rel S T) (kk : ∀ S' T', Rel S' T' → LW Z p l e s m below meth c D tc u b 122 ks i 1706 [] S' T') : LW Z p l e s m below meth c D tc u b 122 ks i 1304 [] S T := by
  obtain ⟨P, h1, h2⟩ := (st_axis R (xs (i + 1)) (xs (i + 2))).toD
  refine LW_x hC (show decode code 1304 = _ by decide +kernel) ?_
  refine LW_arg (k := 1) hC hL (show lawA 1305 1 by unfold lawA; decide +kernel) (by decide) (by omega) ?_
  refine LW_arg (k := 2) hC hL (show lawA 1310 2 by unfold lawA; decide +kernel) (by decide) (by omega) ?_
  refine LW_callX (idx := 125) (as := [.int (xs (i + 1)), .int (xs (i + 2))]) hC (show lawC n_X_axis 125 2 11 1315 by unfold lawC; decide +kernel) (Nat.le_of_ble_eq_true rfl) rfl (by decide +kernel) (Nat.le_of_ble_eq_true rfl) hks (Nat.le_of_ble_eq_true rfl) (fun _ => rfl) h1 (fun r S' hP => ?_)
  refine LW_m hC (show decode code 1318 = _ by decide +kernel) ?_
  refine LW_arg (k := 1) hC hL (show lawA 1319 1 by unfold lawA; decide +kernel) (by decide) (by omega) ?_
  refine LW_arg (k := 2) hC hL (show lawA 1324 2 by unfold lawA; decide +kernel) (by decide) (by omega) ?_
  refine LW_callM (idx := 128) (as := [.int (xs (i + 1)), .int (xs (i + 2))]) hC (show lawC n_M_axis 128 2 12 1329 by unfold lawC; decide +kernel) (Nat.le_of_ble_eq_true rfl) rfl (by decide +kernel) (Nat.le_of_ble_eq_true rfl) hks (Nat.le_of_ble_eq_true rfl) (fun _ => rfl) (h2 r S' hP) (fun T' hR => ?_)
  exact LW_eq (off := 373) hC (by decide +kernel) (kk S' T' hR)
theorem cs_26 {b L : Nat} {xs : Nat → Int32} (hC : LC p s m meth c b L xs D tc u) (hL : L ≤ 3584) {i ks : Nat} {S T : eg_S} (hi : i + 6 < L) (hks : ks ≤ room_1.slots) (R : Rel S T) (kk : ∀ S' T', Rel S' T' → LW Z p l e s m below meth c D tc u b 122 ks i 1706 [] S' T') : LW Z p l e s m below meth c D tc u b 122 ks i 1338 [] S T := by
  obtain ⟨P, h1, h2⟩ := (st_inFrame R (xs (i + 1)) (xs (i + 2)) (xs (i + 3))).toD
  refine LW_x hC (show decode code 1338 = _ by decide +kernel) ?_
  refine LW_arg (k := 1) hC hL (show lawA 1339 1 by unfold lawA; decide +kernel) (by decide) (by omega) ?_
  refine LW_arg (k := 2) hC hL (show lawA 1344 2 by unfold lawA; decide +kernel) (by decide) (by omega) ?_
  refine LW_arg (k := 3) hC hL (show lawA 1349 3 by unfold lawA; decide +kernel) (by decide) (by omega) ?_
  refine LW_callX (idx := 129) (as := [.int (xs (i + 1)), .int (xs (i + 2)), .int (xs (i + 3))]) hC (show lawC n_X_inFrame 129 3 11 1354 by unfold lawC; decide +kernel) (Nat.le_of_ble_eq_true rfl) rfl (by decide +kernel) (Nat.le_of_ble_eq_true rfl) hks (Nat.le_of_ble_eq_true rfl) (fun _ => rfl) h1 (fun r S' hP => ?_)
  refine LW_m hC (show decode code 1357 = _ by decide +kernel) ?_
  refine LW_arg (k := 1) hC hL (show lawA 1358 1 by unfold lawA; decide +kernel) (by decide) (by omega) ?_
  refine LW_arg (k := 2) hC hL (show lawA 1363 2 by unfold lawA; decide +kernel) (by decide) (by omega) ?_
  refine LW_arg (k := 3) hC hL (show lawA 1368 3 by unfold lawA; decide +kernel) (by decide) (by omega) ?_
  refine LW_callM (idx := 132) (as := [.int (xs (i + 1)), .int (xs (i + 2)), .int (xs (i + 3))]) hC (show lawC n_M_inFrame 132 3 12 1373 by unfold lawC; decide +kernel) (Nat.le_of_ble_eq_true rfl) rfl (by decide +kernel) (Nat.le_of_ble_eq_true rfl) hks (Nat.le_of_ble_eq_true rfl) (fun _ => rfl) (h2 r S' hP) (fun T' hR => ?_)
  exact LW_eq (off := 329) hC (by decide +kernel) (kk S' T' hR)
theorem cs_27 {b L : Nat} {xs : Nat → Int32} (hC : LC p s m meth c b L xs D tc u) (hL : L ≤ 3584) {i ks : Nat} {S T : eg_S} (hi : i + 6 < L) (hks : ks ≤ room_1.slots) (R : Rel S T) (kk : ∀ S' T', Rel S' T' → LW Z p l e s m below meth c D tc u b 122 ks i 1706 [] S' T') : LW Z p l e s m below meth c D tc u b 122 ks i 1382 [] S T := by
  obtain ⟨P, h1, h2⟩ := (st_corner R (xs (i + 1)) (xs (i + 2))).toD
  refine LW_x hC (show decode code 1382 = _ by decide +kernel) ?_
  refine LW_arg (k := 1) hC hL (show lawA 1383 1 by unfold lawA; decide +kernel) (by decide) (by omega) ?_
  refine LW_arg (k := 2) hC hL (show lawA 1388 2 by unfold lawA; decide +kernel) (by decide) (by omega) ?_
  refine LW_callX (idx := 133) (as := [.int (xs (i + 1)), .int (xs (i + 2))]) hC (show lawC n_X_corner 133 2 11 1393 by unfold lawC; decide +kernel) (Nat.le_of_ble_eq_true rfl) rfl (by decide +kernel) (Nat.le_of_ble_eq_true rfl) hks (Nat.le_of_ble_eq_true rfl) (fun _ => rfl) h1 (fun r S' hP => ?_)
  refine LW_m hC (show decode code 1396 = _ by decide +kernel) ?_
  refine LW_arg (k := 1) hC hL (show lawA 1397 1 by unfold lawA; decide +kernel) (by decide) (by omega) ?_
  refine LW_arg (k := 2) hC hL (show lawA 1402 2 by unfold lawA; decide +kernel) (by decide) (by omega) ?_
  refine LW_callM (idx := 136) (as := [.int (xs (i + 1)), .int (xs (i + 2))]) hC (show lawC n_M_corner 136 2 12 1407 by unfold lawC; decide +kernel) (Nat.le_of_ble_eq_true rfl) rfl (by decide +kernel) (Nat.le_of_ble_eq_true rfl) hks (Nat.le_of_ble_eq_true rfl) (fun _ => rfl) (h2 r S' hP) (fun T' hR => ?_)
  exact LW_eq (off := 295) hC (by decide +kernel) (kk S' T' hR)
theorem cs_28 {b L : Nat} {xs : Nat → Int32} (hC : LC p s m meth c b L xs D tc u) (hL : L ≤ 3584) {i ks : Nat} {S T : eg_S} (hi : i + 6 < L) (hks : ks ≤ room_1.slots) (R : Rel S T) (kk : ∀ S' T', Rel S' T' → LW Z p l e s m below meth c D tc u b 122 ks i 1706 [] S' T') : LW Z p l e s m below meth c D tc u b 122 ks i 1416 [] S T := by
  obtain ⟨P, h1, h2⟩ := (st_open R).toD
  refine LW_x hC (show decode code 1416 = _ by decide +kernel) ?_
  refine LW_callX (idx := 137) (as := []) hC (show lawC n_X_open 137 0 11 1417 by unfold lawC; decide +kernel) (Nat.le_of_ble_eq_true rfl) rfl (by decide +kernel) (Nat.le_of_ble_eq_true rfl) hks (Nat.le_of_ble_eq_true rfl) (fun _ => rfl) h1 (fun r S' hP => ?_)
  refine LW_m hC (show decode code 1420 = _ by decide +kernel) ?_
  refine LW_callM (idx := 141) (as := []) hC (show lawC n_M_open 141 0 12 1421 by unfold lawC; decide +kernel) (Nat.le_of_ble_eq_true rfl) rfl (by decide +kernel) (Nat.le_of_ble_eq_true rfl) hks (Nat.le_of_ble_eq_true rfl) (fun _ => rfl) (h2 r S' hP) (fun T' hR => ?_)
  exact LW_eq (off := 281) hC (by decide +kernel) (kk S' T' hR)
theorem cs_29 {b L : Nat} {xs : Nat → Int32} (hC : LC p s m meth c b L xs D tc u) (hL : L ≤ 3584) {i ks : Nat} {S T : eg_S} (hi : i + 6 < L) (hks : ks ≤ room_1.slots) (R : Rel S T) (kk : ∀ S' T', Rel S' T' → LW Z p l e s m below meth c D tc u b 122 ks i 1706 [] S' T') : LW Z p l e s m below meth c D tc u b 122 ks i 1430 [] S T := by
  obtain ⟨P, h1, h2⟩ := (st_nearest R (xs (i + 1)) (xs (i + 2))).toD
  refine LW_x hC (show decode code 1430 = _ by decide +kernel) ?_
  refine LW_arg (k := 1) hC hL (show lawA 1431 1 by unfold lawA; decide +kernel) (by decide) (by omega) ?_
  refine LW_arg (k := 2) hC hL (show lawA 1436 2 by unfold lawA; decide +kernel) (by decide) (by omega) ?_
  refine LW_callX (idx := 142) (as := [.int (xs (i + 1)), .int (xs (i + 2))]) hC (show lawC n_X_nearest 142 2 11 1441 by unfold lawC; decide +kernel) (Nat.le_of_ble_eq_true rfl) rfl (by decide +kernel) (Nat.le_of_ble_eq_true rfl) hks (Nat.le_of_ble_eq_true rfl) (fun _ => rfl) h1 (fun r S' hP => ?_)
  refine LW_m hC (show decode code 1444 = _ by decide +kernel) ?_
  refine LW_arg (k := 1) hC hL (show lawA 1445 1 by unfold lawA; decide +kernel) (by decide) (by omega) ?_
  refine LW_arg (k := 2) hC hL (show lawA 1450 2 by unfold lawA; decide +kernel) (by decide) (by omega) ?_
  refine LW_callM (idx := 145) (as := [.int (xs (i + 1)), .int (xs (i + 2))]) hC (show lawC n_M_nearest 145 2 12 1455 by unfold lawC; decide +kernel) (Nat.le_of_ble_eq_true rfl) rfl (by decide +kernel) (Nat.le_of_ble_eq_true rfl) hks (Nat.le_of_ble_eq_true rfl) (fun _ => rfl) (h2 r S' hP) (fun T' hR => ?_)
  exact LW_eq (off := 247) hC (by decide +kernel) (kk S' T' hR)
end LCs
