/-! THE LAW: its cases, D (by gen76.py) -/
section LCs
variable {Z : State → Prop} {p : Program} {l : Launch} {e : Env} {s : State} {m : MethodId} {below : List Frame} {meth : Method} {c : Code} {D : va_G} {tc : Nat → ClassId} {u : Nat}
theorem cs_18 {b L : Nat} {xs : Nat → Int32} (hC : LC p s m meth c b L xs D tc u) (hL : L ≤ 3584) {i ks : Nat} {S T : eg_S} (hi : i + 6 < L) (hks : ks ≤ room_1.slots) (R : Rel S T) (kk : ∀ S' T', Rel S' T' → LW Z p l e s m below meth c D tc u b 122 ks i 1706 [] S' T') : LW Z p l e s m below meth c D tc u b 122 ks i 956 [] S T := by
  obtain ⟨P, h1, h2⟩ := (st_missOf R (xs (i + 1)) (if xs (i + 2) = 0 then 0 else 1) (z01 _)).toD
  refine LW_x hC (show decode code 956 = _ by decide +kernel) ?_
  refine LW_arg (k := 1) hC hL (show lawA 957 1 by unfold lawA; decide +kernel) (by decide) (by omega) ?_
  refine LW_argZ (k := 2) hC hL (show lawZ 962 2 by unfold lawZ lawA; decide +kernel) (by decide) (by omega) ?_
  refine LW_callX (idx := 95) (as := [.int (xs (i + 1)), .int (if xs (i + 2) = 0 then 0 else 1)]) hC (show lawC n_X_missOf 95 2 11 975 by unfold lawC; decide +kernel) (Nat.le_of_ble_eq_true rfl) rfl (by decide +kernel) (Nat.le_of_ble_eq_true rfl) hks (Nat.le_of_ble_eq_true rfl) (fun _ => rfl) h1 (fun r S' hP => ?_)
  refine LW_m hC (show decode code 978 = _ by decide +kernel) ?_
  refine LW_arg (k := 1) hC hL (show lawA 979 1 by unfold lawA; decide +kernel) (by decide) (by omega) ?_
  refine LW_argZ (k := 2) hC hL (show lawZ 984 2 by unfold lawZ lawA; decide +kernel) (by decide) (by omega) ?_
  refine LW_callM (idx := 98) (as := [.int (xs (i + 1)), .int (if xs (i + 2) = 0 then 0 else 1)]) hC (show lawC n_M_missOf 98 2 12 997 by unfold lawC; decide +kernel) (Nat.le_of_ble_eq_true rfl) rfl (by decide +kernel) (Nat.le_of_ble_eq_true rfl) hks (Nat.le_of_ble_eq_true rfl) (fun _ => rfl) (h2 r S' hP) (fun T' hR => ?_)
  exact LW_eq (off := 705) hC (by decide +kernel) (kk S' T' hR)
theorem cs_19 {b L : Nat} {xs : Nat → Int32} (hC : LC p s m meth c b L xs D tc u) (hL : L ≤ 3584) {i ks : Nat} {S T : eg_S} (hi : i + 6 < L) (hks : ks ≤ room_1.slots) (R : Rel S T) (kk : ∀ S' T', Rel S' T' → LW Z p l e s m below meth c D tc u b 122 ks i 1706 [] S' T') : LW Z p l e s m below meth c D tc u b 122 ks i 1006 [] S T := by
  obtain ⟨P, h1, h2⟩ := (st_way R (xs (i + 1)) (xs (i + 2))).toD
  refine LW_x hC (show decode code 1006 = _ by decide +kernel) ?_
  refine LW_arg (k := 1) hC hL (show lawA 1007 1 by unfold lawA; decide +kernel) (by decide) (by omega) ?_
  refine LW_arg (k := 2) hC hL (show lawA 1012 2 by unfold lawA; decide +kernel) (by decide) (by omega) ?_
  refine LW_callX (idx := 99) (as := [.int (xs (i + 1)), .int (xs (i + 2))]) hC (show lawC n_X_way 99 2 11 1017 by unfold lawC; decide +kernel) (Nat.le_of_ble_eq_true rfl) rfl (by decide +kernel) (Nat.le_of_ble_eq_true rfl) hks (Nat.le_of_ble_eq_true rfl) (fun _ => rfl) h1 (fun r S' hP => ?_)
  refine LW_m hC (show decode code 1020 = _ by decide +kernel) ?_
  refine LW_arg (k := 1) hC hL (show lawA 1021 1 by unfold lawA; decide +kernel) (by decide) (by omega) ?_
  refine LW_arg (k := 2) hC hL (show lawA 1026 2 by unfold lawA; decide +kernel) (by decide) (by omega) ?_
  refine LW_callM (idx := 102) (as := [.int (xs (i + 1)), .int (xs (i + 2))]) hC (show lawC n_M_way 102 2 12 1031 by unfold lawC; decide +kernel) (Nat.le_of_ble_eq_true rfl) rfl (by decide +kernel) (Nat.le_of_ble_eq_true rfl) hks (Nat.le_of_ble_eq_true rfl) (fun _ => rfl) (h2 r S' hP) (fun T' hR => ?_)
  exact LW_eq (off := 671) hC (by decide +kernel) (kk S' T' hR)
theorem cs_20 {b L : Nat} {xs : Nat → Int32} (hC : LC p s m meth c b L xs D tc u) (hL : L ≤ 3584) {i ks : Nat} {S T : eg_S} (hi : i + 6 < L) (hks : ks ≤ room_1.slots) (R : Rel S T) (kk : ∀ S' T', Rel S' T' → LW Z p l e s m below meth c D tc u b 122 ks i 1706 [] S' T') : LW Z p l e s m below meth c D tc u b 122 ks i 1040 [] S T := by
  obtain ⟨P, h1, h2⟩ := (st_middle R (xs (i + 1)) (if xs (i + 2) = 0 then 0 else 1) (if xs (i + 3) = 0 then 0 else 1) (z01 _) (z01 _)).toD
  refine LW_x hC (show decode code 1040 = _ by decide +kernel) ?_
  refine LW_arg (k := 1) hC hL (show lawA 1041 1 by unfold lawA; decide +kernel) (by decide) (by omega) ?_
  refine LW_argZ (k := 2) hC hL (show lawZ 1046 2 by unfold lawZ lawA; decide +kernel) (by decide) (by omega) ?_
  refine LW_argZ (k := 3) hC hL (show lawZ 1059 3 by unfold lawZ lawA; decide +kernel) (by decide) (by omega) ?_
  refine LW_callX (idx := 103) (as := [.int (xs (i + 1)), .int (if xs (i + 2) = 0 then 0 else 1), .int (if xs (i + 3) = 0 then 0 else 1)]) hC (show lawC n_X_middle 103 3 11 1072 by unfold lawC; decide +kernel) (Nat.le_of_ble_eq_true rfl) rfl (by decide +kernel) (Nat.le_of_ble_eq_true rfl) hks (Nat.le_of_ble_eq_true rfl) (fun _ => rfl) h1 (fun r S' hP => ?_)
  refine LW_m hC (show decode code 1075 = _ by decide +kernel) ?_
  refine LW_arg (k := 1) hC hL (show lawA 1076 1 by unfold lawA; decide +kernel) (by decide) (by omega) ?_
  refine LW_argZ (k := 2) hC hL (show lawZ 1081 2 by unfold lawZ lawA; decide +kernel) (by decide) (by omega) ?_
  refine LW_argZ (k := 3) hC hL (show lawZ 1094 3 by unfold lawZ lawA; decide +kernel) (by decide) (by omega) ?_
  refine LW_callM (idx := 107) (as := [.int (xs (i + 1)), .int (if xs (i + 2) = 0 then 0 else 1), .int (if xs (i + 3) = 0 then 0 else 1)]) hC (show lawC n_M_middle 107 3 12 1107 by unfold lawC; decide +kernel) (Nat.le_of_ble_eq_true rfl) rfl (by decide +kernel) (Nat.le_of_ble_eq_true rfl) hks (Nat.le_of_ble_eq_true rfl) (fun _ => rfl) (h2 r S' hP) (fun T' hR => ?_)
  exact LW_eq (off := 595) hC (by decide +kernel) (kk S' T' hR)
theorem cs_21 {b L : Nat} {xs : Nat → Int32} (hC : LC p s m meth c b L xs D tc u) (hL : L ≤ 3584) {i ks : Nat} {S T : eg_S} (hi : i + 6 < L) (hks : ks ≤ room_1.slots) (R : Rel S T) (kk : ∀ S' T', Rel S' T' → LW Z p l e s m below meth c D tc u b 122 ks i 1706 [] S' T') : LW Z p l e s m below meth c D tc u b 122 ks i 1116 [] S T := by
  obtain ⟨P, h1, h2⟩ := (st_ask R (xs (i + 1)) (xs (i + 2))).toD
  refine LW_x hC (show decode code 1116 = _ by decide +kernel) ?_
  refine LW_arg (k := 1) hC hL (show lawA 1117 1 by unfold lawA; decide +kernel) (by decide) (by omega) ?_
  refine LW_arg (k := 2) hC hL (show lawA 1122 2 by unfold lawA; decide +kernel) (by decide) (by omega) ?_
  refine LW_callX (idx := 108) (as := [.int (xs (i + 1)), .int (xs (i + 2))]) hC (show lawC n_X_ask 108 2 11 1127 by unfold lawC; decide +kernel) (Nat.le_of_ble_eq_true rfl) rfl (by decide +kernel) (Nat.le_of_ble_eq_true rfl) hks (Nat.le_of_ble_eq_true rfl) (fun _ => rfl) h1 (fun r S' hP => ?_)
  refine LW_m hC (show decode code 1130 = _ by decide +kernel) ?_
  refine LW_arg (k := 1) hC hL (show lawA 1131 1 by unfold lawA; decide +kernel) (by decide) (by omega) ?_
  refine LW_arg (k := 2) hC hL (show lawA 1136 2 by unfold lawA; decide +kernel) (by decide) (by omega) ?_
  refine LW_callM (idx := 111) (as := [.int (xs (i + 1)), .int (xs (i + 2))]) hC (show lawC n_M_ask 111 2 12 1141 by unfold lawC; decide +kernel) (Nat.le_of_ble_eq_true rfl) rfl (by decide +kernel) (Nat.le_of_ble_eq_true rfl) hks (Nat.le_of_ble_eq_true rfl) (fun _ => rfl) (h2 r S' hP) (fun T' hR => ?_)
  exact LW_eq (off := 561) hC (by decide +kernel) (kk S' T' hR)
theorem cs_22 {b L : Nat} {xs : Nat → Int32} (hC : LC p s m meth c b L xs D tc u) (hL : L ≤ 3584) {i ks : Nat} {S T : eg_S} (hi : i + 6 < L) (hks : ks ≤ room_1.slots) (R : Rel S T) (kk : ∀ S' T', Rel S' T' → LW Z p l e s m below meth c D tc u b 122 ks i 1706 [] S' T') : LW Z p l e s m below meth c D tc u b 122 ks i 1150 [] S T := by
  obtain ⟨P, h1, h2⟩ := (st_level R (xs (i + 1))).toD
  refine LW_x hC (show decode code 1150 = _ by decide +kernel) ?_
  refine LW_arg (k := 1) hC hL (show lawA 1151 1 by unfold lawA; decide +kernel) (by decide) (by omega) ?_
  refine LW_callX (idx := 112) (as := [.int (xs (i + 1))]) hC (show lawC n_X_level 112 1 11 1156 by unfold lawC; decide +kernel) (Nat.le_of_ble_eq_true rfl) rfl (by decide +kernel) (Nat.le_of_ble_eq_true rfl) hks (Nat.le_of_ble_eq_true rfl) (fun _ => rfl) h1 (fun r S' hP => ?_)
  refine LW_m hC (show decode code 1159 = _ by decide +kernel) ?_
  refine LW_arg (k := 1) hC hL (show lawA 1160 1 by unfold lawA; decide +kernel) (by decide) (by omega) ?_
  refine LW_callM (idx := 115) (as := [.int (xs (i + 1))]) hC (show lawC n_M_level 115 1 12 1165 by unfold lawC; decide +kernel) (Nat.le_of_ble_eq_true rfl) rfl (by decide +kernel) (Nat.le_of_ble_eq_true rfl) hks (Nat.le_of_ble_eq_true rfl) (fun _ => rfl) (h2 r S' hP) (fun T' hR => ?_)
  exact LW_eq (off := 537) hC (by decide +kernel) (kk S' T' hR)
theorem cs_23 {b L : Nat} {xs : Nat → Int32} (hC : LC p s m meth c b L xs D tc u) (hL : L ≤ 3584) {i ks : Nat} {S T : eg_S} (hi : i + 6 < L) (hks : ks ≤ room_1.slots) (R : Rel S T) (kk : ∀ S' T', Rel S' T' → LW Z p l e s m below meth c D tc u b 122 ks i 1706 [] S' T') : LW Z p l e s m below meth c D tc u b 122 ks i 1174 [] S T := by
  obtain ⟨P, h1, h2⟩ := (st_more R (xs (i + 1)) (xs (i + 2)) (xs (i + 3)) (xs (i + 4))).toD
  refine LW_x hC (show decode code 1174 = _ by decide +kernel) ?_
  refine LW_arg (k := 1) hC hL (show lawA 1175 1 by unfold lawA; decide +kernel) (by decide) (by omega) ?_
  refine LW_arg (k := 2) hC hL (show lawA 1180 2 by unfold lawA; decide +kernel) (by decide) (by omega) ?_
  refine LW_arg (k := 3) hC hL (show lawA 1185 3 by unfold lawA; decide +kernel) (by decide) (by omega) ?_
  refine LW_arg (k := 4) hC hL (show lawA 1190 4 by unfold lawA; decide +kernel) (by decide) (by omega) ?_
  refine LW_callX (idx := 116) (as := [.int (xs (i + 1)), .int (xs (i + 2)), .int (xs (i + 3)), .int (xs (i + 4))]) hC (show lawC n_X_more 116 4 11 1195 by unfold lawC; decide +kernel) (Nat.le_of_ble_eq_true rfl) rfl (by decide +kernel) (Nat.le_of_ble_eq_true rfl) hks (Nat.le_of_ble_eq_true rfl) (fun _ => rfl) h1 (fun r S' hP => ?_)
  refine LW_m hC (show decode code 1198 = _ by decide +kernel) ?_
  refine LW_arg (k := 1) hC hL (show lawA 1199 1 by unfold lawA; decide +kernel) (by decide) (by omega) ?_
  refine LW_arg (k := 2) hC hL (show lawA 1204 2 by unfold lawA; decide +kernel) (by decide) (by omega) ?_
  refine LW_arg (k := 3) hC hL (show lawA 1209 3 by unfold lawA; decide +kernel) (by decide) (by omega) ?_
  refine LW_arg (k := 4) hC hL (show lawA 1214 4 by unfold lawA; decide +kernel) (by decide) (by omega) ?_
  refine LW_callM (idx := 119) (as := [.int (xs (i + 1)), .int (xs (i + 2)), .int (xs (i + 3)), .int (xs (i + 4))]) hC (show lawC n_M_more 119 4 12 1219 by unfold lawC; decide +kernel) (Nat.le_of_ble_eq_true rfl) rfl (by decide +kernel) (Nat.le_of_ble_eq_true rfl) hks (Nat.le_of_ble_eq_true rfl) (fun _ => rfl) (h2 r S' hP) (fun T' hR => ?_)
  exact LW_eq (off := 483) hC (by decide +kernel) (kk S' T' hR)
end LCs
