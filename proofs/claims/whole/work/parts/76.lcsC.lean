/-! THE LAW: its cases, C (by gen76.py) -/
section LCs
variable {Z : State → Prop} {p : Program} {l : Launch} {e : Env} {s : State} {m : MethodId} {below : List Frame} {meth : Method} {c : Code} {D : va_G} {tc : Nat → ClassId} {u : Nat}
theorem cs_12 {b L : Nat} {xs : Nat → Int32} (hC : LC p s m meth c b L xs D tc u) (hL : L ≤ 3584) {i ks : Nat} {S T : eg_S} (hi : i + 6 < L) (hks : ks ≤ room_1.slots) (R : Rel S T) (kk : ∀ S' T', Rel S' T' → LW Z p l e s m below meth c D tc u b 122 ks i 1706 [] S' T') : LW Z p l e s m below meth c D tc u b 122 ks i 722 [] S T := by
  obtain ⟨P, h1, h2⟩ := (st_copy R (xs (i + 1)) (xs (i + 2)) (xs (i + 3)) (xs (i + 4)) (xs (i + 5))).toD
  refine LW_x hC (show decode code 722 = _ by decide +kernel) ?_
  refine LW_arg (k := 1) hC hL (show lawA 723 1 by unfold lawA; decide +kernel) (by decide) (by omega) ?_
  refine LW_arg (k := 2) hC hL (show lawA 728 2 by unfold lawA; decide +kernel) (by decide) (by omega) ?_
  refine LW_arg (k := 3) hC hL (show lawA 733 3 by unfold lawA; decide +kernel) (by decide) (by omega) ?_
  refine LW_arg (k := 4) hC hL (show lawA 738 4 by unfold lawA; decide +kernel) (by decide) (by omega) ?_
  refine LW_arg (k := 5) hC hL (show lawA 743 5 by unfold lawA; decide +kernel) (by decide) (by omega) ?_
  refine LW_callX (idx := 69) (as := [.int (xs (i + 1)), .int (xs (i + 2)), .int (xs (i + 3)), .int (xs (i + 4)), .int (xs (i + 5))]) hC (show lawC n_X_copy 69 5 11 748 by unfold lawC; decide +kernel) (Nat.le_of_ble_eq_true rfl) rfl (by decide +kernel) (Nat.le_of_ble_eq_true rfl) hks (Nat.le_of_ble_eq_true rfl) (fun _ => rfl) h1 (fun r S' hP => ?_)
  refine LW_m hC (show decode code 751 = _ by decide +kernel) ?_
  refine LW_arg (k := 1) hC hL (show lawA 752 1 by unfold lawA; decide +kernel) (by decide) (by omega) ?_
  refine LW_arg (k := 2) hC hL (show lawA 757 2 by unfold lawA; decide +kernel) (by decide) (by omega) ?_
  refine LW_arg (k := 3) hC hL (show lawA 762 3 by unfold lawA; decide +kernel) (by decide) (by omega) ?_
  refine LW_arg (k := 4) hC hL (show lawA 767 4 by unfold lawA; decide +kernel) (by decide) (by omega) ?_
  refine LW_arg (k := 5) hC hL (show lawA 772 5 by unfold lawA; decide +kernel) (by decide) (by omega) ?_
  refine LW_callM (idx := 73) (as := [.int (xs (i + 1)), .int (xs (i + 2)), .int (xs (i + 3)), .int (xs (i + 4)), .int (xs (i + 5))]) hC (show lawC n_M_copy 73 5 12 777 by unfold lawC; decide +kernel) (Nat.le_of_ble_eq_true rfl) rfl (by decide +kernel) (Nat.le_of_ble_eq_true rfl) hks (Nat.le_of_ble_eq_true rfl) (fun _ => rfl) (h2 r S' hP) (fun T' hR => ?_)
  exact LW_eq (off := 925) hC (by decide +kernel) (kk S' T' hR)
theorem cs_13 {b L : Nat} {xs : Nat → Int32} (hC : LC p s m meth c b L xs D tc u) (hL : L ≤ 3584) {i ks : Nat} {S T : eg_S} (hi : i + 6 < L) (hks : ks ≤ room_1.slots) (R : Rel S T) (kk : ∀ S' T', Rel S' T' → LW Z p l e s m below meth c D tc u b 122 ks i 1706 [] S' T') : LW Z p l e s m below meth c D tc u b 122 ks i 786 [] S T := by
  obtain ⟨P, h1, h2⟩ := (st_lay R (xs (i + 1)) (xs (i + 2))).toD
  refine LW_x hC (show decode code 786 = _ by decide +kernel) ?_
  refine LW_arg (k := 1) hC hL (show lawA 787 1 by unfold lawA; decide +kernel) (by decide) (by omega) ?_
  refine LW_arg (k := 2) hC hL (show lawA 792 2 by unfold lawA; decide +kernel) (by decide) (by omega) ?_
  refine LW_callX (idx := 74) (as := [.int (xs (i + 1)), .int (xs (i + 2))]) hC (show lawC n_X_lay 74 2 11 797 by unfold lawC; decide +kernel) (Nat.le_of_ble_eq_true rfl) rfl (by decide +kernel) (Nat.le_of_ble_eq_true rfl) hks (Nat.le_of_ble_eq_true rfl) (fun _ => rfl) h1 (fun r S' hP => ?_)
  refine LW_m hC (show decode code 800 = _ by decide +kernel) ?_
  refine LW_arg (k := 1) hC hL (show lawA 801 1 by unfold lawA; decide +kernel) (by decide) (by omega) ?_
  refine LW_arg (k := 2) hC hL (show lawA 806 2 by unfold lawA; decide +kernel) (by decide) (by omega) ?_
  refine LW_callM (idx := 78) (as := [.int (xs (i + 1)), .int (xs (i + 2))]) hC (show lawC n_M_lay 78 2 12 811 by unfold lawC; decide +kernel) (Nat.le_of_ble_eq_true rfl) rfl (by decide +kernel) (Nat.le_of_ble_eq_true rfl) hks (Nat.le_of_ble_eq_true rfl) (fun _ => rfl) (h2 r S' hP) (fun T' hR => ?_)
  exact LW_eq (off := 891) hC (by decide +kernel) (kk S' T' hR)
theorem cs_14 {b L : Nat} {xs : Nat → Int32} (hC : LC p s m meth c b L xs D tc u) (hL : L ≤ 3584) {i ks : Nat} {S T : eg_S} (hi : i + 6 < L) (hks : ks ≤ room_1.slots) (R : Rel S T) (kk : ∀ S' T', Rel S' T' → LW Z p l e s m below meth c D tc u b 122 ks i 1706 [] S' T') : LW Z p l e s m below meth c D tc u b 122 ks i 820 [] S T := by
  obtain ⟨P, h1, h2⟩ := (st_fit R (xs (i + 1)) (xs (i + 2)) (xs (i + 3))).toD
  refine LW_x hC (show decode code 820 = _ by decide +kernel) ?_
  refine LW_arg (k := 1) hC hL (show lawA 821 1 by unfold lawA; decide +kernel) (by decide) (by omega) ?_
  refine LW_arg (k := 2) hC hL (show lawA 826 2 by unfold lawA; decide +kernel) (by decide) (by omega) ?_
  refine LW_arg (k := 3) hC hL (show lawA 831 3 by unfold lawA; decide +kernel) (by decide) (by omega) ?_
  refine LW_callX (idx := 79) (as := [.int (xs (i + 1)), .int (xs (i + 2)), .int (xs (i + 3))]) hC (show lawC n_X_fit 79 3 11 836 by unfold lawC; decide +kernel) (Nat.le_of_ble_eq_true rfl) rfl (by decide +kernel) (Nat.le_of_ble_eq_true rfl) hks (Nat.le_of_ble_eq_true rfl) (fun _ => rfl) h1 (fun r S' hP => ?_)
  refine LW_m hC (show decode code 839 = _ by decide +kernel) ?_
  refine LW_arg (k := 1) hC hL (show lawA 840 1 by unfold lawA; decide +kernel) (by decide) (by omega) ?_
  refine LW_arg (k := 2) hC hL (show lawA 845 2 by unfold lawA; decide +kernel) (by decide) (by omega) ?_
  refine LW_arg (k := 3) hC hL (show lawA 850 3 by unfold lawA; decide +kernel) (by decide) (by omega) ?_
  refine LW_callM (idx := 82) (as := [.int (xs (i + 1)), .int (xs (i + 2)), .int (xs (i + 3))]) hC (show lawC n_M_fit 82 3 12 855 by unfold lawC; decide +kernel) (Nat.le_of_ble_eq_true rfl) rfl (by decide +kernel) (Nat.le_of_ble_eq_true rfl) hks (Nat.le_of_ble_eq_true rfl) (fun _ => rfl) (h2 r S' hP) (fun T' hR => ?_)
  exact LW_eq (off := 847) hC (by decide +kernel) (kk S' T' hR)
theorem cs_15 {b L : Nat} {xs : Nat → Int32} (hC : LC p s m meth c b L xs D tc u) (hL : L ≤ 3584) {i ks : Nat} {S T : eg_S} (hi : i + 6 < L) (hks : ks ≤ room_1.slots) (R : Rel S T) (kk : ∀ S' T', Rel S' T' → LW Z p l e s m below meth c D tc u b 122 ks i 1706 [] S' T') : LW Z p l e s m below meth c D tc u b 122 ks i 864 [] S T := by
  obtain ⟨P, h1, h2⟩ := (st_drop R (xs (i + 1))).toD
  refine LW_x hC (show decode code 864 = _ by decide +kernel) ?_
  refine LW_arg (k := 1) hC hL (show lawA 865 1 by unfold lawA; decide +kernel) (by decide) (by omega) ?_
  refine LW_callX (idx := 83) (as := [.int (xs (i + 1))]) hC (show lawC n_X_drop 83 1 11 870 by unfold lawC; decide +kernel) (Nat.le_of_ble_eq_true rfl) rfl (by decide +kernel) (Nat.le_of_ble_eq_true rfl) hks (Nat.le_of_ble_eq_true rfl) (fun _ => rfl) h1 (fun r S' hP => ?_)
  refine LW_m hC (show decode code 873 = _ by decide +kernel) ?_
  refine LW_arg (k := 1) hC hL (show lawA 874 1 by unfold lawA; decide +kernel) (by decide) (by omega) ?_
  refine LW_callM (idx := 86) (as := [.int (xs (i + 1))]) hC (show lawC n_M_drop 86 1 12 879 by unfold lawC; decide +kernel) (Nat.le_of_ble_eq_true rfl) rfl (by decide +kernel) (Nat.le_of_ble_eq_true rfl) hks (Nat.le_of_ble_eq_true rfl) (fun _ => rfl) (h2 r S' hP) (fun T' hR => ?_)
  exact LW_eq (off := 823) hC (by decide +kernel) (kk S' T' hR)
theorem cs_16 {b L : Nat} {xs : Nat → Int32} (hC : LC p s m meth c b L xs D tc u) (hL : L ≤ 3584) {i ks : Nat} {S T : eg_S} (hi : i + 6 < L) (hks : ks ≤ room_1.slots) (R : Rel S T) (kk : ∀ S' T', Rel S' T' → LW Z p l e s m below meth c D tc u b 122 ks i 1706 [] S' T') : LW Z p l e s m below meth c D tc u b 122 ks i 888 [] S T := by
  obtain ⟨P, h1, h2⟩ := (st_as R (xs (i + 1)) (xs (i + 2))).toD
  refine LW_x hC (show decode code 888 = _ by decide +kernel) ?_
  refine LW_arg (k := 1) hC hL (show lawA 889 1 by unfold lawA; decide +kernel) (by decide) (by omega) ?_
  refine LW_arg (k := 2) hC hL (show lawA 894 2 by unfold lawA; decide +kernel) (by decide) (by omega) ?_
  refine LW_callX (idx := 87) (as := [.int (xs (i + 1)), .int (xs (i + 2))]) hC (show lawC n_X_as 87 2 11 899 by unfold lawC; decide +kernel) (Nat.le_of_ble_eq_true rfl) rfl (by decide +kernel) (Nat.le_of_ble_eq_true rfl) hks (Nat.le_of_ble_eq_true rfl) (fun _ => rfl) h1 (fun r S' hP => ?_)
  refine LW_m hC (show decode code 902 = _ by decide +kernel) ?_
  refine LW_arg (k := 1) hC hL (show lawA 903 1 by unfold lawA; decide +kernel) (by decide) (by omega) ?_
  refine LW_arg (k := 2) hC hL (show lawA 908 2 by unfold lawA; decide +kernel) (by decide) (by omega) ?_
  refine LW_callM (idx := 90) (as := [.int (xs (i + 1)), .int (xs (i + 2))]) hC (show lawC n_M_as 90 2 12 913 by unfold lawC; decide +kernel) (Nat.le_of_ble_eq_true rfl) rfl (by decide +kernel) (Nat.le_of_ble_eq_true rfl) hks (Nat.le_of_ble_eq_true rfl) (fun _ => rfl) (h2 r S' hP) (fun T' hR => ?_)
  exact LW_eq (off := 789) hC (by decide +kernel) (kk S' T' hR)
theorem cs_17 {b L : Nat} {xs : Nat → Int32} (hC : LC p s m meth c b L xs D tc u) (hL : L ≤ 3584) {i ks : Nat} {S T : eg_S} (hi : i + 6 < L) (hks : ks ≤ room_1.slots) (R : Rel S T) (kk : ∀ S' T', Rel S' T' → LW Z p l e s m below meth c D tc u b 122 ks i 1706 [] S' T') : LW Z p l e s m below meth c D tc u b 122 ks i 922 [] S T := by
  obtain ⟨P, h1, h2⟩ := (st_held R (xs (i + 1)) (xs (i + 2))).toD
  refine LW_x hC (show decode code 922 = _ by decide +kernel) ?_
  refine LW_arg (k := 1) hC hL (show lawA 923 1 by unfold lawA; decide +kernel) (by decide) (by omega) ?_
  refine LW_arg (k := 2) hC hL (show lawA 928 2 by unfold lawA; decide +kernel) (by decide) (by omega) ?_
  refine LW_callX (idx := 91) (as := [.int (xs (i + 1)), .int (xs (i + 2))]) hC (show lawC n_X_held 91 2 11 933 by unfold lawC; decide +kernel) (Nat.le_of_ble_eq_true rfl) rfl (by decide +kernel) (Nat.le_of_ble_eq_true rfl) hks (Nat.le_of_ble_eq_true rfl) (fun _ => rfl) h1 (fun r S' hP => ?_)
  refine LW_m hC (show decode code 936 = _ by decide +kernel) ?_
  refine LW_arg (k := 1) hC hL (show lawA 937 1 by unfold lawA; decide +kernel) (by decide) (by omega) ?_
  refine LW_arg (k := 2) hC hL (show lawA 942 2 by unfold lawA; decide +kernel) (by decide) (by omega) ?_
  refine LW_callM (idx := 94) (as := [.int (xs (i + 1)), .int (xs (i + 2))]) hC (show lawC n_M_held_II 94 2 12 947 by unfold lawC; decide +kernel) (Nat.le_of_ble_eq_true rfl) rfl (by decide +kernel) (Nat.le_of_ble_eq_true rfl) hks (Nat.le_of_ble_eq_true rfl) (fun _ => rfl) (h2 r S' hP) (fun T' hR => ?_)
  exact LW_eq (off := 755) hC (by decide +kernel) (kk S' T' hR)
end LCs
