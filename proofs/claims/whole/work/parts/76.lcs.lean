/-! THE LAW: its cases -/
section LCs
variable {Z : State → Prop} {p : Program} {l : Launch} {e : Env} {s : State} {m : MethodId} {below : List Frame} {meth : Method} {c : Code} {D : va_G} {tc : Nat → ClassId} {u : Nat}
theorem cs_1 {b L : Nat} {xs : Nat → Int32} (hC : LC p s m meth c b L xs D tc u) (hL : L ≤ 3584) {i ks : Nat} {S T : eg_S} (hi : i + 6 < L) (hks : ks ≤ room_1.slots) (R : Rel S T) (kk : ∀ S' T', Rel S' T' → LW Z p l e s m below meth c D tc u b 122 ks i 1706 [] S' T') : LW Z p l e s m below meth c D tc u b 122 ks i 246 [] S T := by
  obtain ⟨P, h1, h2⟩ := (st_miss R (xs (i + 1))).to.toD
  refine LW_x hC (by decide +kernel) ?_
  refine LW_arg (k := 1) hC hL (by unfold lawA; decide +kernel) (by decide) (by omega) ?_
  refine LW_callX (idx := 18) (as := [.int (xs (i + 1))]) hC (show lawC n_X_miss 18 1 11 252 by unfold lawC; decide +kernel) (Nat.le_of_ble_eq_true rfl) rfl (by decide +kernel) (Nat.le_of_ble_eq_true rfl) hks (Nat.le_of_ble_eq_true rfl) (fun _ => rfl) h1 (fun r S' hP => ?_)
  refine LW_m hC (by decide +kernel) ?_
  refine LW_arg (k := 1) hC hL (by unfold lawA; decide +kernel) (by decide) (by omega) ?_
  refine LW_callM (idx := 22) (as := [.int (xs (i + 1))]) hC (show lawC n_M_miss 22 1 12 261 by unfold lawC; decide +kernel) (Nat.le_of_ble_eq_true rfl) rfl (by decide +kernel) (Nat.le_of_ble_eq_true rfl) hks (Nat.le_of_ble_eq_true rfl) (fun _ => rfl) (h2 r S' hP) (fun T' hR => ?_)
  exact LW_eq (off := 1441) hC (by decide +kernel) (kk S' T' hR)
end LCs
