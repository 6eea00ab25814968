/-! CONSTRUCTORS: both objects, made -/
def evN : Nat → Nat → List eg_E → Option (List eg_E) := fun _ _ _ => none
theorem evN_ok : ∀ n k h h', evN n k h = some h' → ∀ Q : Option Value → List eg_E → Prop, Q none h' → eg_Runs n [.ref (k + 1)] h Q := fun _ _ _ _ z => by cases z
theorem TT0 {d : eg_M} : ∀ q ∈ ([] : List (Nat × List eg_I)), eg_seq d q.1 q.2 = true := fun _ z => by cases z
def sp0 (n k : Nat) (h : List eg_E) : Option (List eg_E) :=
  if n = n_Frac_init then ev (eg_rm m_Frac_init) evN [] 100 c_Frac_init_0 0 0 (eg_entry (eg_ml m_Frac_init) [.ref (k + 1)]) [] h else
  if n = n_Tou_init then ev (eg_rm m_Tou_init) evN [] 100 c_Tou_init_0 0 0 (eg_entry (eg_ml m_Tou_init) [.ref (k + 1)]) [] h else
  if n = n_Part_init then ev (eg_rm m_Part_init) evN [] 100 c_Part_init_0 0 0 (eg_entry (eg_ml m_Part_init) [.ref (k + 1)]) [] h else
  if n = n_Sheet_init then ev (eg_rm m_Sheet_init) evN [] 100 c_Sheet_init_0 0 0 (eg_entry (eg_ml m_Sheet_init) [.ref (k + 1)]) [] h else
  if n = n_Grid_init then ev (eg_rm m_Grid_init) evN [] 100 c_Grid_init_0 0 0 (eg_entry (eg_ml m_Grid_init) [.ref (k + 1)]) [] h else
  if n = n_Boxes_init then ev (eg_rm m_Boxes_init) evN [] 100 c_Boxes_init_0 0 0 (eg_entry (eg_ml m_Boxes_init) [.ref (k + 1)]) [] h else
  if n = n_Frame_init then ev (eg_rm m_Frame_init) evN [] 100 c_Frame_init_0 0 0 (eg_entry (eg_ml m_Frame_init) [.ref (k + 1)]) [] h else
  none
theorem sp0_ok : ∀ n k h h', sp0 n k h = some h' → ∀ Q : Option Value → List eg_E → Prop, Q none h' → eg_Runs n [.ref (k + 1)] h Q := by
  intro n k h h' he
  unfold sp0 at he
  by_cases c_Frac_init : n = n_Frac_init
  · rw [if_pos c_Frac_init] at he
    subst c_Frac_init
    exact ev_Runs rfl (Nat.le_of_ble_eq_true rfl) y_Frac_init_0 evN_ok TT0 (by decide) he
  rw [if_neg c_Frac_init] at he
  by_cases c_Tou_init : n = n_Tou_init
  · rw [if_pos c_Tou_init] at he
    subst c_Tou_init
    exact ev_Runs rfl (Nat.le_of_ble_eq_true rfl) y_Tou_init_0 evN_ok TT0 (by decide) he
  rw [if_neg c_Tou_init] at he
  by_cases c_Part_init : n = n_Part_init
  · rw [if_pos c_Part_init] at he
    subst c_Part_init
    exact ev_Runs rfl (Nat.le_of_ble_eq_true rfl) y_Part_init_0 evN_ok TT0 (by decide) he
  rw [if_neg c_Part_init] at he
  by_cases c_Sheet_init : n = n_Sheet_init
  · rw [if_pos c_Sheet_init] at he
    subst c_Sheet_init
    exact ev_Runs rfl (Nat.le_of_ble_eq_true rfl) y_Sheet_init_0 evN_ok TT0 (by decide) he
  rw [if_neg c_Sheet_init] at he
  by_cases c_Grid_init : n = n_Grid_init
  · rw [if_pos c_Grid_init] at he
    subst c_Grid_init
    exact ev_Runs rfl (Nat.le_of_ble_eq_true rfl) y_Grid_init_0 evN_ok TT0 (by decide) he
  rw [if_neg c_Grid_init] at he
  by_cases c_Boxes_init : n = n_Boxes_init
  · rw [if_pos c_Boxes_init] at he
    subst c_Boxes_init
    exact ev_Runs rfl (Nat.le_of_ble_eq_true rfl) y_Boxes_init_0 evN_ok TT0 (by decide) he
  rw [if_neg c_Boxes_init] at he
  by_cases c_Frame_init : n = n_Frame_init
  · rw [if_pos c_Frame_init] at he
    subst c_Frame_init
    exact ev_Runs rfl (Nat.le_of_ble_eq_true rfl) y_Frame_init_0 evN_ok TT0 (by decide) he
  rw [if_neg c_Frame_init] at he
  exact fun _ _ => by cases he
def sp1 (n k : Nat) (h : List eg_E) : Option (List eg_E) :=
  if n = n_Fig_init then ev (eg_rm m_Fig_init) sp0 [] 100 c_Fig_init_0 0 0 (eg_entry (eg_ml m_Fig_init) [.ref (k + 1)]) [] h else
  if n = n_Flat_init then ev (eg_rm m_Flat_init) sp0 [] 100 c_Flat_init_0 0 0 (eg_entry (eg_ml m_Flat_init) [.ref (k + 1)]) [] h else
  if n = n_Circ_init then ev (eg_rm m_Circ_init) sp0 [] 100 c_Circ_init_0 0 0 (eg_entry (eg_ml m_Circ_init) [.ref (k + 1)]) [] h else
  if n = n_Outl_init then ev (eg_rm m_Outl_init) sp0 [] 100 c_Outl_init_0 0 0 (eg_entry (eg_ml m_Outl_init) [.ref (k + 1)]) [] h else
  sp0 n k h
theorem sp1_ok : ∀ n k h h', sp1 n k h = some h' → ∀ Q : Option Value → List eg_E → Prop, Q none h' → eg_Runs n [.ref (k + 1)] h Q := by
  intro n k h h' he
  unfold sp1 at he
  by_cases c_Fig_init : n = n_Fig_init
  · rw [if_pos c_Fig_init] at he
    subst c_Fig_init
    exact ev_Runs rfl (Nat.le_of_ble_eq_true rfl) y_Fig_init_0 sp0_ok TT0 (by decide) he
  rw [if_neg c_Fig_init] at he
  by_cases c_Flat_init : n = n_Flat_init
  · rw [if_pos c_Flat_init] at he
    subst c_Flat_init
    exact ev_Runs rfl (Nat.le_of_ble_eq_true rfl) y_Flat_init_0 sp0_ok TT0 (by decide) he
  rw [if_neg c_Flat_init] at he
  by_cases c_Circ_init : n = n_Circ_init
  · rw [if_pos c_Circ_init] at he
    subst c_Circ_init
    exact ev_Runs rfl (Nat.le_of_ble_eq_true rfl) y_Circ_init_0 sp0_ok TT0 (by decide) he
  rw [if_neg c_Circ_init] at he
  by_cases c_Outl_init : n = n_Outl_init
  · rw [if_pos c_Outl_init] at he
    subst c_Outl_init
    exact ev_Runs rfl (Nat.le_of_ble_eq_true rfl) y_Outl_init_0 sp0_ok TT0 (by decide) he
  rw [if_neg c_Outl_init] at he
  exact sp0_ok _ _ _ _ he
def S00 : eg_S := (fun f _ _ => if f = 31 then -1 else 0, fun f _ _ => if f = 17 ∨ f = 19 ∨ f = 21 ∨ f = 23 then 1 else 0, fun _ _ _ => 0)
def T00 : eg_S := (fun _ _ _ => 0, fun _ _ _ => 0, fun _ _ _ => 0)
def TX : List (Nat × List eg_I) := (97, c_X_init_97) :: (123, c_X_init_123) :: (149, c_X_init_149) :: T_X_init
theorem TX_ok : ∀ q ∈ TX, eg_seq m_X_init q.1 q.2 = true := by
  intro q hq
  unfold TX at hq
  simp only [List.mem_cons] at hq
  rcases hq with rfl | rfl | rfl | hq
  · exact y_X_init_97
  · exact y_X_init_123
  · exact y_X_init_149
  · exact q_X_init q hq
set_option maxRecDepth 100000 in
theorem ev_X : ev (eg_rm m_X_init) sp1 TX 1000 c_X_init_0 0 0 (eg_entry (eg_ml m_X_init) [.ref (0 + 1)]) [] [.inr (11, eg_df 11)] = some (WX S00 []) := rfl
theorem i_X : ∀ Q : Option Value → List eg_E → Prop, Q none (WX S00 []) → eg_Runs n_X_init [.ref 1] [.inr (11, eg_df 11)] Q := ev_Runs rfl (Nat.le_of_ble_eq_true rfl) y_X_init_0 sp1_ok TX_ok (by decide) ev_X

set_option maxRecDepth 100000 in
theorem ev_M : ev (eg_rm m_M_init) evN [] 1000 c_M_init_0 0 0 (eg_entry (eg_ml m_M_init) [.ref (95 + 1)]) [] (WX S00 [.inr (12, eg_df 12)]) = some (WX S00 (WM T00)) := rfl
theorem i_M : ∀ Q : Option Value → List eg_E → Prop, Q none (WX S00 (WM T00)) → eg_Runs n_M_init [.ref 96] (WX S00 [.inr (12, eg_df 12)]) Q := ev_Runs rfl (Nat.le_of_ble_eq_true rfl) y_M_init_0 evN_ok TT0 (by decide) ev_M
theorem WX_app (S : eg_S) (t : List eg_E) : WX S [] ++ t = WX S t := rfl
theorem WX_len (S : eg_S) : (WX S []).length = 95 := rfl
theorem Rel00 : Rel S00 T00 := by
  refine ⟨fun q hq => ⟨0, by decide, rfl, rfl, fun i hi => absurd hi (Nat.not_lt_zero _)⟩, ?_, fun s hs => ⟨0, 0, by decide, by decide, rfl, rfl, rfl, rfl, fun _ i hi => absurd hi (Nat.not_lt_zero _), fun z => absurd z (by decide)⟩, fun f hf => Or.inl ⟨rfl, rfl⟩, Or.inl ⟨rfl, rfl⟩, ⟨0, by decide, rfl, rfl, fun i hi => absurd hi (Nat.not_lt_zero _)⟩, ?_, ?_⟩
  · exact fun c hc => ⟨rfl, rfl⟩
  · exact ⟨0, by decide, rfl, rfl, fun b hb => absurd hb (Nat.not_lt_zero _)⟩
  · exact rfl
