/-! WHAT THE INSTRUCTIONS ASK OF A HEAP, by name -/
def eg_gf (h : List eg_E) (n ci k : Nat) (F : Value → Prop) : Prop := match h[n]? with
  | some (.inr (c, fs)) => (match fs[k]? with | some v => c = ci ∧ F v | none => False)
  | _ => False
def eg_pf (h : List eg_E) (n ci k : Nat) (v : Value) (F : List eg_E → Prop) : Prop := match h[n]? with
  | some (.inr (c, fs)) => c = ci ∧ k < fs.length ∧ eg_fit (eg_fty ci k) v = true ∧ F (h.set n (.inr (c, fs.set k v)))
  | _ => False
def eg_pb (h : List eg_E) (n ci k : Nat) (v : Int32) (F : List eg_E → Prop) : Prop := match h[n]? with
  | some (.inr (c, fs)) => c = ci ∧ k < fs.length ∧ (v = 0 ∨ v = 1) ∧ F (h.set n (.inr (c, fs.set k (.int v))))
  | _ => False
def eg_al (h : List eg_E) (n : Nat) (F : Int32 → Prop) : Prop := match h[n]? with
  | some (.inl (t, k, _)) => t < 7 ∧ F (Int32.ofNat k)
  | _ => False
def eg_ia (h : List eg_E) (n : Nat) (i : Int32) (F : Int32 → Prop) : Prop := match h[n]? with
  | some (.inl (0, k, .inl f)) => vp_in i k ∧ F (f i.toNatClampNeg)
  | _ => False
def eg_ba (h : List eg_E) (n : Nat) (i : Int32) (F : Int32 → Prop) : Prop := match h[n]? with
  | some (.inl (2, k, .inl f)) => vp_in i k ∧ F (f i.toNatClampNeg)
  | _ => False
def eg_la (h : List eg_E) (n : Nat) (i : Int32) (F : Int64 → Prop) : Prop := match h[n]? with
  | some (.inl (1, k, .inr (.inl f))) => vp_in i k ∧ F (f i.toNatClampNeg)
  | _ => False
def eg_da (h : List eg_E) (n : Nat) (i : Int32) (F : UInt64 → Prop) : Prop := match h[n]? with
  | some (.inl (3, k, .inr (.inr (.inr (.inl f))))) => vp_in i k ∧ F (f i.toNatClampNeg)
  | _ => False
def eg_aa (h : List eg_E) (n : Nat) (i : Int32) (F : Value → Prop) : Prop := match h[n]? with
  | some (.inl (t, k, .inr (.inr (.inr (.inr f))))) => 4 ≤ t ∧ t < 7 ∧ vp_in i k ∧ F (va_rf (f i.toNatClampNeg))
  | _ => False
def eg_is (h : List eg_E) (n : Nat) (i x : Int32) (F : List eg_E → Prop) : Prop := match h[n]? with
  | some (.inl (0, k, .inl f)) => vp_in i k ∧ F (h.set n (.inl (0, k, .inl (upd f i.toNatClampNeg x))))
  | _ => False
def eg_bs (h : List eg_E) (n : Nat) (i x : Int32) (F : List eg_E → Prop) : Prop := match h[n]? with
  | some (.inl (2, k, .inl f)) => vp_in i k ∧ F (h.set n (.inl (2, k, .inl (upd f i.toNatClampNeg (vp_nar .boolean x)))))
  | _ => False
def eg_lst (h : List eg_E) (n : Nat) (i : Int32) (x : Int64) (F : List eg_E → Prop) : Prop := match h[n]? with
  | some (.inl (1, k, .inr (.inl f))) => vp_in i k ∧ F (h.set n (.inl (1, k, .inr (.inl (vp_updL f i.toNatClampNeg x)))))
  | _ => False
def eg_ds (h : List eg_E) (n : Nat) (i : Int32) (x : UInt64) (F : List eg_E → Prop) : Prop := match h[n]? with
  | some (.inl (3, k, .inr (.inr (.inr (.inl f))))) => vp_in i k ∧ F (h.set n (.inl (3, k, .inr (.inr (.inr (.inl (vf_upd f i.toNatClampNeg x)))))))
  | _ => False
def eg_as (h : List eg_E) (n v : Nat) (i : Int32) (F : List eg_E → Prop) : Prop := match h[n]?, h[v]? with
  | some (.inl (t, k, .inr (.inr (.inr (.inr f))))), some (.inr (ci, _)) => 4 ≤ t ∧ t < 7 ∧ ci = eg_tci t ∧ vp_in i k ∧ F (h.set n (.inl (t, k, .inr (.inr (.inr (.inr (va_up f i.toNatClampNeg (some (v + 1)))))))))
  | _, _ => False
def eg_cpi (h : List eg_E) (x y : Nat) (sp dp k : Int32) (F : List eg_E → Prop) : Prop := match h[x]?, h[y]? with
  | some (.inl (0, n0, .inl f)), some (.inl (0, n1, .inl g)) => ¬ sp < 0 ∧ ¬ dp < 0 ∧ ¬ k < 0 ∧ sp.toNatClampNeg + k.toNatClampNeg ≤ n0 ∧ dp.toNatClampNeg + k.toNatClampNeg ≤ n1 ∧ F (h.set y (.inl (0, n1, .inl (va_cpy f g sp.toNatClampNeg dp.toNatClampNeg k.toNatClampNeg))))
  | _, _ => False
def eg_cpl (h : List eg_E) (x y : Nat) (sp dp k : Int32) (F : List eg_E → Prop) : Prop := match h[x]?, h[y]? with
  | some (.inl (1, n0, .inr (.inl f))), some (.inl (1, n1, .inr (.inl g))) => ¬ sp < 0 ∧ ¬ dp < 0 ∧ ¬ k < 0 ∧ sp.toNatClampNeg + k.toNatClampNeg ≤ n0 ∧ dp.toNatClampNeg + k.toNatClampNeg ≤ n1 ∧ F (h.set y (.inl (1, n1, .inr (.inl (va_cpy f g sp.toNatClampNeg dp.toNatClampNeg k.toNatClampNeg)))))
  | _, _ => False
def eg_cls (h : List eg_E) (k c : Nat) : Prop := match h[k]? with
  | some (.inr (ci, _)) => ci = c
  | _ => False
/-- a call -/
def eg_Cs (n : Nat) (as : List Value) (h : List eg_E) (F : Option Value → List eg_E → Prop) : Prop := ∃ P, eg_Runs n as h P ∧ ∀ r h', P r h' → F r h'
theorem eg_Cs_of {n : Nat} {as : List Value} {h : List eg_E} {F : Option Value → List eg_E → Prop} (hr : eg_Runs n as h F) : eg_Cs n as h F := ⟨F, hr, fun _ _ h => h⟩
theorem eg_Runs_mono {n : Nat} {as : List Value} {h : List eg_E} {P F : Option Value → List eg_E → Prop} (hr : eg_Runs n as h P) (hF : ∀ r h', P r h' → F r h') : eg_Runs n as h F := by
  intro l D tc u base p e ha hc hk s m args below hf happ hP hK
  obtain ⟨n1, o, h1, h2, h3, ⟨⟨⟨r, h', g1, g2, g3⟩, g4⟩, h5⟩⟩ := hr l D tc u base p e ha hc hk s m args below hf happ hP hK
  exact ⟨n1, o, h1, h2, h3, ⟨⟨⟨r, h', g1, hF r h' g2, g3⟩, g4⟩, h5⟩⟩
section EgC
variable {rm : Room} {K : Nat → Nat → Nat → eg_Lo → List Value → List eg_E → Prop} {Q : Option Value → List eg_E → Prop} {r : List eg_I} {pc idx n c mc ms kc ks k : Nat} {loc : eg_Lo} {st : List Value} {h : List eg_E} {a1 a2 a3 a4 a5 a6 : Value}
theorem eg_c0_0 : wps rm K Q (.inr (pc, 0, idx, n, 0, c, mc, ms) :: r) kc ks loc (st) h = (st.length ≤ 4 ∧ eg_Cs n [] h (fun v h' => wps rm K Q r kc ks loc (v.toList ++ st) h')) := propext ⟨fun q => ⟨q.2.1, q.2.2⟩, fun q => ⟨Nat.le_add_left _ _, q.1, q.2⟩⟩
theorem eg_c1_0 : wps rm K Q (.inr (pc, 1, idx, n, 0, c, mc, ms) :: r) kc ks loc (.ref (k + 1) :: st) h = (eg_cls h k c ∧ st.length ≤ 4 ∧ eg_Cs n (.ref (k + 1) :: []) h (fun v h' => wps rm K Q r kc ks loc (v.toList ++ st) h')) := by
  refine propext ⟨fun q => ?_, fun q => ⟨by simp, ?_⟩⟩
  · have q2 := q.2
    simp only [List.drop_succ_cons, List.drop_zero] at q2
    unfold eg_cls
    split at q2
    · rename_i hh
      rw [hh]
      exact q2
    · exact q2.elim
  · simp only [List.drop_succ_cons, List.drop_zero]
    unfold eg_cls at q
    split at q
    · rename_i hh
      rw [hh]
      exact q
    · exact q.1.elim
theorem eg_c0_1 : wps rm K Q (.inr (pc, 0, idx, n, 1, c, mc, ms) :: r) kc ks loc (a1 :: st) h = (st.length ≤ 4 ∧ eg_Cs n [a1] h (fun v h' => wps rm K Q r kc ks loc (v.toList ++ st) h')) := propext ⟨fun q => ⟨q.2.1, q.2.2⟩, fun q => ⟨Nat.le_add_left _ _, q.1, q.2⟩⟩
theorem eg_c1_1 : wps rm K Q (.inr (pc, 1, idx, n, 1, c, mc, ms) :: r) kc ks loc (a1 :: .ref (k + 1) :: st) h = (eg_cls h k c ∧ st.length ≤ 4 ∧ eg_Cs n (.ref (k + 1) :: [a1]) h (fun v h' => wps rm K Q r kc ks loc (v.toList ++ st) h')) := by
  refine propext ⟨fun q => ?_, fun q => ⟨by simp, ?_⟩⟩
  · have q2 := q.2
    simp only [List.drop_succ_cons, List.drop_zero] at q2
    unfold eg_cls
    split at q2
    · rename_i hh
      rw [hh]
      exact q2
    · exact q2.elim
  · simp only [List.drop_succ_cons, List.drop_zero]
    unfold eg_cls at q
    split at q
    · rename_i hh
      rw [hh]
      exact q
    · exact q.1.elim
theorem eg_c0_2 : wps rm K Q (.inr (pc, 0, idx, n, 2, c, mc, ms) :: r) kc ks loc (a2 :: a1 :: st) h = (st.length ≤ 4 ∧ eg_Cs n [a1, a2] h (fun v h' => wps rm K Q r kc ks loc (v.toList ++ st) h')) := propext ⟨fun q => ⟨q.2.1, q.2.2⟩, fun q => ⟨Nat.le_add_left _ _, q.1, q.2⟩⟩
theorem eg_c1_2 : wps rm K Q (.inr (pc, 1, idx, n, 2, c, mc, ms) :: r) kc ks loc (a2 :: a1 :: .ref (k + 1) :: st) h = (eg_cls h k c ∧ st.length ≤ 4 ∧ eg_Cs n (.ref (k + 1) :: [a1, a2]) h (fun v h' => wps rm K Q r kc ks loc (v.toList ++ st) h')) := by
  refine propext ⟨fun q => ?_, fun q => ⟨by simp, ?_⟩⟩
  · have q2 := q.2
    simp only [List.drop_succ_cons, List.drop_zero] at q2
    unfold eg_cls
    split at q2
    · rename_i hh
      rw [hh]
      exact q2
    · exact q2.elim
  · simp only [List.drop_succ_cons, List.drop_zero]
    unfold eg_cls at q
    split at q
    · rename_i hh
      rw [hh]
      exact q
    · exact q.1.elim
theorem eg_c0_3 : wps rm K Q (.inr (pc, 0, idx, n, 3, c, mc, ms) :: r) kc ks loc (a3 :: a2 :: a1 :: st) h = (st.length ≤ 4 ∧ eg_Cs n [a1, a2, a3] h (fun v h' => wps rm K Q r kc ks loc (v.toList ++ st) h')) := propext ⟨fun q => ⟨q.2.1, q.2.2⟩, fun q => ⟨Nat.le_add_left _ _, q.1, q.2⟩⟩
theorem eg_c1_3 : wps rm K Q (.inr (pc, 1, idx, n, 3, c, mc, ms) :: r) kc ks loc (a3 :: a2 :: a1 :: .ref (k + 1) :: st) h = (eg_cls h k c ∧ st.length ≤ 4 ∧ eg_Cs n (.ref (k + 1) :: [a1, a2, a3]) h (fun v h' => wps rm K Q r kc ks loc (v.toList ++ st) h')) := by
  refine propext ⟨fun q => ?_, fun q => ⟨by simp, ?_⟩⟩
  · have q2 := q.2
    simp only [List.drop_succ_cons, List.drop_zero] at q2
    unfold eg_cls
    split at q2
    · rename_i hh
      rw [hh]
      exact q2
    · exact q2.elim
  · simp only [List.drop_succ_cons, List.drop_zero]
    unfold eg_cls at q
    split at q
    · rename_i hh
      rw [hh]
      exact q
    · exact q.1.elim
theorem eg_c0_4 : wps rm K Q (.inr (pc, 0, idx, n, 4, c, mc, ms) :: r) kc ks loc (a4 :: a3 :: a2 :: a1 :: st) h = (st.length ≤ 4 ∧ eg_Cs n [a1, a2, a3, a4] h (fun v h' => wps rm K Q r kc ks loc (v.toList ++ st) h')) := propext ⟨fun q => ⟨q.2.1, q.2.2⟩, fun q => ⟨Nat.le_add_left _ _, q.1, q.2⟩⟩
theorem eg_c1_4 : wps rm K Q (.inr (pc, 1, idx, n, 4, c, mc, ms) :: r) kc ks loc (a4 :: a3 :: a2 :: a1 :: .ref (k + 1) :: st) h = (eg_cls h k c ∧ st.length ≤ 4 ∧ eg_Cs n (.ref (k + 1) :: [a1, a2, a3, a4]) h (fun v h' => wps rm K Q r kc ks loc (v.toList ++ st) h')) := by
  refine propext ⟨fun q => ?_, fun q => ⟨by simp, ?_⟩⟩
  · have q2 := q.2
    simp only [List.drop_succ_cons, List.drop_zero] at q2
    unfold eg_cls
    split at q2
    · rename_i hh
      rw [hh]
      exact q2
    · exact q2.elim
  · simp only [List.drop_succ_cons, List.drop_zero]
    unfold eg_cls at q
    split at q
    · rename_i hh
      rw [hh]
      exact q
    · exact q.1.elim
theorem eg_c0_5 : wps rm K Q (.inr (pc, 0, idx, n, 5, c, mc, ms) :: r) kc ks loc (a5 :: a4 :: a3 :: a2 :: a1 :: st) h = (st.length ≤ 4 ∧ eg_Cs n [a1, a2, a3, a4, a5] h (fun v h' => wps rm K Q r kc ks loc (v.toList ++ st) h')) := propext ⟨fun q => ⟨q.2.1, q.2.2⟩, fun q => ⟨Nat.le_add_left _ _, q.1, q.2⟩⟩
theorem eg_c1_5 : wps rm K Q (.inr (pc, 1, idx, n, 5, c, mc, ms) :: r) kc ks loc (a5 :: a4 :: a3 :: a2 :: a1 :: .ref (k + 1) :: st) h = (eg_cls h k c ∧ st.length ≤ 4 ∧ eg_Cs n (.ref (k + 1) :: [a1, a2, a3, a4, a5]) h (fun v h' => wps rm K Q r kc ks loc (v.toList ++ st) h')) := by
  refine propext ⟨fun q => ?_, fun q => ⟨by simp, ?_⟩⟩
  · have q2 := q.2
    simp only [List.drop_succ_cons, List.drop_zero] at q2
    unfold eg_cls
    split at q2
    · rename_i hh
      rw [hh]
      exact q2
    · exact q2.elim
  · simp only [List.drop_succ_cons, List.drop_zero]
    unfold eg_cls at q
    split at q
    · rename_i hh
      rw [hh]
      exact q
    · exact q.1.elim
theorem eg_c0_6 : wps rm K Q (.inr (pc, 0, idx, n, 6, c, mc, ms) :: r) kc ks loc (a6 :: a5 :: a4 :: a3 :: a2 :: a1 :: st) h = (st.length ≤ 4 ∧ eg_Cs n [a1, a2, a3, a4, a5, a6] h (fun v h' => wps rm K Q r kc ks loc (v.toList ++ st) h')) := propext ⟨fun q => ⟨q.2.1, q.2.2⟩, fun q => ⟨Nat.le_add_left _ _, q.1, q.2⟩⟩
theorem eg_c1_6 : wps rm K Q (.inr (pc, 1, idx, n, 6, c, mc, ms) :: r) kc ks loc (a6 :: a5 :: a4 :: a3 :: a2 :: a1 :: .ref (k + 1) :: st) h = (eg_cls h k c ∧ st.length ≤ 4 ∧ eg_Cs n (.ref (k + 1) :: [a1, a2, a3, a4, a5, a6]) h (fun v h' => wps rm K Q r kc ks loc (v.toList ++ st) h')) := by
  refine propext ⟨fun q => ?_, fun q => ⟨by simp, ?_⟩⟩
  · have q2 := q.2
    simp only [List.drop_succ_cons, List.drop_zero] at q2
    unfold eg_cls
    split at q2
    · rename_i hh
      rw [hh]
      exact q2
    · exact q2.elim
  · simp only [List.drop_succ_cons, List.drop_zero]
    unfold eg_cls at q
    split at q
    · rename_i hh
      rw [hh]
      exact q
    · exact q.1.elim
theorem eg_c2_0 : wps rm K Q (.inr (pc, 2, idx, n, 0, c, mc, ms) :: r) kc ks loc (.ref (k + 1) :: st) h = (st.length ≤ 4 ∧ kc + mc ≤ rm.cells ∧ ks + ms ≤ rm.slots ∧ eg_Cs n [.ref (k + 1)] h (fun v h' => wps rm K Q r (kc + mc) (ks + ms) loc (v.toList ++ st) h')) := propext ⟨fun q => q.2, fun q => ⟨Nat.zero_le _, q⟩⟩
theorem eg_c3_0 : wps rm K Q (.inr (pc, 3, idx, n, 0, c, mc, ms) :: r) kc ks loc (.ref (k + 1) :: st) h = (st.length ≤ 4 ∧ kc + mc ≤ rm.cells ∧ ks + ms ≤ rm.slots ∧ eg_Cs n [.ref (k + 1)] h (fun v h' => wps rm K Q r (kc + mc) (ks + ms) loc (v.toList ++ st) h')) := propext ⟨fun q => q.2, fun q => ⟨Nat.zero_le _, q⟩⟩
end EgC
/-- locals, written -/
theorem eg_t1_0 (x : Option Value) (l : eg_Lo) (v : Value) : eg_set1 (x :: l) 0 v = some v :: l := rfl
theorem eg_t1_i (y : Int32) (z : Option Value) (l : eg_Lo) (v : Value) : eg_set1 (some (.int y) :: z :: l) 1 v = some (.int y) :: some v :: l := rfl
theorem eg_t1_a (y : Nat) (z : Option Value) (l : eg_Lo) (v : Value) : eg_set1 (some (.ref y) :: z :: l) 1 v = some (.ref y) :: some v :: l := rfl
theorem eg_t1_n (z : Option Value) (l : eg_Lo) (v : Value) : eg_set1 (none :: z :: l) 1 v = none :: some v :: l := rfl
theorem eg_t1_l (y : Int64) (z : Option Value) (l : eg_Lo) (v : Value) : eg_set1 (some (.long y) :: z :: l) 1 v = none :: some v :: l := rfl
theorem eg_t1_d (y : UInt64) (z : Option Value) (l : eg_Lo) (v : Value) : eg_set1 (some (.double y) :: z :: l) 1 v = none :: some v :: l := rfl
theorem eg_kill_s (x y : Option Value) (l : eg_Lo) (i : Nat) : eg_kill (x :: y :: l) (i + 2) = x :: eg_kill (y :: l) (i + 1) := by
  unfold eg_kill
  simp only [List.getElem?_cons_succ]
  cases (y :: l)[i]? with
  | none => rfl
  | some o =>
    cases o with
    | none => rfl
    | some w => by_cases hc : w.category = 2 <;> simp [hc]
theorem eg_t1_s (x y : Option Value) (l : eg_Lo) (i : Nat) (v : Value) : eg_set1 (x :: y :: l) (i + 2) v = x :: eg_set1 (y :: l) (i + 1) v := by
  unfold eg_set1
  rw [eg_kill_s]
  rfl
theorem eg_t2_0 (x y : Option Value) (l : eg_Lo) (v : Value) : eg_set2 (x :: y :: l) 0 v = some v :: none :: l := rfl
theorem eg_t2_i (y : Int32) (z w : Option Value) (l : eg_Lo) (v : Value) : eg_set2 (some (.int y) :: z :: w :: l) 1 v = some (.int y) :: some v :: none :: l := rfl
theorem eg_t2_a (y : Nat) (z w : Option Value) (l : eg_Lo) (v : Value) : eg_set2 (some (.ref y) :: z :: w :: l) 1 v = some (.ref y) :: some v :: none :: l := rfl
theorem eg_t2_n (z w : Option Value) (l : eg_Lo) (v : Value) : eg_set2 (none :: z :: w :: l) 1 v = none :: some v :: none :: l := rfl
theorem eg_t2_l (y : Int64) (z w : Option Value) (l : eg_Lo) (v : Value) : eg_set2 (some (.long y) :: z :: w :: l) 1 v = none :: some v :: none :: l := rfl
theorem eg_t2_d (y : UInt64) (z w : Option Value) (l : eg_Lo) (v : Value) : eg_set2 (some (.double y) :: z :: w :: l) 1 v = none :: some v :: none :: l := rfl
theorem eg_t2_s (x y : Option Value) (l : eg_Lo) (i : Nat) (v : Value) : eg_set2 (x :: y :: l) (i + 2) v = x :: eg_set2 (y :: l) (i + 1) v := by
  unfold eg_set2
  rw [eg_kill_s]
  rfl
/-- 1 or 0 -/
def eg_bi (c : Prop) [Decidable c] : Int32 := if c then 1 else 0
theorem eg_bi_0 (c : Prop) [Decidable c] : (eg_bi c = 0) = ¬ c := by
  unfold eg_bi
  split <;> simp [*]
theorem eg_bi_1 (c : Prop) [Decidable c] : (eg_bi c = 1) = c := by
  unfold eg_bi
  split <;> simp [*]
theorem eg_bi_or (c : Prop) [Decidable c] : eg_bi c = 0 ∨ eg_bi c = 1 := by
  unfold eg_bi
  split <;> simp
theorem eg_bi_t {c : Prop} [Decidable c] (h : c) : eg_bi c = 1 := by
  unfold eg_bi
  rw [if_pos h]
theorem eg_bi_f {c : Prop} [Decidable c] (h : ¬ c) : eg_bi c = 0 := by
  unfold eg_bi
  rw [if_neg h]
theorem eg_go {d : eg_M} {Q : Option Value → List eg_E → Prop} {n0 pc kc ks f : Nat} {loc : eg_Lo} {st : List Value} {h : List eg_E} {code : List eg_I} {T : List (Nat × List eg_I)} (hs : eg_seq d pc code = true) (hT : (T.all fun q => eg_seq d q.1 q.2) = true) (hw : wps (eg_rm d) (eg_run (eg_rm d) (eg_R d Q n0) Q T f) Q code kc ks loc st h) : eg_R d Q n0 pc kc ks loc st h := by
  intro Z p l e s m args below meth c D tc u base hC hn0 hZ
  exact eg_sound hC hn0 hZ (fun pc kc ks loc st h hK => eg_run_ok (fun q hq => List.all_eq_true.mp hT q hq) _ _ _ _ _ _ _ hK Z p l e s m args below meth c D tc u base hC hn0 hZ) code pc kc ks loc st h hs hw
theorem eg_begin {n : Nat} {d : eg_M} {as : List Value} {h : List eg_E} {Q : Option Value → List eg_E → Prop} {code : List eg_I} {T : List (Nat × List eg_I)} {f : Nat} (hd : eg_md n = d) (hn : n < 202) (hs : eg_seq d 0 code = true) (hT : (T.all fun q => eg_seq d q.1 q.2) = true) (hf : (eg_fl as).length ≤ eg_ml d) (hw : wps (eg_rm d) (eg_run (eg_rm d) (eg_R d Q (h.length + (eg_rm d).cells)) Q T f) Q code 0 0 (eg_entry (eg_ml d) as) [] h) : eg_Runs n as h Q := by
  subst hd
  exact eg_intro hn hf (eg_go hs hT hw)
