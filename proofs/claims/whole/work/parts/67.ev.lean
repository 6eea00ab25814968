/-! CONSTRUCTORS: run, not walked -/
def ev (rm : Room) (sp : Nat → Nat → List eg_E → Option (List eg_E)) (TT : List (Nat × List eg_I)) (f : Nat) (code : List eg_I) (kc ks : Nat) (loc : eg_Lo) (st : List Value) (h : List eg_E) : Option (List eg_E) := match f with
  | 0 => none
  | f + 1 => match code with
    | .inl (pc, _, .nop, _, _) :: _ => (match TT.lookup pc with | some c => ev rm sp TT f c kc ks loc st h | none => none)
    | .inl (_, _, .iconst z, _, _) :: r => ev rm sp TT f r kc ks loc (.int (Int32.ofInt z) :: st) h
    | .inl (_, _, .sipush z, _, _) :: r => ev rm sp TT f r kc ks loc (.long (Int64.ofInt z) :: st) h
    | .inl (_, _, .iload i, _, _) :: r => (match loc[i]? with | some (some (.int x)) => ev rm sp TT f r kc ks loc (.int x :: st) h | _ => none)
    | .inl (_, _, .aload i, _, _) :: r => (match loc[i]? with | some (some (.ref x)) => ev rm sp TT f r kc ks loc (.ref x :: st) h | _ => none)
    | .inl (_, _, .istore i, _, _) :: r => (match st with | .int x :: s => ev rm sp TT f r kc ks (eg_set1 loc i (.int x)) s h | _ => none)
    | .inl (_, _, .iinc i z, _, _) :: r => (match loc[i]? with | some (some (.int x)) => ev rm sp TT f r kc ks (eg_set1 loc i (.int (x + Int32.ofInt z))) st h | _ => none)
    | .inl (_, _, .dup, _, _) :: r => (match st with | .ref x :: s => ev rm sp TT f r kc ks loc (.ref x :: .ref x :: s) h | _ => none)
    | .inl (_, _, .if_icmp .ge _, a, _) :: r => (match st with | .int y :: .int x :: s => (if y ≤ x then (match TT.lookup a with | some c => ev rm sp TT f c kc ks loc s h | none => none) else ev rm sp TT f r kc ks loc s h) | _ => none)
    | .inl (_, _, .goto _, a, _) :: _ => (match TT.lookup a with | some c => ev rm sp TT f c kc ks loc st h | none => none)
    | .inl (_, _, .getfield _, a, b) :: r => (match st with | .ref (n + 1) :: s => (match h[n]? with | some (.inr (ci, fs)) => (match fs[b]? with | some v => (if ci = a then ev rm sp TT f r kc ks loc (v :: s) h else none) | none => none) | _ => none) | _ => none)
    | .inl (_, _, .putfield _, a, b) :: r => (match st with | v :: .ref (n + 1) :: s => (match h[n]? with | some (.inr (ci, fs)) => (if ci = a ∧ b < fs.length ∧ eg_fit (eg_fty a b) v = true then ev rm sp TT f r kc ks loc s (h.set n (.inr (ci, fs.set b v))) else none) | _ => none) | _ => none)
    | .inl (_, _, .aastore, _, _) :: r => (match st with | .ref (v + 1) :: .int i :: .ref (n + 1) :: s => (match h[n]?, h[v]? with | some (.inl (t, k, .inr (.inr (.inr (.inr g))))), some (.inr (ci, _)) => (if 4 ≤ t ∧ t < 7 ∧ ci = eg_tci t ∧ ¬ i < 0 ∧ i.toNatClampNeg < k ∧ k < 1000 then ev rm sp TT f r kc ks loc s (h.set n (.inl (t, k, .inr (.inr (.inr (.inr (va_up g i.toNatClampNeg (some (v + 1))))))))) else none) | _, _ => none) | _ => none)
    | .inl (_, _, .newarray _, a, _) :: r => (match st with | .int n :: s => (if ¬ n < 0 ∧ n.toNatClampNeg ≤ 1000 ∧ kc + 1 ≤ rm.cells ∧ ks + n.toNatClampNeg ≤ rm.slots then ev rm sp TT f r (kc + 1) (ks + n.toNatClampNeg) loc (.ref (h.length + 1) :: s) (h ++ [.inl (a, eg_zero a n.toNatClampNeg)]) else none) | _ => none)
    | .inl (_, _, .anewarray _, a, _) :: r => (match st with | .int n :: s => (if ¬ n < 0 ∧ n.toNatClampNeg ≤ 1000 ∧ kc + 1 ≤ rm.cells ∧ ks + n.toNatClampNeg ≤ rm.slots then ev rm sp TT f r (kc + 1) (ks + n.toNatClampNeg) loc (.ref (h.length + 1) :: s) (h ++ [.inl (a, n.toNatClampNeg, .inr (.inr (.inr (.inr (fun _ => none)))))]) else none) | _ => none)
    | .inl (_, _, .new _, a, b) :: r => (if kc + 1 ≤ rm.cells ∧ ks + b ≤ rm.slots then ev rm sp TT f r (kc + 1) (ks + b) loc (.ref (h.length + 1) :: st) (h ++ [.inr (a, eg_df a)]) else none)
    | .inl (_, _, .athrow, _, _) :: r => (match st with | .ref (_ + 1) :: s => (if s.length ≤ 4 then ev rm sp TT f r kc ks loc s h else none) | _ => none)
    | .inl (_, _, .return_, _, _) :: _ => (match st with | [] => (if kc = rm.cells then some h else none) | _ => none)
    | .inr (_, 3, _, n, 0, _, mc, ms) :: r => (match st with | .ref (k + 1) :: s => (if s.length ≤ 4 ∧ kc + mc ≤ rm.cells ∧ ks + ms ≤ rm.slots then (match sp n k h with | some h' => ev rm sp TT f r (kc + mc) (ks + ms) loc s h' | none => none) else none) | _ => none)
    | _ => none
theorem ev_sound {d : eg_M} {sp : Nat → Nat → List eg_E → Option (List eg_E)} {TT : List (Nat × List eg_I)} {Q : Option Value → List eg_E → Prop} {n0 : Nat} {hE : List eg_E} (hsp : ∀ n k h h', sp n k h = some h' → ∀ Q : Option Value → List eg_E → Prop, Q none h' → eg_Runs n [.ref (k + 1)] h Q) (hTT : ∀ q ∈ TT, eg_seq d q.1 q.2 = true) (hQ : Q none hE) : ∀ (f : Nat) (code : List eg_I) (kc ks : Nat) (loc : eg_Lo) (st : List Value) (h : List eg_E), ev (eg_rm d) sp TT f code kc ks loc st h = some hE → wps (eg_rm d) (eg_R d Q n0) Q code kc ks loc st h := by
  intro f
  induction f with
  | zero => intro code kc ks loc st h he; simp only [ev] at he; cases he
  | succ f ih =>
    intro code kc ks loc st h he
    have jump : ∀ {pc kc ks loc st h}, (match TT.lookup pc with | some c => ev (eg_rm d) sp TT f c kc ks loc st h | none => none) = some hE → eg_R d Q n0 pc kc ks loc st h := by
      intro pc kc ks loc st h hj
      split at hj
      · rename_i c hc
        exact eg_blk (hTT _ (eg_lkp hc)) (ih _ _ _ _ _ _ hj)
      · cases hj
    unfold ev at he
    split at he
    · exact jump he
    · simp only [wps, eg_stepI]
      exact ih _ _ _ _ _ _ he
    · simp only [wps, eg_stepI]
      exact ih _ _ _ _ _ _ he
    · simp only [wps, eg_stepI]
      split at he
      · rename_i x hx
        rw [hx]
        exact ih _ _ _ _ _ _ he
      · cases he
    · simp only [wps, eg_stepI]
      split at he
      · rename_i x hx
        rw [hx]
        exact ih _ _ _ _ _ _ he
      · cases he
    · split at he
      · simp only [wps, eg_stepI]
        exact ih _ _ _ _ _ _ he
      · cases he
    · simp only [wps, eg_stepI]
      split at he
      · rename_i x hx
        rw [hx]
        exact ih _ _ _ _ _ _ he
      · cases he
    · split at he
      · simp only [wps, eg_stepI]
        exact ih _ _ _ _ _ _ he
      · cases he
    · split at he
      · rename_i y x s
        simp only [wps, eg_stepI]
        by_cases c : y ≤ x
        · rw [if_pos c] at he
          exact ⟨fun _ => jump he, fun z => absurd c z⟩
        · rw [if_neg c] at he
          exact ⟨fun z => absurd z c, fun _ => ih _ _ _ _ _ _ he⟩
      · cases he
    · exact jump he
    · split at he
      · rename_i n s
        simp only [wps, eg_stepI]
        split at he
        · rename_i ci fs hn
          rw [hn]
          simp only
          split at he
          · rename_i v hv
            rw [hv]
            simp only
            split at he
            · rename_i hc
              exact ⟨hc, ih _ _ _ _ _ _ he⟩
            · cases he
          · cases he
        · cases he
      · cases he
    · split at he
      · rename_i v n s
        simp only [wps, eg_stepI]
        split at he
        · rename_i ci fs hn
          rw [hn]
          simp only
          split at he
          · rename_i hc
            exact ⟨hc.1, hc.2.1, hc.2.2, ih _ _ _ _ _ _ he⟩
          · cases he
        · cases he
      · cases he
    · split at he
      · rename_i v i n s
        simp only [wps, eg_stepI]
        split at he
        · rename_i t k g ci fs hn hv
          rw [hn, hv]
          simp only
          split at he
          · rename_i hc
            obtain ⟨c1, c2, c3, c4, c5, -⟩ := hc
            refine ⟨c1, c2, c3, ?_, ih _ _ _ _ _ _ he⟩
            rintro (z | z)
            · exact c4 z
            · omega
          · cases he
        · cases he
      · cases he
    · split at he
      · rename_i n s
        simp only [wps, eg_stepI]
        split at he
        · rename_i hc
          exact ⟨hc.1, hc.2.1, hc.2.2.1, hc.2.2.2, ih _ _ _ _ _ _ he⟩
        · cases he
      · cases he
    · split at he
      · rename_i n s
        simp only [wps, eg_stepI]
        split at he
        · rename_i hc
          exact ⟨hc.1, hc.2.1, hc.2.2.1, hc.2.2.2, ih _ _ _ _ _ _ he⟩
        · cases he
      · cases he
    · simp only [wps, eg_stepI]
      split at he
      · rename_i hc
        exact ⟨hc.1, hc.2, ih _ _ _ _ _ _ he⟩
      · cases he
    · split at he
      · rename_i x s
        simp only [wps, eg_stepI]
        split at he
        · rename_i hc
          exact ⟨hc, ih _ _ _ _ _ _ he⟩
        · cases he
      · cases he
    · split at he
      · simp only [wps, eg_stepI]
        split at he
        · rename_i hc
          cases he
          exact ⟨hc, hQ⟩
        · cases he
      · cases he
    · split at he
      · rename_i k s
        split at he
        · rename_i hc
          split at he
          · rename_i h' hh
            refine ⟨Nat.zero_le _, hc.1, hc.2.1, hc.2.2, fun r h9 => r = none ∧ h9 = h', hsp _ _ _ _ hh _ ⟨rfl, rfl⟩, ?_⟩
            rintro r h9 ⟨rfl, rfl⟩
            exact ih _ _ _ _ _ _ he
          · cases he
        · cases he
      · cases he
    · cases he
/-- a constructor that was run ends so -/
theorem ev_Runs {n : Nat} {d : eg_M} {sp : Nat → Nat → List eg_E → Option (List eg_E)} {TT : List (Nat × List eg_I)} {code : List eg_I} {k f : Nat} {h hE : List eg_E} (hd : eg_md n = d) (hn : n < 202) (hs : eg_seq d 0 code = true) (hsp : ∀ n k h h', sp n k h = some h' → ∀ Q : Option Value → List eg_E → Prop, Q none h' → eg_Runs n [.ref (k + 1)] h Q) (hTT : ∀ q ∈ TT, eg_seq d q.1 q.2 = true) (hl : 1 ≤ eg_ml d) (he : ev (eg_rm d) sp TT f code 0 0 (eg_entry (eg_ml d) [.ref (k + 1)]) [] h = some hE) : ∀ Q : Option Value → List eg_E → Prop, Q none hE → eg_Runs n [.ref (k + 1)] h Q := by
  intro Q hQ
  subst hd
  exact eg_intro hn hl (eg_blk hs (ev_sound hsp hTT hQ f code 0 0 _ _ _ he))
