section Gk
variable {rm : Room} {K : Nat → Nat → Nat → eg_Lo → List Value → List eg_E → Prop} {Q : Option Value → List eg_E → Prop} {r : List eg_I} {pc len a b kc ks : Nat} {loc : eg_Lo} {st : List Value} {h : List eg_E}
theorem gk_ic {z : Int} {v : Int32} (hv : Int32.ofInt z = v) : wps rm K Q (.inl (pc, len, .iconst z, a, b) :: r) kc ks loc (st) h = wps rm K Q r kc ks loc (.int v :: st) h := by rw [← hv]; rfl
theorem gk_lc {z : Int} {v : Int64} (hv : Int64.ofInt z = v) : wps rm K Q (.inl (pc, len, .sipush z, a, b) :: r) kc ks loc (st) h = wps rm K Q r kc ks loc (.long v :: st) h := by rw [← hv]; rfl
theorem gk_dc {z : Nat} : wps rm K Q (.inl (pc, len, .ldc2_w z, a, b) :: r) kc ks loc (st) h = wps rm K Q r kc ks loc (.double (UInt64.ofNat a) :: st) h := rfl
theorem gk_dz {z : Fin 2} : wps rm K Q (.inl (pc, len, .dconst z, a, b) :: r) kc ks loc (st) h = wps rm K Q r kc ks loc (.double FP.dconst0 :: st) h := rfl
theorem gk_iload {i : Nat} {x : Int32} (hl : loc[i]? = some (some (.int x))) : wps rm K Q (.inl (pc, len, .iload i, a, b) :: r) kc ks loc (st) h = wps rm K Q r kc ks loc (.int x :: st) h := by simp only [wps, eg_stepI, hl]
theorem gk_lload {i : Nat} {x : Int64} (hl : loc[i]? = some (some (.long x))) : wps rm K Q (.inl (pc, len, .lload i, a, b) :: r) kc ks loc (st) h = wps rm K Q r kc ks loc (.long x :: st) h := by simp only [wps, eg_stepI, hl]
theorem gk_dload {i : Nat} {x : UInt64} (hl : loc[i]? = some (some (.double x))) : wps rm K Q (.inl (pc, len, .dload i, a, b) :: r) kc ks loc (st) h = wps rm K Q r kc ks loc (.double x :: st) h := by simp only [wps, eg_stepI, hl]
theorem gk_aload {i : Nat} {x : Nat} (hl : loc[i]? = some (some (.ref x))) : wps rm K Q (.inl (pc, len, .aload i, a, b) :: r) kc ks loc (st) h = wps rm K Q r kc ks loc (.ref x :: st) h := by simp only [wps, eg_stepI, hl]
theorem gk_istore {i : Nat} {x : Int32} : wps rm K Q (.inl (pc, len, .istore i, a, b) :: r) kc ks loc (.int x :: st) h = wps rm K Q r kc ks (eg_set1 loc i (.int x)) (st) h := rfl
theorem gk_lstore {i : Nat} {x : Int64} : wps rm K Q (.inl (pc, len, .lstore i, a, b) :: r) kc ks loc (.long x :: st) h = wps rm K Q r kc ks (eg_set2 loc i (.long x)) (st) h := rfl
theorem gk_dstore {i : Nat} {x : UInt64} : wps rm K Q (.inl (pc, len, .dstore i, a, b) :: r) kc ks loc (.double x :: st) h = wps rm K Q r kc ks (eg_set2 loc i (.double x)) (st) h := rfl
theorem gk_astore {i : Nat} {x : Nat} : wps rm K Q (.inl (pc, len, .astore i, a, b) :: r) kc ks loc (.ref x :: st) h = wps rm K Q r kc ks (eg_set1 loc i (.ref x)) (st) h := rfl
theorem gk_iinc {i : Nat} {z : Int} {x v : Int32} (hl : loc[i]? = some (some (.int x))) (hv : Int32.ofInt z = v) : wps rm K Q (.inl (pc, len, .iinc i z, a, b) :: r) kc ks loc (st) h = wps rm K Q r kc ks (eg_set1 loc i (.int (x + v))) (st) h := by rw [← hv]; simp only [wps, eg_stepI, hl]
theorem gk_iadd {x y : Int32} : wps rm K Q (.inl (pc, len, .iadd, a, b) :: r) kc ks loc (.int y :: .int x :: st) h = wps rm K Q r kc ks loc (.int (x + y) :: st) h := rfl
theorem gk_isub {x y : Int32} : wps rm K Q (.inl (pc, len, .isub, a, b) :: r) kc ks loc (.int y :: .int x :: st) h = wps rm K Q r kc ks loc (.int (x - y) :: st) h := rfl
theorem gk_imul {x y : Int32} : wps rm K Q (.inl (pc, len, .imul, a, b) :: r) kc ks loc (.int y :: .int x :: st) h = wps rm K Q r kc ks loc (.int (x * y) :: st) h := rfl
theorem gk_iand {x y : Int32} : wps rm K Q (.inl (pc, len, .iand, a, b) :: r) kc ks loc (.int y :: .int x :: st) h = wps rm K Q r kc ks loc (.int (x &&& y) :: st) h := rfl
theorem gk_ior {x y : Int32} : wps rm K Q (.inl (pc, len, .ior, a, b) :: r) kc ks loc (.int y :: .int x :: st) h = wps rm K Q r kc ks loc (.int (x ||| y) :: st) h := rfl
theorem gk_ixor {x y : Int32} : wps rm K Q (.inl (pc, len, .ixor, a, b) :: r) kc ks loc (.int y :: .int x :: st) h = wps rm K Q r kc ks loc (.int (x ^^^ y) :: st) h := rfl
theorem gk_ladd {x y : Int64} : wps rm K Q (.inl (pc, len, .ladd, a, b) :: r) kc ks loc (.long y :: .long x :: st) h = wps rm K Q r kc ks loc (.long (x + y) :: st) h := rfl
theorem gk_lsub {x y : Int64} : wps rm K Q (.inl (pc, len, .lsub, a, b) :: r) kc ks loc (.long y :: .long x :: st) h = wps rm K Q r kc ks loc (.long (x - y) :: st) h := rfl
theorem gk_lmul {x y : Int64} : wps rm K Q (.inl (pc, len, .lmul, a, b) :: r) kc ks loc (.long y :: .long x :: st) h = wps rm K Q r kc ks loc (.long (x * y) :: st) h := rfl
theorem gk_land {x y : Int64} : wps rm K Q (.inl (pc, len, .land, a, b) :: r) kc ks loc (.long y :: .long x :: st) h = wps rm K Q r kc ks loc (.long (x &&& y) :: st) h := rfl
theorem gk_lor {x y : Int64} : wps rm K Q (.inl (pc, len, .lor, a, b) :: r) kc ks loc (.long y :: .long x :: st) h = wps rm K Q r kc ks loc (.long (x ||| y) :: st) h := rfl
theorem gk_idiv {x y : Int32} : wps rm K Q (.inl (pc, len, .idiv, a, b) :: r) kc ks loc (.int y :: .int x :: st) h = (¬ y = 0 ∧ wps rm K Q r kc ks loc (.int (x / y) :: st) h) := rfl
theorem gk_irem {x y : Int32} : wps rm K Q (.inl (pc, len, .irem, a, b) :: r) kc ks loc (.int y :: .int x :: st) h = (¬ y = 0 ∧ wps rm K Q r kc ks loc (.int (x - x / y * y) :: st) h) := rfl
theorem gk_ldiv {x y : Int64} : wps rm K Q (.inl (pc, len, .ldiv, a, b) :: r) kc ks loc (.long y :: .long x :: st) h = (¬ y = 0 ∧ wps rm K Q r kc ks loc (.long (x / y) :: st) h) := rfl
theorem gk_lrem {x y : Int64} : wps rm K Q (.inl (pc, len, .lrem, a, b) :: r) kc ks loc (.long y :: .long x :: st) h = (¬ y = 0 ∧ wps rm K Q r kc ks loc (.long (x - x / y * y) :: st) h) := rfl
theorem gk_ineg {x : Int32} : wps rm K Q (.inl (pc, len, .ineg, a, b) :: r) kc ks loc (.int x :: st) h = wps rm K Q r kc ks loc (.int (-x) :: st) h := rfl
theorem gk_lneg {x : Int64} : wps rm K Q (.inl (pc, len, .lneg, a, b) :: r) kc ks loc (.long x :: st) h = wps rm K Q r kc ks loc (.long (-x) :: st) h := rfl
theorem gk_i2l {x : Int32} : wps rm K Q (.inl (pc, len, .i2l, a, b) :: r) kc ks loc (.int x :: st) h = wps rm K Q r kc ks loc (.long (x.toInt64) :: st) h := rfl
theorem gk_l2i {x : Int64} : wps rm K Q (.inl (pc, len, .l2i, a, b) :: r) kc ks loc (.long x :: st) h = wps rm K Q r kc ks loc (.int (x.toInt32) :: st) h := rfl
theorem gk_i2s {x : Int32} : wps rm K Q (.inl (pc, len, .i2s, a, b) :: r) kc ks loc (.int x :: st) h = wps rm K Q r kc ks loc (.int (x.toInt16.toInt32) :: st) h := rfl
theorem gk_i2d {x : Int32} : wps rm K Q (.inl (pc, len, .i2d, a, b) :: r) kc ks loc (.int x :: st) h = wps rm K Q r kc ks loc (.double (FP.i2d x) :: st) h := rfl
theorem gk_d2i {x : UInt64} : wps rm K Q (.inl (pc, len, .d2i, a, b) :: r) kc ks loc (.double x :: st) h = wps rm K Q r kc ks loc (.int (FP.d2i x) :: st) h := rfl
theorem gk_lushr {x : Int64} {y : Int32} : wps rm K Q (.inl (pc, len, .lushr, a, b) :: r) kc ks loc (.int y :: .long x :: st) h = wps rm K Q r kc ks loc (.long ((x.toUInt64 >>> (y.toInt64.toUInt64 &&& Int64.toUInt64 63)).toInt64) :: st) h := rfl
theorem gk_lshl {x : Int64} {y : Int32} : wps rm K Q (.inl (pc, len, .lshl, a, b) :: r) kc ks loc (.int y :: .long x :: st) h = wps rm K Q r kc ks loc (.long (x <<< (y.toInt64 &&& 63)) :: st) h := rfl
theorem gk_lshr {x : Int64} {y : Int32} : wps rm K Q (.inl (pc, len, .lshr, a, b) :: r) kc ks loc (.int y :: .long x :: st) h = wps rm K Q r kc ks loc (.long (x >>> (y.toInt64 &&& 63)) :: st) h := rfl
theorem gk_lcmp {x y : Int64} : wps rm K Q (.inl (pc, len, .lcmp, a, b) :: r) kc ks loc (.long y :: .long x :: st) h = wps rm K Q r kc ks loc (.int (lg_cmp x y) :: st) h := rfl
theorem gk_dcmp {op : CmpOp} {x y : UInt64} : wps rm K Q (.inl (pc, len, .dcmp op, a, b) :: r) kc ks loc (.double y :: .double x :: st) h = wps rm K Q r kc ks loc (.int (Op.cmpValue (FP.dcmp x y) op) :: st) h := rfl
theorem gk_dup {x : Nat} : wps rm K Q (.inl (pc, len, .dup, a, b) :: r) kc ks loc (.ref x :: st) h = wps rm K Q r kc ks loc (.ref x :: .ref x :: st) h := rfl
theorem gk_pop {x : Int32} : wps rm K Q (.inl (pc, len, .pop, a, b) :: r) kc ks loc (.int x :: st) h = wps rm K Q r kc ks loc (st) h := rfl
theorem gk_dup2 {y : Int32} {x : Nat} : wps rm K Q (.inl (pc, len, .dup2, a, b) :: r) kc ks loc (.int y :: .ref x :: st) h = wps rm K Q r kc ks loc (.int y :: .ref x :: .int y :: .ref x :: st) h := rfl
theorem gk_if1_eq {off : Int} {x : Int32} : wps rm K Q (.inl (pc, len, (.ifCond .eq off), a, b) :: r) kc ks loc (.int x :: st) h = ((x = 0 → K a kc ks loc st h) ∧ (¬ x = 0 → wps rm K Q r kc ks loc (st) h)) := rfl
theorem gk_if1_ne {off : Int} {x : Int32} : wps rm K Q (.inl (pc, len, (.ifCond .ne off), a, b) :: r) kc ks loc (.int x :: st) h = ((¬ x = 0 → K a kc ks loc st h) ∧ (x = 0 → wps rm K Q r kc ks loc (st) h)) := rfl
theorem gk_if1_lt {off : Int} {x : Int32} : wps rm K Q (.inl (pc, len, (.ifCond .lt off), a, b) :: r) kc ks loc (.int x :: st) h = ((x < 0 → K a kc ks loc st h) ∧ (¬ x < 0 → wps rm K Q r kc ks loc (st) h)) := rfl
theorem gk_if1_ge {off : Int} {x : Int32} : wps rm K Q (.inl (pc, len, (.ifCond .ge off), a, b) :: r) kc ks loc (.int x :: st) h = ((0 ≤ x → K a kc ks loc st h) ∧ (¬ 0 ≤ x → wps rm K Q r kc ks loc (st) h)) := rfl
theorem gk_if1_gt {off : Int} {x : Int32} : wps rm K Q (.inl (pc, len, (.ifCond .gt off), a, b) :: r) kc ks loc (.int x :: st) h = ((0 < x → K a kc ks loc st h) ∧ (¬ 0 < x → wps rm K Q r kc ks loc (st) h)) := rfl
theorem gk_if1_le {off : Int} {x : Int32} : wps rm K Q (.inl (pc, len, (.ifCond .le off), a, b) :: r) kc ks loc (.int x :: st) h = ((x ≤ 0 → K a kc ks loc st h) ∧ (¬ x ≤ 0 → wps rm K Q r kc ks loc (st) h)) := rfl
theorem gk_if2_eq {off : Int} {x y : Int32} : wps rm K Q (.inl (pc, len, (.if_icmp .eq off), a, b) :: r) kc ks loc (.int y :: .int x :: st) h = ((x = y → K a kc ks loc st h) ∧ (¬ x = y → wps rm K Q r kc ks loc (st) h)) := rfl
theorem gk_if2_ne {off : Int} {x y : Int32} : wps rm K Q (.inl (pc, len, (.if_icmp .ne off), a, b) :: r) kc ks loc (.int y :: .int x :: st) h = ((¬ x = y → K a kc ks loc st h) ∧ (x = y → wps rm K Q r kc ks loc (st) h)) := rfl
theorem gk_if2_lt {off : Int} {x y : Int32} : wps rm K Q (.inl (pc, len, (.if_icmp .lt off), a, b) :: r) kc ks loc (.int y :: .int x :: st) h = ((x < y → K a kc ks loc st h) ∧ (¬ x < y → wps rm K Q r kc ks loc (st) h)) := rfl
theorem gk_if2_ge {off : Int} {x y : Int32} : wps rm K Q (.inl (pc, len, (.if_icmp .ge off), a, b) :: r) kc ks loc (.int y :: .int x :: st) h = ((y ≤ x → K a kc ks loc st h) ∧ (¬ y ≤ x → wps rm K Q r kc ks loc (st) h)) := rfl
theorem gk_if2_gt {off : Int} {x y : Int32} : wps rm K Q (.inl (pc, len, (.if_icmp .gt off), a, b) :: r) kc ks loc (.int y :: .int x :: st) h = ((y < x → K a kc ks loc st h) ∧ (¬ y < x → wps rm K Q r kc ks loc (st) h)) := rfl
theorem gk_if2_le {off : Int} {x y : Int32} : wps rm K Q (.inl (pc, len, (.if_icmp .le off), a, b) :: r) kc ks loc (.int y :: .int x :: st) h = ((x ≤ y → K a kc ks loc st h) ∧ (¬ x ≤ y → wps rm K Q r kc ks loc (st) h)) := rfl
theorem gk_goto {off : Int} : wps rm K Q (.inl (pc, len, (.goto off), a, b) :: r) kc ks loc (st) h = K a kc ks loc st h := rfl
theorem gk_gf {idx x : Nat} : wps rm K Q (.inl (pc, len, (.getfield idx), a, b) :: r) kc ks loc (.ref (x + 1) :: st) h = eg_gf h x a b (fun v => wps rm K Q r kc ks loc (v :: st) h) := rfl
theorem gk_pf {idx x : Nat} {v : Value} : wps rm K Q (.inl (pc, len, (.putfield idx), a, b) :: r) kc ks loc (v :: .ref (x + 1) :: st) h = eg_pf h x a b v (fun h9 => wps rm K Q r kc ks loc (st) h9) := rfl
theorem gk_pb {idx x : Nat} {v : Int32} : wps rm K Q (.inl (pc, len, (.putstatic idx), a, b) :: r) kc ks loc (.int v :: .ref (x + 1) :: st) h = eg_pb h x a b v (fun h9 => wps rm K Q r kc ks loc (st) h9) := rfl
theorem gk_gs {idx : Nat} : wps rm K Q (.inl (pc, len, (.getstatic idx), a, b) :: r) kc ks loc (st) h = wps rm K Q r kc ks loc (.ref 0 :: st) h := rfl
theorem gk_al0  : wps rm K Q (.inl (pc, len, .arraylength, a, b) :: r) kc ks loc (.ref 0 :: st) h = wps rm K Q r kc ks loc (.int 6 :: st) h := rfl
theorem gk_al {x : Nat} : wps rm K Q (.inl (pc, len, .arraylength, a, b) :: r) kc ks loc (.ref (x + 1) :: st) h = eg_al h x (fun v => wps rm K Q r kc ks loc (.int v :: st) h) := rfl
theorem gk_ia0 {i : Int32} : wps rm K Q (.inl (pc, len, .iaload, a, b) :: r) kc ks loc (.int i :: .ref 0 :: st) h = (vp_in i 6 ∧ wps rm K Q r kc ks loc (.int (eg_under i.toNatClampNeg) :: st) h) := rfl
theorem gk_iaload {x : Nat} {i : Int32} : wps rm K Q (.inl (pc, len, .iaload, a, b) :: r) kc ks loc (.int i :: .ref (x + 1) :: st) h = eg_ia h x i (fun v => wps rm K Q r kc ks loc (.int v :: st) h) := rfl
theorem gk_baload {x : Nat} {i : Int32} : wps rm K Q (.inl (pc, len, .baload, a, b) :: r) kc ks loc (.int i :: .ref (x + 1) :: st) h = eg_ba h x i (fun v => wps rm K Q r kc ks loc (.int v :: st) h) := rfl
theorem gk_laload {x : Nat} {i : Int32} : wps rm K Q (.inl (pc, len, .laload, a, b) :: r) kc ks loc (.int i :: .ref (x + 1) :: st) h = eg_la h x i (fun v => wps rm K Q r kc ks loc (.long v :: st) h) := rfl
theorem gk_daload {x : Nat} {i : Int32} : wps rm K Q (.inl (pc, len, .daload, a, b) :: r) kc ks loc (.int i :: .ref (x + 1) :: st) h = eg_da h x i (fun v => wps rm K Q r kc ks loc (.double v :: st) h) := rfl
theorem gk_aaload {x : Nat} {i : Int32} : wps rm K Q (.inl (pc, len, .aaload, a, b) :: r) kc ks loc (.int i :: .ref (x + 1) :: st) h = eg_aa h x i (fun v => wps rm K Q r kc ks loc (v :: st) h) := rfl
theorem gk_iastore {x : Nat} {i : Int32} {v : Int32} : wps rm K Q (.inl (pc, len, .iastore, a, b) :: r) kc ks loc (.int v :: .int i :: .ref (x + 1) :: st) h = eg_is h x i v (fun h9 => wps rm K Q r kc ks loc (st) h9) := rfl
theorem gk_bastore {x : Nat} {i : Int32} {v : Int32} : wps rm K Q (.inl (pc, len, .bastore, a, b) :: r) kc ks loc (.int v :: .int i :: .ref (x + 1) :: st) h = eg_bs h x i v (fun h9 => wps rm K Q r kc ks loc (st) h9) := rfl
theorem gk_lastore {x : Nat} {i : Int32} {v : Int64} : wps rm K Q (.inl (pc, len, .lastore, a, b) :: r) kc ks loc (.long v :: .int i :: .ref (x + 1) :: st) h = eg_lst h x i v (fun h9 => wps rm K Q r kc ks loc (st) h9) := rfl
theorem gk_dastore {x : Nat} {i : Int32} {v : UInt64} : wps rm K Q (.inl (pc, len, .dastore, a, b) :: r) kc ks loc (.double v :: .int i :: .ref (x + 1) :: st) h = eg_ds h x i v (fun h9 => wps rm K Q r kc ks loc (st) h9) := rfl
theorem gk_aastore {x v : Nat} {i : Int32} : wps rm K Q (.inl (pc, len, .aastore, a, b) :: r) kc ks loc (.ref (v + 1) :: .int i :: .ref (x + 1) :: st) h = eg_as h x v i (fun h9 => wps rm K Q r kc ks loc (st) h9) := rfl
theorem gk_na {t : ArrayType} {x : Int32} : wps rm K Q (.inl (pc, len, (.newarray t), a, b) :: r) kc ks loc (.int x :: st) h = (¬ x < 0 ∧ x.toNatClampNeg ≤ 1000 ∧ kc + 1 ≤ rm.cells ∧ ks + x.toNatClampNeg ≤ rm.slots ∧ wps rm K Q r (kc + 1) (ks + x.toNatClampNeg) loc (.ref (h.length + 1) :: st) (h ++ [.inl (a, eg_zero a x.toNatClampNeg)])) := rfl
theorem gk_an {idx : Nat} {x : Int32} : wps rm K Q (.inl (pc, len, (.anewarray idx), a, b) :: r) kc ks loc (.int x :: st) h = (¬ x < 0 ∧ x.toNatClampNeg ≤ 1000 ∧ kc + 1 ≤ rm.cells ∧ ks + x.toNatClampNeg ≤ rm.slots ∧ wps rm K Q r (kc + 1) (ks + x.toNatClampNeg) loc (.ref (h.length + 1) :: st) (h ++ [.inl (a, x.toNatClampNeg, .inr (.inr (.inr (.inr (fun _ => none)))))])) := rfl
theorem gk_new {idx : Nat} : wps rm K Q (.inl (pc, len, (.new idx), a, b) :: r) kc ks loc (st) h = (kc + 1 ≤ rm.cells ∧ ks + b ≤ rm.slots ∧ wps rm K Q r (kc + 1) (ks + b) loc (.ref (h.length + 1) :: st) (h ++ [.inr (a, eg_df a)])) := rfl
theorem gk_oi {x : Nat} : wps rm K Q (.inl (pc, len, .athrow, a, b) :: r) kc ks loc (.ref (x + 1) :: st) h = (st.length ≤ 4 ∧ wps rm K Q r kc ks loc (st) h) := rfl
theorem gk_iret {x : Int32} : wps rm K Q (.inl (pc, len, .ireturn, a, b) :: r) kc ks loc ([.int x]) h = (kc = rm.cells ∧ (b = 1 → x = 0 ∨ x = 1) ∧ Q (some (.int x)) h) := rfl
theorem gk_lret {x : Int64} : wps rm K Q (.inl (pc, len, .lreturn, a, b) :: r) kc ks loc ([.long x]) h = (kc = rm.cells ∧ Q (some (.long x)) h) := rfl
theorem gk_vret  : wps rm K Q (.inl (pc, len, .return_, a, b) :: r) kc ks loc ([]) h = (kc = rm.cells ∧ Q none h) := rfl
theorem gk_nop  : wps rm K Q (.inl (pc, len, .nop, a, b) :: r) kc ks loc (st) h = K pc kc ks loc st h := rfl
end Gk
