/-! THE ENGINE'S INSTRUCTIONS -/
/-- .inl (pc, length, instruction, a, b); .inr (pc, kind, index, method, parameters, class, cells, slots): a call, 0 static 1 virtual 2 constructor 3 a nest mate's constructor -/
abbrev eg_I : Type := (Nat × Nat × Instr × Nat × Nat) ⊕ (Nat × Nat × Nat × Nat × Nat × Nat × Nat × Nat)
def eg_dec (d : eg_M) (pc : Nat) (i : Instr) (n : Nat) : Bool := decide (decode (eg_cc d) pc = .ok (i, n))
def eg_tci (t : Nat) : Nat := match t with
  | 4 => 8
  | 5 => 9
  | _ => 2
def eg_pty (t : FieldType) : Bool := match t with
  | .int => true
  | .long => true
  | .object _ => true
  | .array _ => true
  | _ => false
def eg_fit (t : FieldType) (v : Value) : Bool := match t, v with
  | .int, .int _ => true
  | .long, .long _ => true
  | .object _, .ref _ => true
  | .array _, .ref _ => true
  | _, _ => false
def eg_dfv (t : FieldType) : Value := defaultValue t
def eg_df (ci : Nat) : List Value := (List.range (eg_cl ci).2.2).map (fun k => eg_dfv (eg_fty ci k))
/-- a new row of numbers -/
def eg_zero (t n : Nat) : vp_A := match t with
  | 0 => (n, .inl (fun _ => 0))
  | 1 => (n, .inr (.inl (fun _ => 0)))
  | 2 => (n, .inl (fun _ => 0))
  | _ => (n, .inr (.inr (.inr (.inl (fun _ => 0)))))
def eg_at (t : Nat) : ArrayType := match t with
  | 0 => .int
  | 1 => .long
  | 2 => .boolean
  | _ => .double
def eg_okI (d : eg_M) (pc len : Nat) (ins : Instr) (a b : Nat) : Bool := match ins with
  | .nop => len == 0
  | .iconst z => (len == 1 && eg_dec d pc (.iconst z) 1) || (len == 2 && eg_dec d pc (.bipush z) 2 && decide ((Int8.ofInt z).toInt32 = Int32.ofInt z)) || (len == 3 && eg_dec d pc (.sipush z) 3 && decide ((Int16.ofInt z).toInt32 = Int32.ofInt z)) || (len == 2 && eg_dec d pc (.ldc a) 2 && decide ((eg_co d, a, z) ∈ eg_KL))
  | .sipush z => (len == 1 && eg_dec d pc (.lconst 0) 1 && decide (z = 0)) || (len == 1 && eg_dec d pc (.lconst 1) 1 && decide (z = 1)) || (len == 3 && eg_dec d pc (.ldc2_w a) 3 && decide ((eg_co d, a, z) ∈ eg_LL))
  | .dconst _ => len == 1 && eg_dec d pc (.dconst 0) 1
  | .ldc2_w k => len == 3 && eg_dec d pc (.ldc2_w k) 3 && decide ((eg_co d, k, a) ∈ eg_DL)
  | .iload i => (len == 2 && eg_dec d pc (.iload i) 2) || (len == 1 && decide (i < 4) && eg_dec d pc (.iload_n (Fin.ofNat 4 i)) 1)
  | .istore i => decide (i + 0 < eg_ml d) && ((len == 2 && eg_dec d pc (.istore i) 2) || (len == 1 && decide (i < 4) && eg_dec d pc (.istore_n (Fin.ofNat 4 i)) 1))
  | .lload i => (len == 2 && eg_dec d pc (.lload i) 2) || (len == 1 && decide (i < 4) && eg_dec d pc (.lload_n (Fin.ofNat 4 i)) 1)
  | .lstore i => decide (i + 1 < eg_ml d) && ((len == 2 && eg_dec d pc (.lstore i) 2) || (len == 1 && decide (i < 4) && eg_dec d pc (.lstore_n (Fin.ofNat 4 i)) 1))
  | .dload i => (len == 2 && eg_dec d pc (.dload i) 2) || (len == 1 && decide (i < 4) && eg_dec d pc (.dload_n (Fin.ofNat 4 i)) 1)
  | .dstore i => decide (i + 1 < eg_ml d) && ((len == 2 && eg_dec d pc (.dstore i) 2) || (len == 1 && decide (i < 4) && eg_dec d pc (.dstore_n (Fin.ofNat 4 i)) 1))
  | .aload i => (len == 2 && eg_dec d pc (.aload i) 2) || (len == 1 && decide (i < 4) && eg_dec d pc (.aload_n (Fin.ofNat 4 i)) 1)
  | .astore i => decide (i + 0 < eg_ml d) && ((len == 2 && eg_dec d pc (.astore i) 2) || (len == 1 && decide (i < 4) && eg_dec d pc (.astore_n (Fin.ofNat 4 i)) 1))
  | .iinc i z => len == 3 && eg_dec d pc (.iinc i z) 3 && decide (i < eg_ml d)
  | .iadd => len == 1 && eg_dec d pc .iadd 1
  | .isub => len == 1 && eg_dec d pc .isub 1
  | .imul => len == 1 && eg_dec d pc .imul 1
  | .iand => len == 1 && eg_dec d pc .iand 1
  | .ior => len == 1 && eg_dec d pc .ior 1
  | .ixor => len == 1 && eg_dec d pc .ixor 1
  | .idiv => len == 1 && eg_dec d pc .idiv 1
  | .irem => len == 1 && eg_dec d pc .irem 1
  | .ineg => len == 1 && eg_dec d pc .ineg 1
  | .ladd => len == 1 && eg_dec d pc .ladd 1
  | .lsub => len == 1 && eg_dec d pc .lsub 1
  | .lmul => len == 1 && eg_dec d pc .lmul 1
  | .land => len == 1 && eg_dec d pc .land 1
  | .lor => len == 1 && eg_dec d pc .lor 1
  | .ldiv => len == 1 && eg_dec d pc .ldiv 1
  | .lrem => len == 1 && eg_dec d pc .lrem 1
  | .lneg => len == 1 && eg_dec d pc .lneg 1
  | .lushr => len == 1 && eg_dec d pc .lushr 1
  | .lshl => len == 1 && eg_dec d pc .lshl 1
  | .lshr => len == 1 && eg_dec d pc .lshr 1
  | .i2l => len == 1 && eg_dec d pc .i2l 1
  | .l2i => len == 1 && eg_dec d pc .l2i 1
  | .i2s => len == 1 && eg_dec d pc .i2s 1
  | .i2d => len == 1 && eg_dec d pc .i2d 1
  | .d2i => len == 1 && eg_dec d pc .d2i 1
  | .lcmp => len == 1 && eg_dec d pc .lcmp 1
  | .dup => len == 1 && eg_dec d pc .dup 1
  | .pop => len == 1 && eg_dec d pc .pop 1
  | .dup2 => len == 1 && eg_dec d pc .dup2 1
  | .arraylength => len == 1 && eg_dec d pc .arraylength 1
  | .iaload => len == 1 && eg_dec d pc .iaload 1
  | .laload => len == 1 && eg_dec d pc .laload 1
  | .baload => len == 1 && eg_dec d pc .baload 1
  | .daload => len == 1 && eg_dec d pc .daload 1
  | .aaload => len == 1 && eg_dec d pc .aaload 1
  | .iastore => len == 1 && eg_dec d pc .iastore 1
  | .lastore => len == 1 && eg_dec d pc .lastore 1
  | .bastore => len == 1 && eg_dec d pc .bastore 1
  | .dastore => len == 1 && eg_dec d pc .dastore 1
  | .aastore => len == 1 && eg_dec d pc .aastore 1
  | .dcmp op => len == 1 && eg_dec d pc (.dcmp op) 1
  | .ifCond c off => len == 3 && eg_dec d pc (.ifCond c off) 3 && decide ((pc : Int) + off = (a : Int))
  | .if_icmp c off => len == 3 && eg_dec d pc (.if_icmp c off) 3 && decide ((pc : Int) + off = (a : Int))
  | .goto off => len == 3 && eg_dec d pc (.goto off) 3 && decide ((pc : Int) + off = (a : Int))
  | .tableswitch df lo hi offs => eg_dec d pc (.tableswitch df lo hi offs) len && decide (lo ≤ hi) && decide ((offs.size : Int) = hi - lo + 1) && decide (0 ≤ (pc : Int) + df) && offs.toList.all (fun o => decide (0 ≤ (pc : Int) + o))
  | .getfield idx => len == 3 && eg_dec d pc (.getfield idx) 3 && decide ((eg_co d, idx, a, b) ∈ eg_FL)
  | .putfield idx => len == 3 && eg_dec d pc (.putfield idx) 3 && decide ((eg_co d, idx, a, b) ∈ eg_FL) && eg_pty (eg_fty a b) && (decide (eg_ffin a b = false) || (decide (eg_ffin a b = true) && decide (eg_st d = 2) && decide (((eg_cl a).2.1 b).1 = (eg_y d).cls)))
  | .putstatic idx => len == 3 && eg_dec d pc (.putfield idx) 3 && decide ((eg_co d, idx, a, b) ∈ eg_FL) && decide (eg_fty a b = .boolean) && decide (eg_ffin a b = false)
  | .getstatic idx => len == 3 && eg_dec d pc (.getstatic idx) 3 && decide (idx = 36) && decide (eg_co d = 2)
  | .newarray t => len == 2 && eg_dec d pc (.newarray t) 2 && decide (a < 4) && decide (eg_at a = t)
  | .anewarray idx => len == 3 && eg_dec d pc (.anewarray idx) 3 && decide (4 ≤ a) && decide (a < 7) && decide ((eg_co d, idx, eg_tci a) ∈ eg_NL)
  | .new idx => len == 3 && eg_dec d pc (.new idx) 3 && decide (a < 13) && decide ((eg_co d, idx, a) ∈ eg_NL) && decide (b = (eg_cl a).2.2)
  | .athrow => len == 3 && eg_dec d pc (.invokespecial a) 3 && decide ((eg_co d, a) ∈ eg_OL) && decide (1 ≤ (eg_rm d).frames) && decide (20 ≤ (eg_rm d).locals)
  | .monitorenter => len == 3 && eg_dec d pc (.invokestatic a) 3 && decide ((eg_co d, a) ∈ eg_AL) && decide (1 ≤ (eg_rm d).frames) && decide (26 ≤ (eg_rm d).locals)
  | .monitorexit => len == 3 && eg_dec d pc (.invokestatic a) 3 && decide ((eg_co d, a) ∈ eg_AL) && decide (1 ≤ (eg_rm d).frames) && decide (26 ≤ (eg_rm d).locals)
  | .ireturn => len == 1 && eg_dec d pc .ireturn 1 && ((decide (b = 0) && decide (eg_rt d = some .int)) || (decide (b = 1) && decide (eg_rt d = some .boolean)))
  | .lreturn => len == 1 && eg_dec d pc .lreturn 1 && decide (eg_rt d = some .long)
  | .return_ => len == 1 && eg_dec d pc .return_ 1 && decide (eg_rt d = none)
  | _ => false
def eg_okC (d : eg_M) (pc kind idx n np c mc ms : Nat) : Bool := decide (n < 202) && decide (eg_np (eg_md n) = np) && decide (eg_co (eg_md n) = c) && decide ((eg_rm (eg_md n)).cells = mc) && decide ((eg_rm (eg_md n)).slots = ms) && decide ((eg_rm (eg_md n)).frames + 1 ≤ (eg_rm d).frames) && decide (8 + (eg_ml (eg_md n) + 11) + (eg_rm (eg_md n)).locals ≤ (eg_rm d).locals) && decide (eg_st (eg_md n) = min kind 2) && (match kind with
  | 0 => decide ((eg_co d, idx, n) ∈ eg_CL) && eg_dec d pc (.invokestatic idx) 3 && decide (mc = 0) && decide (ms = 0)
  | 1 => decide ((eg_co d, idx, n) ∈ eg_CL) && eg_dec d pc (.invokevirtual idx) 3 && decide (mc = 0) && decide (ms = 0) && decide (c < 13)
  | 2 => decide ((eg_co d, idx, n) ∈ eg_CL) && eg_dec d pc (.invokespecial idx) 3 && decide (eg_rt (eg_md n) = none)
  | 3 => decide ((eg_co d, idx, n) ∈ eg_CN) && eg_dec d pc (.invokespecial idx) 3 && decide (eg_rt (eg_md n) = none)
  | _ => false)
def eg_seq (d : eg_M) (pc : Nat) (code : List eg_I) : Bool := match code with
  | [] => true
  | .inl (q, len, ins, a, b) :: r => decide (q = pc) && eg_okI d pc len ins a b && eg_seq d (pc + len) r
  | .inr (q, kind, idx, n, np, c, mc, ms) :: r => decide (q = pc) && eg_okC d pc kind idx n np c mc ms && eg_seq d (pc + 3) r
/-- what an instruction does; N: what comes behind it; K: a jump; Q: the end -/
def eg_stepI (rm : Room) (K : Nat → Nat → Nat → eg_Lo → List Value → List eg_E → Prop) (Q : Option Value → List eg_E → Prop) (N : Nat → Nat → eg_Lo → List Value → List eg_E → Prop) (pc : Nat) (ins : Instr) (a b kc ks : Nat) (loc : eg_Lo) (st : List Value) (h : List eg_E) : Prop := match ins with
  | .nop => K pc kc ks loc st h
  | .iconst z => N kc ks loc (.int (Int32.ofInt z) :: st) h
  | .sipush z => N kc ks loc (.long (Int64.ofInt z) :: st) h
  | .dconst _ => N kc ks loc (.double FP.dconst0 :: st) h
  | .ldc2_w _ => N kc ks loc (.double (UInt64.ofNat a) :: st) h
  | .iload i => (match loc[i]? with | some (some (.int x)) => N kc ks loc (.int x :: st) h | _ => False)
  | .lload i => (match loc[i]? with | some (some (.long x)) => N kc ks loc (.long x :: st) h | _ => False)
  | .dload i => (match loc[i]? with | some (some (.double x)) => N kc ks loc (.double x :: st) h | _ => False)
  | .aload i => (match loc[i]? with | some (some (.ref x)) => N kc ks loc (.ref x :: st) h | _ => False)
  | .istore i => (match st with | .int x :: s => N kc ks (eg_set1 loc i (.int x)) s h | _ => False)
  | .lstore i => (match st with | .long x :: s => N kc ks (eg_set2 loc i (.long x)) s h | _ => False)
  | .dstore i => (match st with | .double x :: s => N kc ks (eg_set2 loc i (.double x)) s h | _ => False)
  | .astore i => (match st with | .ref x :: s => N kc ks (eg_set1 loc i (.ref x)) s h | _ => False)
  | .iinc i z => (match loc[i]? with | some (some (.int x)) => N kc ks (eg_set1 loc i (.int (x + Int32.ofInt z))) st h | _ => False)
  | .iadd => (match st with | .int y :: .int x :: s => N kc ks loc (.int (x + y) :: s) h | _ => False)
  | .isub => (match st with | .int y :: .int x :: s => N kc ks loc (.int (x - y) :: s) h | _ => False)
  | .imul => (match st with | .int y :: .int x :: s => N kc ks loc (.int (x * y) :: s) h | _ => False)
  | .iand => (match st with | .int y :: .int x :: s => N kc ks loc (.int (x &&& y) :: s) h | _ => False)
  | .ior => (match st with | .int y :: .int x :: s => N kc ks loc (.int (x ||| y) :: s) h | _ => False)
  | .ixor => (match st with | .int y :: .int x :: s => N kc ks loc (.int (x ^^^ y) :: s) h | _ => False)
  | .ladd => (match st with | .long y :: .long x :: s => N kc ks loc (.long (x + y) :: s) h | _ => False)
  | .lsub => (match st with | .long y :: .long x :: s => N kc ks loc (.long (x - y) :: s) h | _ => False)
  | .lmul => (match st with | .long y :: .long x :: s => N kc ks loc (.long (x * y) :: s) h | _ => False)
  | .land => (match st with | .long y :: .long x :: s => N kc ks loc (.long (x &&& y) :: s) h | _ => False)
  | .lor => (match st with | .long y :: .long x :: s => N kc ks loc (.long (x ||| y) :: s) h | _ => False)
  | .idiv => (match st with | .int y :: .int x :: s => ¬ y = 0 ∧ N kc ks loc (.int (x / y) :: s) h | _ => False)
  | .irem => (match st with | .int y :: .int x :: s => ¬ y = 0 ∧ N kc ks loc (.int (x - x / y * y) :: s) h | _ => False)
  | .ldiv => (match st with | .long y :: .long x :: s => ¬ y = 0 ∧ N kc ks loc (.long (x / y) :: s) h | _ => False)
  | .lrem => (match st with | .long y :: .long x :: s => ¬ y = 0 ∧ N kc ks loc (.long (x - x / y * y) :: s) h | _ => False)
  | .ineg => (match st with | .int x :: s => N kc ks loc (.int (-x) :: s) h | _ => False)
  | .lneg => (match st with | .long x :: s => N kc ks loc (.long (-x) :: s) h | _ => False)
  | .i2l => (match st with | .int x :: s => N kc ks loc (.long (x.toInt64) :: s) h | _ => False)
  | .l2i => (match st with | .long x :: s => N kc ks loc (.int (x.toInt32) :: s) h | _ => False)
  | .i2s => (match st with | .int x :: s => N kc ks loc (.int (x.toInt16.toInt32) :: s) h | _ => False)
  | .i2d => (match st with | .int x :: s => N kc ks loc (.double (FP.i2d x) :: s) h | _ => False)
  | .d2i => (match st with | .double x :: s => N kc ks loc (.int (FP.d2i x) :: s) h | _ => False)
  | .lushr => (match st with | .int y :: .long x :: s => N kc ks loc (.long ((x.toUInt64 >>> (y.toInt64.toUInt64 &&& Int64.toUInt64 63)).toInt64) :: s) h | _ => False)
  | .lshl => (match st with | .int y :: .long x :: s => N kc ks loc (.long (x <<< (y.toInt64 &&& 63)) :: s) h | _ => False)
  | .lshr => (match st with | .int y :: .long x :: s => N kc ks loc (.long (x >>> (y.toInt64 &&& 63)) :: s) h | _ => False)
  | .lcmp => (match st with | .long y :: .long x :: s => N kc ks loc (.int (lg_cmp x y) :: s) h | _ => False)
  | .dcmp op => (match st with | .double y :: .double x :: s => N kc ks loc (.int (Op.cmpValue (FP.dcmp x y) op) :: s) h | _ => False)
  | .dup => (match st with | .ref x :: s => N kc ks loc (.ref x :: .ref x :: s) h | .int x :: s => N kc ks loc (.int x :: .int x :: s) h | _ => False)
  | .pop => (match st with | .int _ :: s => N kc ks loc s h | .ref _ :: s => N kc ks loc s h | _ => False)
  | .dup2 => (match st with | .int y :: .ref x :: s => N kc ks loc (.int y :: .ref x :: .int y :: .ref x :: s) h | _ => False)
  | .ifCond .eq _ => (match st with | .int x :: s => (x = 0 → K a kc ks loc s h) ∧ (¬ x = 0 → N kc ks loc s h) | _ => False)
  | .ifCond .ne _ => (match st with | .int x :: s => (¬ x = 0 → K a kc ks loc s h) ∧ (x = 0 → N kc ks loc s h) | _ => False)
  | .ifCond .lt _ => (match st with | .int x :: s => (x < 0 → K a kc ks loc s h) ∧ (¬ x < 0 → N kc ks loc s h) | _ => False)
  | .ifCond .ge _ => (match st with | .int x :: s => (0 ≤ x → K a kc ks loc s h) ∧ (¬ 0 ≤ x → N kc ks loc s h) | _ => False)
  | .ifCond .gt _ => (match st with | .int x :: s => (0 < x → K a kc ks loc s h) ∧ (¬ 0 < x → N kc ks loc s h) | _ => False)
  | .ifCond .le _ => (match st with | .int x :: s => (x ≤ 0 → K a kc ks loc s h) ∧ (¬ x ≤ 0 → N kc ks loc s h) | _ => False)
  | .if_icmp .eq _ => (match st with | .int y :: .int x :: s => (x = y → K a kc ks loc s h) ∧ (¬ x = y → N kc ks loc s h) | _ => False)
  | .if_icmp .ne _ => (match st with | .int y :: .int x :: s => (¬ x = y → K a kc ks loc s h) ∧ (x = y → N kc ks loc s h) | _ => False)
  | .if_icmp .lt _ => (match st with | .int y :: .int x :: s => (x < y → K a kc ks loc s h) ∧ (¬ x < y → N kc ks loc s h) | _ => False)
  | .if_icmp .ge _ => (match st with | .int y :: .int x :: s => (y ≤ x → K a kc ks loc s h) ∧ (¬ y ≤ x → N kc ks loc s h) | _ => False)
  | .if_icmp .gt _ => (match st with | .int y :: .int x :: s => (y < x → K a kc ks loc s h) ∧ (¬ y < x → N kc ks loc s h) | _ => False)
  | .if_icmp .le _ => (match st with | .int y :: .int x :: s => (x ≤ y → K a kc ks loc s h) ∧ (¬ x ≤ y → N kc ks loc s h) | _ => False)
  | .goto _ => K a kc ks loc st h
  | .tableswitch df lo hi offs => (match st with | .int x :: s => (x.toInt < lo ∨ hi < x.toInt → K (Int.toNat ((pc : Int) + df)) kc ks loc s h) ∧ (¬ x.toInt < lo → ¬ hi < x.toInt → ∀ off, offs[(x.toInt - lo).toNat]? = some off → K (Int.toNat ((pc : Int) + off)) kc ks loc s h) | _ => False)
  | .getfield _ => (match st with | .ref (n + 1) :: s => (match h[n]? with | some (.inr (ci, fs)) => (match fs[b]? with | some v => ci = a ∧ N kc ks loc (v :: s) h | none => False) | _ => False) | _ => False)
  | .putfield _ => (match st with | v :: .ref (n + 1) :: s => (match h[n]? with | some (.inr (ci, fs)) => ci = a ∧ b < fs.length ∧ eg_fit (eg_fty a b) v = true ∧ N kc ks loc s (h.set n (.inr (ci, fs.set b v))) | _ => False) | _ => False)
  | .putstatic _ => (match st with | .int v :: .ref (n + 1) :: s => (match h[n]? with | some (.inr (ci, fs)) => ci = a ∧ b < fs.length ∧ (v = 0 ∨ v = 1) ∧ N kc ks loc s (h.set n (.inr (ci, fs.set b (.int v)))) | _ => False) | _ => False)
  | .getstatic _ => N kc ks loc (.ref 0 :: st) h
  | .arraylength => (match st with | .ref 0 :: s => N kc ks loc (.int 6 :: s) h | .ref (n + 1) :: s => (match h[n]? with | some (.inl (t, k, _)) => t < 7 ∧ N kc ks loc (.int (Int32.ofNat k) :: s) h | _ => False) | _ => False)
  | .iaload => (match st with | .int i :: .ref 0 :: s => vp_in i 6 ∧ N kc ks loc (.int (eg_under i.toNatClampNeg) :: s) h | .int i :: .ref (n + 1) :: s => (match h[n]? with | some (.inl (0, k, .inl f)) => vp_in i k ∧ N kc ks loc (.int (f i.toNatClampNeg) :: s) h | _ => False) | _ => False)
  | .baload => (match st with | .int i :: .ref (n + 1) :: s => (match h[n]? with | some (.inl (2, k, .inl f)) => vp_in i k ∧ N kc ks loc (.int (f i.toNatClampNeg) :: s) h | _ => False) | _ => False)
  | .laload => (match st with | .int i :: .ref (n + 1) :: s => (match h[n]? with | some (.inl (1, k, .inr (.inl f))) => vp_in i k ∧ N kc ks loc (.long (f i.toNatClampNeg) :: s) h | _ => False) | _ => False)
  | .daload => (match st with | .int i :: .ref (n + 1) :: s => (match h[n]? with | some (.inl (3, k, .inr (.inr (.inr (.inl f))))) => vp_in i k ∧ N kc ks loc (.double (f i.toNatClampNeg) :: s) h | _ => False) | _ => False)
  | .aaload => (match st with | .int i :: .ref (n + 1) :: s => (match h[n]? with | some (.inl (t, k, .inr (.inr (.inr (.inr f))))) => 4 ≤ t ∧ t < 7 ∧ vp_in i k ∧ N kc ks loc (va_rf (f i.toNatClampNeg) :: s) h | _ => False) | _ => False)
  | .iastore => (match st with | .int x :: .int i :: .ref (n + 1) :: s => (match h[n]? with | some (.inl (0, k, .inl f)) => vp_in i k ∧ N kc ks loc s (h.set n (.inl (0, k, .inl (upd f i.toNatClampNeg x)))) | _ => False) | _ => False)
  | .bastore => (match st with | .int x :: .int i :: .ref (n + 1) :: s => (match h[n]? with | some (.inl (2, k, .inl f)) => vp_in i k ∧ N kc ks loc s (h.set n (.inl (2, k, .inl (upd f i.toNatClampNeg (vp_nar .boolean x))))) | _ => False) | _ => False)
  | .lastore => (match st with | .long x :: .int i :: .ref (n + 1) :: s => (match h[n]? with | some (.inl (1, k, .inr (.inl f))) => vp_in i k ∧ N kc ks loc s (h.set n (.inl (1, k, .inr (.inl (vp_updL f i.toNatClampNeg x))))) | _ => False) | _ => False)
  | .dastore => (match st with | .double x :: .int i :: .ref (n + 1) :: s => (match h[n]? with | some (.inl (3, k, .inr (.inr (.inr (.inl f))))) => vp_in i k ∧ N kc ks loc s (h.set n (.inl (3, k, .inr (.inr (.inr (.inl (vf_upd f i.toNatClampNeg x))))))) | _ => False) | _ => False)
  | .aastore => (match st with | .ref (v + 1) :: .int i :: .ref (n + 1) :: s => (match h[n]?, h[v]? with | some (.inl (t, k, .inr (.inr (.inr (.inr f))))), some (.inr (ci, _)) => 4 ≤ t ∧ t < 7 ∧ ci = eg_tci t ∧ vp_in i k ∧ N kc ks loc s (h.set n (.inl (t, k, .inr (.inr (.inr (.inr (va_up f i.toNatClampNeg (some (v + 1))))))))) | _, _ => False) | _ => False)
  | .newarray _ => (match st with | .int n :: s => ¬ n < 0 ∧ n.toNatClampNeg ≤ 1000 ∧ kc + 1 ≤ rm.cells ∧ ks + n.toNatClampNeg ≤ rm.slots ∧ N (kc + 1) (ks + n.toNatClampNeg) loc (.ref (h.length + 1) :: s) (h ++ [.inl (a, eg_zero a n.toNatClampNeg)]) | _ => False)
  | .anewarray _ => (match st with | .int n :: s => ¬ n < 0 ∧ n.toNatClampNeg ≤ 1000 ∧ kc + 1 ≤ rm.cells ∧ ks + n.toNatClampNeg ≤ rm.slots ∧ N (kc + 1) (ks + n.toNatClampNeg) loc (.ref (h.length + 1) :: s) (h ++ [.inl (a, n.toNatClampNeg, .inr (.inr (.inr (.inr (fun _ => none)))))]) | _ => False)
  | .new _ => kc + 1 ≤ rm.cells ∧ ks + b ≤ rm.slots ∧ N (kc + 1) (ks + b) loc (.ref (h.length + 1) :: st) (h ++ [.inr (a, eg_df a)])
  | .athrow => (match st with | .ref (_ + 1) :: s => s.length ≤ 4 ∧ N kc ks loc s h | _ => False)
  | .monitorenter => (match st with | .int k :: .int dp :: .ref (y + 1) :: .int sp :: .ref (x + 1) :: s => (match h[x]?, h[y]? with | some (.inl (0, n0, .inl f)), some (.inl (0, n1, .inl g)) => ¬ sp < 0 ∧ ¬ dp < 0 ∧ ¬ k < 0 ∧ sp.toNatClampNeg + k.toNatClampNeg ≤ n0 ∧ dp.toNatClampNeg + k.toNatClampNeg ≤ n1 ∧ s.length ≤ 4 ∧ N kc ks loc s (h.set y (.inl (0, n1, .inl (va_cpy f g sp.toNatClampNeg dp.toNatClampNeg k.toNatClampNeg)))) | _, _ => False) | _ => False)
  | .monitorexit => (match st with | .int k :: .int dp :: .ref (y + 1) :: .int sp :: .ref (x + 1) :: s => (match h[x]?, h[y]? with | some (.inl (1, n0, .inr (.inl f))), some (.inl (1, n1, .inr (.inl g))) => ¬ sp < 0 ∧ ¬ dp < 0 ∧ ¬ k < 0 ∧ sp.toNatClampNeg + k.toNatClampNeg ≤ n0 ∧ dp.toNatClampNeg + k.toNatClampNeg ≤ n1 ∧ s.length ≤ 4 ∧ N kc ks loc s (h.set y (.inl (1, n1, .inr (.inl (va_cpy f g sp.toNatClampNeg dp.toNatClampNeg k.toNatClampNeg))))) | _, _ => False) | _ => False)
  | .ireturn => (match st with | [.int v] => kc = rm.cells ∧ (b = 1 → v = 0 ∨ v = 1) ∧ Q (some (.int v)) h | _ => False)
  | .lreturn => (match st with | [.long v] => kc = rm.cells ∧ Q (some (.long v)) h | _ => False)
  | .return_ => (match st with | [] => kc = rm.cells ∧ Q none h | _ => False)
  | _ => False
/-- a call: the method runs, and what it may leave goes on -/
def eg_call (rm : Room) (N : Nat → Nat → eg_Lo → List Value → List eg_E → Prop) (kind n np c mc ms kc ks : Nat) (loc : eg_Lo) (st : List Value) (h : List eg_E) : Prop := match kind with
  | 0 => np ≤ st.length ∧ (st.drop np).length ≤ 4 ∧ ∃ P, eg_Runs n (st.take np).reverse h P ∧ ∀ r h', P r h' → N kc ks loc (r.toList ++ st.drop np) h'
  | 1 => np ≤ st.length ∧ (match st.drop np with | .ref (k + 1) :: s => (match h[k]? with | some (.inr (ci, _)) => ci = c ∧ s.length ≤ 4 ∧ ∃ P, eg_Runs n (.ref (k + 1) :: (st.take np).reverse) h P ∧ ∀ r h', P r h' → N kc ks loc (r.toList ++ s) h' | _ => False) | _ => False)
  | _ => np ≤ st.length ∧ (match st.drop np with | .ref (k + 1) :: s => s.length ≤ 4 ∧ kc + mc ≤ rm.cells ∧ ks + ms ≤ rm.slots ∧ ∃ P, eg_Runs n (.ref (k + 1) :: (st.take np).reverse) h P ∧ ∀ r h', P r h' → N (kc + mc) (ks + ms) loc (r.toList ++ s) h' | _ => False)
def wps (rm : Room) (K : Nat → Nat → Nat → eg_Lo → List Value → List eg_E → Prop) (Q : Option Value → List eg_E → Prop) (code : List eg_I) (kc ks : Nat) (loc : eg_Lo) (st : List Value) (h : List eg_E) : Prop := match code with
  | [] => False
  | .inl (pc, _, ins, a, b) :: r => eg_stepI rm K Q (fun kc ks loc st h => wps rm K Q r kc ks loc st h) pc ins a b kc ks loc st h
  | .inr (_, kind, _, n, np, c, mc, ms) :: r => eg_call rm (fun kc ks loc st h => wps rm K Q r kc ks loc st h) kind n np c mc ms kc ks loc st h
/-- what holds all through a method -/
def eg_C (d : eg_M) (p : Program) (s : State) (m : MethodId) (args : Array Value) (meth : Method) (c : Code) (D : va_G) (tc : Nat → ClassId) (u base : Nat) : Prop :=
  p.tables.exec = Jvm.exec ∧ c.code = eg_cc d ∧ meth.sig.returnType = eg_rt d ∧ c.maxLocals = eg_ml d ∧ s.vm.findClass (eg_cn (eg_co d)) = some m.cls ∧ (∀ w ∈ eg_tbl, w.before args s = true) ∧ meth.locks = false ∧ meth.name = (eg_y d).name ∧ va_K D vwCl (eg_tys tc) s ∧ eg_X u base s ∧ eg_N s ∧ base ≤ s.heap.size ∧ eg_mk d = true
def eg_At (d : eg_M) (Z : State → Prop) (p : Program) (l : Launch) (e : Env) (s : State) (m : MethodId) (args : Array Value) (below : List Frame) (meth : Method) (c : Code) (D : va_G) (tc : Nat → ClassId) (u base pc kc ks : Nat) (loc : eg_Lo) (st : List Value) (h : List eg_E) : Prop :=
  ∀ (H : Heap) (locs : List Loc) (ls : Array Slot), va_P D vwCl (eg_w u base tc h) H → base + h.length = s.heap.size + kc → va_S (fun q => base ≤ q) s.heap H locs → eg_L (eg_ad u base) ls (eg_ml d) loc → kc ≤ (eg_rm d).cells → ks ≤ (eg_rm d).slots → W p l e (eg_rm d) s m args below meth c H locs kc ks Z (F0 m pc ls (st.map (eg_v (eg_ad u base))))
/-- from this point of a method on: it ends, with Q -/
def eg_R (d : eg_M) (Q : Option Value → List eg_E → Prop) (n0 pc kc ks : Nat) (loc : eg_Lo) (st : List Value) (h : List eg_E) : Prop :=
  ∀ (Z : State → Prop) (p : Program) (l : Launch) (e : Env) (s : State) (m : MethodId) (args : Array Value) (below : List Frame) (meth : Method) (c : Code) (D : va_G) (tc : Nat → ClassId) (u base : Nat), eg_C d p s m args meth c D tc u base → s.heap.size + (eg_rm d).cells = base + n0 → (∀ t, MQ below (eg_Qc D tc u base n0 Q) args s (eg_rm d).cells (eg_rm d).slots (fun q => base ≤ q) t → Z t) → eg_At d Z p l e s m args below meth c D tc u base pc kc ks loc st h
