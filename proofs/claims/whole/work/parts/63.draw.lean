/-! A DRAW: the bits of a signalling NaN -/
abbrev nCopy : Choice := Choice.named "NaN.copy"
theorem dr_l2dS {p : Program} {e : Env} {below : List Frame} {s target : State} {g : JFrame} {c : Code} {m : MethodId} {k : Class} {meth : Method} {ig : Instr} {len : Nat} (h : At s g.method c below) (acts : List Action)
    (N : NativeOf s.vm m k meth "java/lang/Double" "longBitsToDouble" "(J)D" true [.long]) (v : Int64)
    (hroom : e.platform.stackFull (((s.setTop g).threads[(s.setTop g).cur]?).getD { frames := [] }) (s.setTop g).frames (nativeFrameWords "java/lang/Double" "longBitsToDouble" 2) = false)
    (hv : (v.toUInt64 &&& 0x7fffffffffffffff > 0x7ff0000000000000 && v.toUInt64 &&& 0x0008000000000000 == 0) = true)
    (hdg : decode c.code g.pc = .ok (ig, len))
    (hrest : Steps p.tables e below ((s.setDrawn (s.drawn.next nCopy)).setTop { g with pc := g.pc + len, stack := .double (if e.choices nCopy (s.drawn.count nCopy) % 2 == 0 then v.toUInt64 else v.toUInt64 ||| 0x0008000000000000) :: g.stack }) target) :
    Steps p.tables e below (doInvoke e (s.setTop g) acts m #[.long v]).1 target := by
  have hseen : seenByNative meth #[.long v] = #[.long v] := by simp [seenByNative, N.static, N.sig, narrow]
  refine Steps.nativeEnds (row := Native.java_lang_Float.bits.rowLongBitsToDouble) (v := some (.double (if e.choices nCopy (s.drawn.count nCopy) % 2 == 0 then v.toUInt64 else v.toUInt64 ||| 0x0008000000000000))) (T := fun z => z.setDrawn (s.drawn.next nCopy)) h acts N.cls N.meth N.boot N.native N.noCode N.noLock
    (by rw [N.className, N.name, N.desc]; exact longBitsToDouble_row p) (by rw [N.className, N.name]; exact hroom) (fun _ => rfl) rfl (fun _ => h.code) ?_ hdg hrest
  intro Q hq
  rw [hseen] at hq ⊢
  rw [Native.java_lang_Float.bits.longBitsToDouble_on]
  simp only [hv, if_true]
  exact hq true []
