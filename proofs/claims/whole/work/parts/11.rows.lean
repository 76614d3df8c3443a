/-! ONE ROW AN INSTRUCTION, over FromOK: from here on the method comes to its end with that answer and those stores -/
def retI (rk : Nat) (ins : Instr) (v : Vl) : Prop := match rk with
  | 0 => ins = .return_
  | 1 => ins = .ireturn ∧ ∃ x, v = vI x
  | 2 => ins = .lreturn ∧ ∃ x, v = vL x
  | 3 => ins = .freturn ∧ ∃ x, v = vF x
  | 4 => ins = .dreturn ∧ ∃ x, v = vD x
  | 5 => ins = .areturn ∧ ∃ x, v = vR x
  | _ => ins = .ireturn ∧ (v = vI 0 ∨ v = vI 1)
def rst (rk : Nat) (v : Value) : List Value := match rk with
  | 0 => []
  | _ => [v]
def FromOK (mr : MR) (pc : Nat) (lv : Lv) (st : List Vl) (I : IM) (F : FM) (r : Rs) : Prop :=
  ∀ (g : GG) (p : Program) (l : Launch) (e : Env) (R : Room) (s : State) (m : MethodId) (args : Array Value) (below : List Frame) (meth : Method) (c : Code) (H : Heap) (locs : List Loc) (cells slots : Nat) (A : Nat → Prop) (Q : State → Prop) (ls : Array Slot),
    CallFix p m c mr.2.1 mr.2.2.1 s args lw_gd mr.1.cls → NstOK s →
    va_K g.1 vwCl (tyG g) s → va_P g.1 vwCl (wsL PL R0 g I F) H → va_D A (wsL PL R0 g I F) → va_S A s.heap H locs →
    lv_has ls mr.2.2.1 (mvl g lv) → okLv lv → okS st →
    mr.2.2.2.2.2.1 ≤ R.frames → mr.2.2.2.2.2.2 ≤ R.locals → cells ≤ R.cells → slots ≤ R.slots →
    (∀ (H' : Heap) (locs' : List Loc) (ls' : Array Slot) (pc' : Nat) (ins : Instr), va_P g.1 vwCl (wsL PL R0 g r.2.1 r.2.2) H' → va_S A s.heap H' locs' → okV PL r.1 → decode mr.2.1 pc' = .ok (ins, 1) → retI mr.2.2.2.2.1 ins r.1 →
      W p l e R s m args below meth c H' locs' cells slots Q (F0 m pc' ls' (rst mr.2.2.2.2.1 (mv g r.1)))) →
    W p l e R s m args below meth c H locs cells slots Q (F0 m pc ls (st.map (mv g)))
section ZR
variable {mr : MR} {pc : Nat} {lv : Lv} {st : List Vl} {I : IM} {F : FM} {r : Rs}
theorem S_iadd {y : Int32} {x : Int32} (hd : decode mr.2.1 pc = .ok (.iadd, 1)) (k : FromOK mr (pc + 1) lv (vI (x + y) :: st) I F r) : FromOK mr pc lv (vI y :: vI x :: st) I F r := by
  intro g p l e R s m args below meth c H locs cells slots A Q ls S hN hK hP hD hS hl hV hs hfr hlo hce hsl hend
  exact lv_iadd S.1 S.2.1 hd (k g p l e R s m args below meth c H locs cells slots A Q ls S hN hK hP hD hS hl hV (okS_cons trivial (okS_tl (okS_tl hs))) hfr hlo hce hsl hend)
theorem S_isub {y : Int32} {x : Int32} (hd : decode mr.2.1 pc = .ok (.isub, 1)) (k : FromOK mr (pc + 1) lv (vI (x - y) :: st) I F r) : FromOK mr pc lv (vI y :: vI x :: st) I F r := by
  intro g p l e R s m args below meth c H locs cells slots A Q ls S hN hK hP hD hS hl hV hs hfr hlo hce hsl hend
  exact lv_isub S.1 S.2.1 hd (k g p l e R s m args below meth c H locs cells slots A Q ls S hN hK hP hD hS hl hV (okS_cons trivial (okS_tl (okS_tl hs))) hfr hlo hce hsl hend)
theorem S_imul {y : Int32} {x : Int32} (hd : decode mr.2.1 pc = .ok (.imul, 1)) (k : FromOK mr (pc + 1) lv (vI (x * y) :: st) I F r) : FromOK mr pc lv (vI y :: vI x :: st) I F r := by
  intro g p l e R s m args below meth c H locs cells slots A Q ls S hN hK hP hD hS hl hV hs hfr hlo hce hsl hend
  exact lv_imul S.1 S.2.1 hd (k g p l e R s m args below meth c H locs cells slots A Q ls S hN hK hP hD hS hl hV (okS_cons trivial (okS_tl (okS_tl hs))) hfr hlo hce hsl hend)
theorem S_iand {y : Int32} {x : Int32} (hd : decode mr.2.1 pc = .ok (.iand, 1)) (k : FromOK mr (pc + 1) lv (vI (x &&& y) :: st) I F r) : FromOK mr pc lv (vI y :: vI x :: st) I F r := by
  intro g p l e R s m args below meth c H locs cells slots A Q ls S hN hK hP hD hS hl hV hs hfr hlo hce hsl hend
  exact lv_iand S.1 S.2.1 hd (k g p l e R s m args below meth c H locs cells slots A Q ls S hN hK hP hD hS hl hV (okS_cons trivial (okS_tl (okS_tl hs))) hfr hlo hce hsl hend)
theorem S_ior {y : Int32} {x : Int32} (hd : decode mr.2.1 pc = .ok (.ior, 1)) (k : FromOK mr (pc + 1) lv (vI (x ||| y) :: st) I F r) : FromOK mr pc lv (vI y :: vI x :: st) I F r := by
  intro g p l e R s m args below meth c H locs cells slots A Q ls S hN hK hP hD hS hl hV hs hfr hlo hce hsl hend
  exact lv_ior S.1 S.2.1 hd (k g p l e R s m args below meth c H locs cells slots A Q ls S hN hK hP hD hS hl hV (okS_cons trivial (okS_tl (okS_tl hs))) hfr hlo hce hsl hend)
theorem S_ixor {y : Int32} {x : Int32} (hd : decode mr.2.1 pc = .ok (.ixor, 1)) (k : FromOK mr (pc + 1) lv (vI (x ^^^ y) :: st) I F r) : FromOK mr pc lv (vI y :: vI x :: st) I F r := by
  intro g p l e R s m args below meth c H locs cells slots A Q ls S hN hK hP hD hS hl hV hs hfr hlo hce hsl hend
  exact lv_ixor S.1 S.2.1 hd (k g p l e R s m args below meth c H locs cells slots A Q ls S hN hK hP hD hS hl hV (okS_cons trivial (okS_tl (okS_tl hs))) hfr hlo hce hsl hend)
theorem S_ishl {y : Int32} {x : Int32} (hd : decode mr.2.1 pc = .ok (.ishl, 1)) (k : FromOK mr (pc + 1) lv (vI (x <<< (y &&& 31)) :: st) I F r) : FromOK mr pc lv (vI y :: vI x :: st) I F r := by
  intro g p l e R s m args below meth c H locs cells slots A Q ls S hN hK hP hD hS hl hV hs hfr hlo hce hsl hend
  exact lv_ishl S.1 S.2.1 hd (k g p l e R s m args below meth c H locs cells slots A Q ls S hN hK hP hD hS hl hV (okS_cons trivial (okS_tl (okS_tl hs))) hfr hlo hce hsl hend)
theorem S_ishr {y : Int32} {x : Int32} (hd : decode mr.2.1 pc = .ok (.ishr, 1)) (k : FromOK mr (pc + 1) lv (vI (x >>> (y &&& 31)) :: st) I F r) : FromOK mr pc lv (vI y :: vI x :: st) I F r := by
  intro g p l e R s m args below meth c H locs cells slots A Q ls S hN hK hP hD hS hl hV hs hfr hlo hce hsl hend
  exact lv_ishr S.1 S.2.1 hd (k g p l e R s m args below meth c H locs cells slots A Q ls S hN hK hP hD hS hl hV (okS_cons trivial (okS_tl (okS_tl hs))) hfr hlo hce hsl hend)
theorem S_iushr {y : Int32} {x : Int32} (hd : decode mr.2.1 pc = .ok (.iushr, 1)) (k : FromOK mr (pc + 1) lv (vI ((x.toUInt32 >>> (y.toUInt32 &&& Int32.toUInt32 31)).toInt32) :: st) I F r) : FromOK mr pc lv (vI y :: vI x :: st) I F r := by
  intro g p l e R s m args below meth c H locs cells slots A Q ls S hN hK hP hD hS hl hV hs hfr hlo hce hsl hend
  exact lv_iushr S.1 S.2.1 hd rfl (k g p l e R s m args below meth c H locs cells slots A Q ls S hN hK hP hD hS hl hV (okS_cons trivial (okS_tl (okS_tl hs))) hfr hlo hce hsl hend)
theorem S_irem {y : Int32} {x : Int32} (hd : decode mr.2.1 pc = .ok (.irem, 1)) (hne : ¬ y = 0) (k : FromOK mr (pc + 1) lv (vI (x - x / y * y) :: st) I F r) : FromOK mr pc lv (vI y :: vI x :: st) I F r := by
  intro g p l e R s m args below meth c H locs cells slots A Q ls S hN hK hP hD hS hl hV hs hfr hlo hce hsl hend
  exact lv_irem S.1 S.2.1 hd hne (k g p l e R s m args below meth c H locs cells slots A Q ls S hN hK hP hD hS hl hV (okS_cons trivial (okS_tl (okS_tl hs))) hfr hlo hce hsl hend)
theorem S_ineg {x : Int32} (hd : decode mr.2.1 pc = .ok (.ineg, 1)) (k : FromOK mr (pc + 1) lv (vI (-x) :: st) I F r) : FromOK mr pc lv (vI x :: st) I F r := by
  intro g p l e R s m args below meth c H locs cells slots A Q ls S hN hK hP hD hS hl hV hs hfr hlo hce hsl hend
  exact lv_ineg S.1 S.2.1 hd (k g p l e R s m args below meth c H locs cells slots A Q ls S hN hK hP hD hS hl hV (okS_cons trivial (okS_tl hs)) hfr hlo hce hsl hend)
theorem S_ladd {y : Int64} {x : Int64} (hd : decode mr.2.1 pc = .ok (.ladd, 1)) (k : FromOK mr (pc + 1) lv (vL (x + y) :: st) I F r) : FromOK mr pc lv (vL y :: vL x :: st) I F r := by
  intro g p l e R s m args below meth c H locs cells slots A Q ls S hN hK hP hD hS hl hV hs hfr hlo hce hsl hend
  exact lv_ladd S.1 S.2.1 hd (k g p l e R s m args below meth c H locs cells slots A Q ls S hN hK hP hD hS hl hV (okS_cons trivial (okS_tl (okS_tl hs))) hfr hlo hce hsl hend)
theorem S_lsub {y : Int64} {x : Int64} (hd : decode mr.2.1 pc = .ok (.lsub, 1)) (k : FromOK mr (pc + 1) lv (vL (x - y) :: st) I F r) : FromOK mr pc lv (vL y :: vL x :: st) I F r := by
  intro g p l e R s m args below meth c H locs cells slots A Q ls S hN hK hP hD hS hl hV hs hfr hlo hce hsl hend
  exact lv_lsub S.1 S.2.1 hd (k g p l e R s m args below meth c H locs cells slots A Q ls S hN hK hP hD hS hl hV (okS_cons trivial (okS_tl (okS_tl hs))) hfr hlo hce hsl hend)
theorem S_lor {y : Int64} {x : Int64} (hd : decode mr.2.1 pc = .ok (.lor, 1)) (k : FromOK mr (pc + 1) lv (vL (x ||| y) :: st) I F r) : FromOK mr pc lv (vL y :: vL x :: st) I F r := by
  intro g p l e R s m args below meth c H locs cells slots A Q ls S hN hK hP hD hS hl hV hs hfr hlo hce hsl hend
  exact lv_lor S.1 S.2.1 hd (k g p l e R s m args below meth c H locs cells slots A Q ls S hN hK hP hD hS hl hV (okS_cons trivial (okS_tl (okS_tl hs))) hfr hlo hce hsl hend)
theorem S_lshl {y : Int32} {x : Int64} (hd : decode mr.2.1 pc = .ok (.lshl, 1)) (k : FromOK mr (pc + 1) lv (vL (x <<< (y.toInt64 &&& 63)) :: st) I F r) : FromOK mr pc lv (vI y :: vL x :: st) I F r := by
  intro g p l e R s m args below meth c H locs cells slots A Q ls S hN hK hP hD hS hl hV hs hfr hlo hce hsl hend
  exact lv_lshl S.1 S.2.1 hd rfl (k g p l e R s m args below meth c H locs cells slots A Q ls S hN hK hP hD hS hl hV (okS_cons trivial (okS_tl (okS_tl hs))) hfr hlo hce hsl hend)
theorem S_lcmp {y : Int64} {x : Int64} (hd : decode mr.2.1 pc = .ok (.lcmp, 1)) (k : FromOK mr (pc + 1) lv (vI (lg_cmp x y) :: st) I F r) : FromOK mr pc lv (vL y :: vL x :: st) I F r := by
  intro g p l e R s m args below meth c H locs cells slots A Q ls S hN hK hP hD hS hl hV hs hfr hlo hce hsl hend
  exact W.lcmp S.1 S.2.1 hd (k g p l e R s m args below meth c H locs cells slots A Q ls S hN hK hP hD hS hl hV (okS_cons trivial (okS_tl (okS_tl hs))) hfr hlo hce hsl hend)
theorem S_i2l {x : Int32} (hd : decode mr.2.1 pc = .ok (.i2l, 1)) (k : FromOK mr (pc + 1) lv (vL (x.toInt64) :: st) I F r) : FromOK mr pc lv (vI x :: st) I F r := by
  intro g p l e R s m args below meth c H locs cells slots A Q ls S hN hK hP hD hS hl hV hs hfr hlo hce hsl hend
  exact lv_i2l S.1 S.2.1 hd rfl (k g p l e R s m args below meth c H locs cells slots A Q ls S hN hK hP hD hS hl hV (okS_cons trivial (okS_tl hs)) hfr hlo hce hsl hend)
theorem S_i2f {x : Int32} (hd : decode mr.2.1 pc = .ok (.i2f, 1)) (k : FromOK mr (pc + 1) lv (vF (FP.i2f x) :: st) I F r) : FromOK mr pc lv (vI x :: st) I F r := by
  intro g p l e R s m args below meth c H locs cells slots A Q ls S hN hK hP hD hS hl hV hs hfr hlo hce hsl hend
  exact lv_i2f S.1 S.2.1 hd (k g p l e R s m args below meth c H locs cells slots A Q ls S hN hK hP hD hS hl hV (okS_cons trivial (okS_tl hs)) hfr hlo hce hsl hend)
theorem S_i2d {x : Int32} (hd : decode mr.2.1 pc = .ok (.i2d, 1)) (k : FromOK mr (pc + 1) lv (vD (FP.i2d x) :: st) I F r) : FromOK mr pc lv (vI x :: st) I F r := by
  intro g p l e R s m args below meth c H locs cells slots A Q ls S hN hK hP hD hS hl hV hs hfr hlo hce hsl hend
  exact lv_i2d S.1 S.2.1 hd (k g p l e R s m args below meth c H locs cells slots A Q ls S hN hK hP hD hS hl hV (okS_cons trivial (okS_tl hs)) hfr hlo hce hsl hend)
theorem S_f2i {x : UInt32} (hd : decode mr.2.1 pc = .ok (.f2i, 1)) (k : FromOK mr (pc + 1) lv (vI (FP.f2i x) :: st) I F r) : FromOK mr pc lv (vF x :: st) I F r := by
  intro g p l e R s m args below meth c H locs cells slots A Q ls S hN hK hP hD hS hl hV hs hfr hlo hce hsl hend
  exact lv_f2i S.1 S.2.1 hd (k g p l e R s m args below meth c H locs cells slots A Q ls S hN hK hP hD hS hl hV (okS_cons trivial (okS_tl hs)) hfr hlo hce hsl hend)
theorem S_d2l {x : UInt64} (hd : decode mr.2.1 pc = .ok (.d2l, 1)) (k : FromOK mr (pc + 1) lv (vL (FP.d2l x) :: st) I F r) : FromOK mr pc lv (vD x :: st) I F r := by
  intro g p l e R s m args below meth c H locs cells slots A Q ls S hN hK hP hD hS hl hV hs hfr hlo hce hsl hend
  exact lv_d2l S.1 S.2.1 hd (k g p l e R s m args below meth c H locs cells slots A Q ls S hN hK hP hD hS hl hV (okS_cons trivial (okS_tl hs)) hfr hlo hce hsl hend)
theorem S_dneg {x : UInt64} (hd : decode mr.2.1 pc = .ok (.dneg, 1)) (k : FromOK mr (pc + 1) lv (vD (FP.dneg x) :: st) I F r) : FromOK mr pc lv (vD x :: st) I F r := by
  intro g p l e R s m args below meth c H locs cells slots A Q ls S hN hK hP hD hS hl hV hs hfr hlo hce hsl hend
  exact lv_dneg S.1 S.2.1 hd (k g p l e R s m args below meth c H locs cells slots A Q ls S hN hK hP hD hS hl hV (okS_cons trivial (okS_tl hs)) hfr hlo hce hsl hend)
theorem S_fadd {y : UInt32} {x : UInt32} (hd : decode mr.2.1 pc = .ok (.fadd, 1)) (hne : FP.fadd x y &&& 0x7fffffff ≤ 0x7f800000) (k : FromOK mr (pc + 1) lv (vF (FP.fadd x y) :: st) I F r) : FromOK mr pc lv (vF y :: vF x :: st) I F r := by
  intro g p l e R s m args below meth c H locs cells slots A Q ls S hN hK hP hD hS hl hV hs hfr hlo hce hsl hend
  exact lv_fadd S.1 S.2.1 hd hne (k g p l e R s m args below meth c H locs cells slots A Q ls S hN hK hP hD hS hl hV (okS_cons trivial (okS_tl (okS_tl hs))) hfr hlo hce hsl hend)
theorem S_fmul {y : UInt32} {x : UInt32} (hd : decode mr.2.1 pc = .ok (.fmul, 1)) (hne : FP.fmul x y &&& 0x7fffffff ≤ 0x7f800000) (k : FromOK mr (pc + 1) lv (vF (FP.fmul x y) :: st) I F r) : FromOK mr pc lv (vF y :: vF x :: st) I F r := by
  intro g p l e R s m args below meth c H locs cells slots A Q ls S hN hK hP hD hS hl hV hs hfr hlo hce hsl hend
  exact lv_fmul S.1 S.2.1 hd hne (k g p l e R s m args below meth c H locs cells slots A Q ls S hN hK hP hD hS hl hV (okS_cons trivial (okS_tl (okS_tl hs))) hfr hlo hce hsl hend)
theorem S_fdiv {y : UInt32} {x : UInt32} (hd : decode mr.2.1 pc = .ok (.fdiv, 1)) (hne : FP.fdiv x y &&& 0x7fffffff ≤ 0x7f800000) (k : FromOK mr (pc + 1) lv (vF (FP.fdiv x y) :: st) I F r) : FromOK mr pc lv (vF y :: vF x :: st) I F r := by
  intro g p l e R s m args below meth c H locs cells slots A Q ls S hN hK hP hD hS hl hV hs hfr hlo hce hsl hend
  exact lv_fdiv S.1 S.2.1 hd hne (k g p l e R s m args below meth c H locs cells slots A Q ls S hN hK hP hD hS hl hV (okS_cons trivial (okS_tl (okS_tl hs))) hfr hlo hce hsl hend)
theorem S_dadd {y : UInt64} {x : UInt64} (hd : decode mr.2.1 pc = .ok (.dadd, 1)) (hne : FP.dadd x y &&& 0x7fffffffffffffff ≤ 0x7ff0000000000000) (k : FromOK mr (pc + 1) lv (vD (FP.dadd x y) :: st) I F r) : FromOK mr pc lv (vD y :: vD x :: st) I F r := by
  intro g p l e R s m args below meth c H locs cells slots A Q ls S hN hK hP hD hS hl hV hs hfr hlo hce hsl hend
  exact lv_dadd S.1 S.2.1 hd hne (k g p l e R s m args below meth c H locs cells slots A Q ls S hN hK hP hD hS hl hV (okS_cons trivial (okS_tl (okS_tl hs))) hfr hlo hce hsl hend)
theorem S_dmul {y : UInt64} {x : UInt64} (hd : decode mr.2.1 pc = .ok (.dmul, 1)) (hne : FP.dmul x y &&& 0x7fffffffffffffff ≤ 0x7ff0000000000000) (k : FromOK mr (pc + 1) lv (vD (FP.dmul x y) :: st) I F r) : FromOK mr pc lv (vD y :: vD x :: st) I F r := by
  intro g p l e R s m args below meth c H locs cells slots A Q ls S hN hK hP hD hS hl hV hs hfr hlo hce hsl hend
  exact lv_dmul S.1 S.2.1 hd hne (k g p l e R s m args below meth c H locs cells slots A Q ls S hN hK hP hD hS hl hV (okS_cons trivial (okS_tl (okS_tl hs))) hfr hlo hce hsl hend)
theorem S_ddiv {y : UInt64} {x : UInt64} (hd : decode mr.2.1 pc = .ok (.ddiv, 1)) (hne : FP.ddiv x y &&& 0x7fffffffffffffff ≤ 0x7ff0000000000000) (k : FromOK mr (pc + 1) lv (vD (FP.ddiv x y) :: st) I F r) : FromOK mr pc lv (vD y :: vD x :: st) I F r := by
  intro g p l e R s m args below meth c H locs cells slots A Q ls S hN hK hP hD hS hl hV hs hfr hlo hce hsl hend
  exact lv_ddiv S.1 S.2.1 hd hne (k g p l e R s m args below meth c H locs cells slots A Q ls S hN hK hP hD hS hl hV (okS_cons trivial (okS_tl (okS_tl hs))) hfr hlo hce hsl hend)
theorem S_fcmp {op : CmpOp} {y : UInt32} {x : UInt32} (hd : decode mr.2.1 pc = .ok (.fcmp op, 1)) (k : FromOK mr (pc + 1) lv (vI (Op.cmpValue (FP.fcmp x y) op) :: st) I F r) : FromOK mr pc lv (vF y :: vF x :: st) I F r := by
  intro g p l e R s m args below meth c H locs cells slots A Q ls S hN hK hP hD hS hl hV hs hfr hlo hce hsl hend
  exact lv_fcmp S.1 S.2.1 hd (k g p l e R s m args below meth c H locs cells slots A Q ls S hN hK hP hD hS hl hV (okS_cons trivial (okS_tl (okS_tl hs))) hfr hlo hce hsl hend)
theorem S_dcmp {op : CmpOp} {y : UInt64} {x : UInt64} (hd : decode mr.2.1 pc = .ok (.dcmp op, 1)) (k : FromOK mr (pc + 1) lv (vI (Op.cmpValue (FP.dcmp x y) op) :: st) I F r) : FromOK mr pc lv (vD y :: vD x :: st) I F r := by
  intro g p l e R s m args below meth c H locs cells slots A Q ls S hN hK hP hD hS hl hV hs hfr hlo hce hsl hend
  exact lv_dcmp S.1 S.2.1 hd (k g p l e R s m args below meth c H locs cells slots A Q ls S hN hK hP hD hS hl hV (okS_cons trivial (okS_tl (okS_tl hs))) hfr hlo hce hsl hend)
theorem S_iconst {n : Int} (hd : decode mr.2.1 pc = .ok (.iconst n, 1)) (hv : Int32.ofInt n = ci n) (k : FromOK mr (pc + 1) lv (vI (ci n) :: st) I F r) : FromOK mr pc lv (st) I F r := by
  intro g p l e R s m args below meth c H locs cells slots A Q ls S hN hK hP hD hS hl hV hs hfr hlo hce hsl hend
  exact lv_iconst S.1 S.2.1 hd hv (k g p l e R s m args below meth c H locs cells slots A Q ls S hN hK hP hD hS hl hV (okS_cons trivial hs) hfr hlo hce hsl hend)
theorem S_bipush {n : Int} (hd : decode mr.2.1 pc = .ok (.bipush n, 2)) (hv : (Int8.ofInt n).toInt32 = ci n) (k : FromOK mr (pc + 2) lv (vI (ci n) :: st) I F r) : FromOK mr pc lv (st) I F r := by
  intro g p l e R s m args below meth c H locs cells slots A Q ls S hN hK hP hD hS hl hV hs hfr hlo hce hsl hend
  exact lv_bipush S.1 S.2.1 hd hv (k g p l e R s m args below meth c H locs cells slots A Q ls S hN hK hP hD hS hl hV (okS_cons trivial hs) hfr hlo hce hsl hend)
theorem S_sipush {n : Int} (hd : decode mr.2.1 pc = .ok (.sipush n, 3)) (hv : (Int16.ofInt n).toInt32 = ci n) (k : FromOK mr (pc + 3) lv (vI (ci n) :: st) I F r) : FromOK mr pc lv (st) I F r := by
  intro g p l e R s m args below meth c H locs cells slots A Q ls S hN hK hP hD hS hl hV hs hfr hlo hce hsl hend
  exact lv_sipush S.1 S.2.1 hd hv (k g p l e R s m args below meth c H locs cells slots A Q ls S hN hK hP hD hS hl hV (okS_cons trivial hs) hfr hlo hce hsl hend)
theorem S_lconst {n : Fin 2} (hd : decode mr.2.1 pc = .ok (.lconst n, 1)) (k : FromOK mr (pc + 1) lv (vL (Int64.ofNat n.val) :: st) I F r) : FromOK mr pc lv (st) I F r := by
  intro g p l e R s m args below meth c H locs cells slots A Q ls S hN hK hP hD hS hl hV hs hfr hlo hce hsl hend
  exact lv_lconst S.1 S.2.1 hd rfl (k g p l e R s m args below meth c H locs cells slots A Q ls S hN hK hP hD hS hl hV (okS_cons trivial hs) hfr hlo hce hsl hend)
theorem S_fconst0 (hd : decode mr.2.1 pc = .ok (.fconst 0, 1)) (k : FromOK mr (pc + 1) lv (vF (FP.fconst0) :: st) I F r) : FromOK mr pc lv (st) I F r := by
  intro g p l e R s m args below meth c H locs cells slots A Q ls S hN hK hP hD hS hl hV hs hfr hlo hce hsl hend
  exact lv_fconst0 S.1 S.2.1 hd (k g p l e R s m args below meth c H locs cells slots A Q ls S hN hK hP hD hS hl hV (okS_cons trivial hs) hfr hlo hce hsl hend)
theorem S_fconst1 (hd : decode mr.2.1 pc = .ok (.fconst 1, 1)) (k : FromOK mr (pc + 1) lv (vF (FP.fconst1) :: st) I F r) : FromOK mr pc lv (st) I F r := by
  intro g p l e R s m args below meth c H locs cells slots A Q ls S hN hK hP hD hS hl hV hs hfr hlo hce hsl hend
  exact lv_fconst1 S.1 S.2.1 hd (k g p l e R s m args below meth c H locs cells slots A Q ls S hN hK hP hD hS hl hV (okS_cons trivial hs) hfr hlo hce hsl hend)
theorem S_fconst2 (hd : decode mr.2.1 pc = .ok (.fconst 2, 1)) (k : FromOK mr (pc + 1) lv (vF (FP.fconst2) :: st) I F r) : FromOK mr pc lv (st) I F r := by
  intro g p l e R s m args below meth c H locs cells slots A Q ls S hN hK hP hD hS hl hV hs hfr hlo hce hsl hend
  exact lv_fconst2 S.1 S.2.1 hd (k g p l e R s m args below meth c H locs cells slots A Q ls S hN hK hP hD hS hl hV (okS_cons trivial hs) hfr hlo hce hsl hend)
theorem S_dconst0 (hd : decode mr.2.1 pc = .ok (.dconst 0, 1)) (k : FromOK mr (pc + 1) lv (vD (FP.dconst0) :: st) I F r) : FromOK mr pc lv (st) I F r := by
  intro g p l e R s m args below meth c H locs cells slots A Q ls S hN hK hP hD hS hl hV hs hfr hlo hce hsl hend
  exact lv_dconst0 S.1 S.2.1 hd (k g p l e R s m args below meth c H locs cells slots A Q ls S hN hK hP hD hS hl hV (okS_cons trivial hs) hfr hlo hce hsl hend)
theorem S_dconst1 (hd : decode mr.2.1 pc = .ok (.dconst 1, 1)) (k : FromOK mr (pc + 1) lv (vD (FP.dconst1) :: st) I F r) : FromOK mr pc lv (st) I F r := by
  intro g p l e R s m args below meth c H locs cells slots A Q ls S hN hK hP hD hS hl hV hs hfr hlo hce hsl hend
  exact lv_dconst1 S.1 S.2.1 hd (k g p l e R s m args below meth c H locs cells slots A Q ls S hN hK hP hD hS hl hV (okS_cons trivial hs) hfr hlo hce hsl hend)
theorem S_ldcI {idx : Nat} {z : Int} (hd : decode mr.2.1 pc = .ok (.ldc idx, 2)) (hw : Cond.constant mr.1.cls idx (ci z) ∈ lw_gd) (k : FromOK mr (pc + 2) lv (vI (ci z) :: st) I F r) : FromOK mr pc lv st I F r := by
  intro g p l e R s m args below meth c H locs cells slots A Q ls S hN hK hP hD hS hl hV hs hfr hlo hce hsl hend
  exact lv_ldc S.1 S.2.1 S.2.2.2.1 (S.2.2.2.2 _ hw) hd (k g p l e R s m args below meth c H locs cells slots A Q ls S hN hK hP hD hS hl hV (okS_cons trivial hs) hfr hlo hce hsl hend)
theorem S_ldcF {idx : Nat} {z : Int} (hd : decode mr.2.1 pc = .ok (.ldc idx, 2)) (hw : Cond.constantFloat mr.1.cls idx (UInt32.ofNat z.toNat) ∈ lw_gd) (k : FromOK mr (pc + 2) lv (vF (UInt32.ofNat z.toNat) :: st) I F r) : FromOK mr pc lv st I F r := by
  intro g p l e R s m args below meth c H locs cells slots A Q ls S hN hK hP hD hS hl hV hs hfr hlo hce hsl hend
  exact lv_ldcf S.1 S.2.1 S.2.2.2.1 (S.2.2.2.2 _ hw) hd (k g p l e R s m args below meth c H locs cells slots A Q ls S hN hK hP hD hS hl hV (okS_cons trivial hs) hfr hlo hce hsl hend)
theorem S_ldcw {idx : Nat} {z : Int} (hd : decode mr.2.1 pc = .ok (.ldc_w idx, 3)) (hw : Cond.constant mr.1.cls idx (ci z) ∈ lw_gd) (k : FromOK mr (pc + 3) lv (vI (ci z) :: st) I F r) : FromOK mr pc lv st I F r := by
  intro g p l e R s m args below meth c H locs cells slots A Q ls S hN hK hP hD hS hl hV hs hfr hlo hce hsl hend
  exact lv_ldcw S.1 S.2.1 S.2.2.2.1 (S.2.2.2.2 _ hw) hd (k g p l e R s m args below meth c H locs cells slots A Q ls S hN hK hP hD hS hl hV (okS_cons trivial hs) hfr hlo hce hsl hend)
theorem S_ldc2L {idx : Nat} {z : Int} (hd : decode mr.2.1 pc = .ok (.ldc2_w idx, 3)) (hw : Cond.constantLong mr.1.cls idx (cl z) ∈ lw_gd) (k : FromOK mr (pc + 3) lv (vL (cl z) :: st) I F r) : FromOK mr pc lv st I F r := by
  intro g p l e R s m args below meth c H locs cells slots A Q ls S hN hK hP hD hS hl hV hs hfr hlo hce hsl hend
  exact lv_ldc2 S.1 S.2.1 S.2.2.2.1 (S.2.2.2.2 _ hw) hd (k g p l e R s m args below meth c H locs cells slots A Q ls S hN hK hP hD hS hl hV (okS_cons trivial hs) hfr hlo hce hsl hend)
theorem S_ldc2D {idx : Nat} {z : Int} (hd : decode mr.2.1 pc = .ok (.ldc2_w idx, 3)) (hw : Cond.constantDouble mr.1.cls idx (UInt64.ofNat z.toNat) ∈ lw_gd) (k : FromOK mr (pc + 3) lv (vD (UInt64.ofNat z.toNat) :: st) I F r) : FromOK mr pc lv st I F r := by
  intro g p l e R s m args below meth c H locs cells slots A Q ls S hN hK hP hD hS hl hV hs hfr hlo hce hsl hend
  exact lv_ldc2d S.1 S.2.1 S.2.2.2.1 (S.2.2.2.2 _ hw) hd (k g p l e R s m args below meth c H locs cells slots A Q ls S hN hK hP hD hS hl hV (okS_cons trivial hs) hfr hlo hce hsl hend)
theorem S_iload_n {j : Fin 4} {x : Int32} (hd : decode mr.2.1 pc = .ok (.iload_n j, 1)) (hx : lk lv j.val = some (vI x)) (k : FromOK mr (pc + 1) lv (vI x :: st) I F r) : FromOK mr pc lv st I F r := by
  intro g p l e R s m args below meth c H locs cells slots A Q ls S hN hK hP hD hS hl hV hs hfr hlo hce hsl hend
  exact lv_iload_n S.1 S.2.1 hd rfl (lk_ls hl hx) (k g p l e R s m args below meth c H locs cells slots A Q ls S hN hK hP hD hS hl hV (okS_cons trivial hs) hfr hlo hce hsl hend)
theorem S_iload {j : Nat} {x : Int32} (hd : decode mr.2.1 pc = .ok (.iload j, 2)) (hx : lk lv j = some (vI x)) (k : FromOK mr (pc + 2) lv (vI x :: st) I F r) : FromOK mr pc lv st I F r := by
  intro g p l e R s m args below meth c H locs cells slots A Q ls S hN hK hP hD hS hl hV hs hfr hlo hce hsl hend
  exact lv_iload S.1 S.2.1 hd (lk_ls hl hx) (k g p l e R s m args below meth c H locs cells slots A Q ls S hN hK hP hD hS hl hV (okS_cons trivial hs) hfr hlo hce hsl hend)
theorem S_lload_n {j : Fin 4} {x : Int64} (hd : decode mr.2.1 pc = .ok (.lload_n j, 1)) (hx : lk lv j.val = some (vL x)) (k : FromOK mr (pc + 1) lv (vL x :: st) I F r) : FromOK mr pc lv st I F r := by
  intro g p l e R s m args below meth c H locs cells slots A Q ls S hN hK hP hD hS hl hV hs hfr hlo hce hsl hend
  exact lv_lload_n S.1 S.2.1 hd rfl (lk_ls hl hx) (k g p l e R s m args below meth c H locs cells slots A Q ls S hN hK hP hD hS hl hV (okS_cons trivial hs) hfr hlo hce hsl hend)
theorem S_lload {j : Nat} {x : Int64} (hd : decode mr.2.1 pc = .ok (.lload j, 2)) (hx : lk lv j = some (vL x)) (k : FromOK mr (pc + 2) lv (vL x :: st) I F r) : FromOK mr pc lv st I F r := by
  intro g p l e R s m args below meth c H locs cells slots A Q ls S hN hK hP hD hS hl hV hs hfr hlo hce hsl hend
  exact lv_lload S.1 S.2.1 hd (lk_ls hl hx) (k g p l e R s m args below meth c H locs cells slots A Q ls S hN hK hP hD hS hl hV (okS_cons trivial hs) hfr hlo hce hsl hend)
theorem S_fload_n {j : Fin 4} {x : UInt32} (hd : decode mr.2.1 pc = .ok (.fload_n j, 1)) (hx : lk lv j.val = some (vF x)) (k : FromOK mr (pc + 1) lv (vF x :: st) I F r) : FromOK mr pc lv st I F r := by
  intro g p l e R s m args below meth c H locs cells slots A Q ls S hN hK hP hD hS hl hV hs hfr hlo hce hsl hend
  exact lv_fload_n S.1 S.2.1 hd rfl (lk_ls hl hx) (k g p l e R s m args below meth c H locs cells slots A Q ls S hN hK hP hD hS hl hV (okS_cons trivial hs) hfr hlo hce hsl hend)
theorem S_fload {j : Nat} {x : UInt32} (hd : decode mr.2.1 pc = .ok (.fload j, 2)) (hx : lk lv j = some (vF x)) (k : FromOK mr (pc + 2) lv (vF x :: st) I F r) : FromOK mr pc lv st I F r := by
  intro g p l e R s m args below meth c H locs cells slots A Q ls S hN hK hP hD hS hl hV hs hfr hlo hce hsl hend
  exact lv_fload S.1 S.2.1 hd (lk_ls hl hx) (k g p l e R s m args below meth c H locs cells slots A Q ls S hN hK hP hD hS hl hV (okS_cons trivial hs) hfr hlo hce hsl hend)
theorem S_dload_n {j : Fin 4} {x : UInt64} (hd : decode mr.2.1 pc = .ok (.dload_n j, 1)) (hx : lk lv j.val = some (vD x)) (k : FromOK mr (pc + 1) lv (vD x :: st) I F r) : FromOK mr pc lv st I F r := by
  intro g p l e R s m args below meth c H locs cells slots A Q ls S hN hK hP hD hS hl hV hs hfr hlo hce hsl hend
  exact lv_dload_n S.1 S.2.1 hd rfl (lk_ls hl hx) (k g p l e R s m args below meth c H locs cells slots A Q ls S hN hK hP hD hS hl hV (okS_cons trivial hs) hfr hlo hce hsl hend)
theorem S_dload {j : Nat} {x : UInt64} (hd : decode mr.2.1 pc = .ok (.dload j, 2)) (hx : lk lv j = some (vD x)) (k : FromOK mr (pc + 2) lv (vD x :: st) I F r) : FromOK mr pc lv st I F r := by
  intro g p l e R s m args below meth c H locs cells slots A Q ls S hN hK hP hD hS hl hV hs hfr hlo hce hsl hend
  exact lv_dload S.1 S.2.1 hd (lk_ls hl hx) (k g p l e R s m args below meth c H locs cells slots A Q ls S hN hK hP hD hS hl hV (okS_cons trivial hs) hfr hlo hce hsl hend)
theorem S_aload_n {j : Fin 4} {x : Option (Nat × Nat)} (hd : decode mr.2.1 pc = .ok (.aload_n j, 1)) (hx : lk lv j.val = some (vR x)) (k : FromOK mr (pc + 1) lv (vR x :: st) I F r) : FromOK mr pc lv st I F r := by
  intro g p l e R s m args below meth c H locs cells slots A Q ls S hN hK hP hD hS hl hV hs hfr hlo hce hsl hend
  cases x with
  | none => exact lv_aload_nN S.1 S.2.1 hd rfl (lk_ls hl hx) (k g p l e R s m args below meth c H locs cells slots A Q ls S hN hK hP hD hS hl hV (okS_cons (okLv_lk hV hx) hs) hfr hlo hce hsl hend)
  | some q => exact lv_aload_n S.1 S.2.1 hd rfl (lk_ls hl hx) (k g p l e R s m args below meth c H locs cells slots A Q ls S hN hK hP hD hS hl hV (okS_cons (okLv_lk hV hx) hs) hfr hlo hce hsl hend)
theorem S_aload {j : Nat} {x : Option (Nat × Nat)} (hd : decode mr.2.1 pc = .ok (.aload j, 2)) (hx : lk lv j = some (vR x)) (k : FromOK mr (pc + 2) lv (vR x :: st) I F r) : FromOK mr pc lv st I F r := by
  intro g p l e R s m args below meth c H locs cells slots A Q ls S hN hK hP hD hS hl hV hs hfr hlo hce hsl hend
  cases x with
  | none => exact lv_aloadN S.1 S.2.1 hd (lk_ls hl hx) (k g p l e R s m args below meth c H locs cells slots A Q ls S hN hK hP hD hS hl hV (okS_cons (okLv_lk hV hx) hs) hfr hlo hce hsl hend)
  | some q => exact lv_aload S.1 S.2.1 hd (lk_ls hl hx) (k g p l e R s m args below meth c H locs cells slots A Q ls S hN hK hP hD hS hl hV (okS_cons (okLv_lk hV hx) hs) hfr hlo hce hsl hend)
theorem S_istore_n {j : Fin 4} {x : Int32} (hd : decode mr.2.1 pc = .ok (.istore_n j, 1)) (hj : j.val < mr.2.2.1) (k : FromOK mr (pc + 1) ((j.val, vI x) :: d1 j.val lv) st I F r) : FromOK mr pc lv (vI x :: st) I F r := by
  intro g p l e R s m args below meth c H locs cells slots A Q ls S hN hK hP hD hS hl hV hs hfr hlo hce hsl hend
  exact lv_istore_n (lv' := mvl g ((j.val, vI x) :: d1 j.val lv)) S.1 S.2.1 hd rfl hl hj (by rw [d1_map]; rfl) (fun ls hl => (k g p l e R s m args below meth c H locs cells slots A Q ls S hN hK hP hD hS hl (okLv_cons trivial (okLv_d1 hV)) (okS_tl hs) hfr hlo hce hsl hend))
theorem S_istore {j : Nat} {x : Int32} (hd : decode mr.2.1 pc = .ok (.istore j, 2)) (hj : j < mr.2.2.1) (k : FromOK mr (pc + 2) ((j, vI x) :: d1 j lv) st I F r) : FromOK mr pc lv (vI x :: st) I F r := by
  intro g p l e R s m args below meth c H locs cells slots A Q ls S hN hK hP hD hS hl hV hs hfr hlo hce hsl hend
  exact lv_istore (lv' := mvl g ((j, vI x) :: d1 j lv)) S.1 S.2.1 hd hl hj (by rw [d1_map]; rfl) (fun ls hl => (k g p l e R s m args below meth c H locs cells slots A Q ls S hN hK hP hD hS hl (okLv_cons trivial (okLv_d1 hV)) (okS_tl hs) hfr hlo hce hsl hend))
theorem S_fstore_n {j : Fin 4} {x : UInt32} (hd : decode mr.2.1 pc = .ok (.fstore_n j, 1)) (hj : j.val < mr.2.2.1) (k : FromOK mr (pc + 1) ((j.val, vF x) :: d1 j.val lv) st I F r) : FromOK mr pc lv (vF x :: st) I F r := by
  intro g p l e R s m args below meth c H locs cells slots A Q ls S hN hK hP hD hS hl hV hs hfr hlo hce hsl hend
  exact lv_fstore_n (lv' := mvl g ((j.val, vF x) :: d1 j.val lv)) S.1 S.2.1 hd rfl hl hj (by rw [d1_map]; rfl) (fun ls hl => (k g p l e R s m args below meth c H locs cells slots A Q ls S hN hK hP hD hS hl (okLv_cons trivial (okLv_d1 hV)) (okS_tl hs) hfr hlo hce hsl hend))
theorem S_fstore {j : Nat} {x : UInt32} (hd : decode mr.2.1 pc = .ok (.fstore j, 2)) (hj : j < mr.2.2.1) (k : FromOK mr (pc + 2) ((j, vF x) :: d1 j lv) st I F r) : FromOK mr pc lv (vF x :: st) I F r := by
  intro g p l e R s m args below meth c H locs cells slots A Q ls S hN hK hP hD hS hl hV hs hfr hlo hce hsl hend
  exact lv_fstore (lv' := mvl g ((j, vF x) :: d1 j lv)) S.1 S.2.1 hd hl hj (by rw [d1_map]; rfl) (fun ls hl => (k g p l e R s m args below meth c H locs cells slots A Q ls S hN hK hP hD hS hl (okLv_cons trivial (okLv_d1 hV)) (okS_tl hs) hfr hlo hce hsl hend))
theorem S_lstore_n {j : Fin 4} {x : Int64} (hd : decode mr.2.1 pc = .ok (.lstore_n j, 1)) (hj : j.val + 1 < mr.2.2.1) (k : FromOK mr (pc + 1) ((j.val, vL x) :: d2 j.val lv) st I F r) : FromOK mr pc lv (vL x :: st) I F r := by
  intro g p l e R s m args below meth c H locs cells slots A Q ls S hN hK hP hD hS hl hV hs hfr hlo hce hsl hend
  exact lv_lstore_n (lv' := mvl g ((j.val, vL x) :: d2 j.val lv)) S.1 S.2.1 hd rfl hl hj (by rw [d2_map]; rfl) (fun ls hl => (k g p l e R s m args below meth c H locs cells slots A Q ls S hN hK hP hD hS hl (okLv_cons trivial (okLv_d2 hV)) (okS_tl hs) hfr hlo hce hsl hend))
theorem S_lstore {j : Nat} {x : Int64} (hd : decode mr.2.1 pc = .ok (.lstore j, 2)) (hj : j + 1 < mr.2.2.1) (k : FromOK mr (pc + 2) ((j, vL x) :: d2 j lv) st I F r) : FromOK mr pc lv (vL x :: st) I F r := by
  intro g p l e R s m args below meth c H locs cells slots A Q ls S hN hK hP hD hS hl hV hs hfr hlo hce hsl hend
  exact lv_lstore (lv' := mvl g ((j, vL x) :: d2 j lv)) S.1 S.2.1 hd hl hj (by rw [d2_map]; rfl) (fun ls hl => (k g p l e R s m args below meth c H locs cells slots A Q ls S hN hK hP hD hS hl (okLv_cons trivial (okLv_d2 hV)) (okS_tl hs) hfr hlo hce hsl hend))
theorem S_dstore_n {j : Fin 4} {x : UInt64} (hd : decode mr.2.1 pc = .ok (.dstore_n j, 1)) (hj : j.val + 1 < mr.2.2.1) (k : FromOK mr (pc + 1) ((j.val, vD x) :: d2 j.val lv) st I F r) : FromOK mr pc lv (vD x :: st) I F r := by
  intro g p l e R s m args below meth c H locs cells slots A Q ls S hN hK hP hD hS hl hV hs hfr hlo hce hsl hend
  exact lv_dstore_n (lv' := mvl g ((j.val, vD x) :: d2 j.val lv)) S.1 S.2.1 hd rfl hl hj (by rw [d2_map]; rfl) (fun ls hl => (k g p l e R s m args below meth c H locs cells slots A Q ls S hN hK hP hD hS hl (okLv_cons trivial (okLv_d2 hV)) (okS_tl hs) hfr hlo hce hsl hend))
theorem S_dstore {j : Nat} {x : UInt64} (hd : decode mr.2.1 pc = .ok (.dstore j, 2)) (hj : j + 1 < mr.2.2.1) (k : FromOK mr (pc + 2) ((j, vD x) :: d2 j lv) st I F r) : FromOK mr pc lv (vD x :: st) I F r := by
  intro g p l e R s m args below meth c H locs cells slots A Q ls S hN hK hP hD hS hl hV hs hfr hlo hce hsl hend
  exact lv_dstore (lv' := mvl g ((j, vD x) :: d2 j lv)) S.1 S.2.1 hd hl hj (by rw [d2_map]; rfl) (fun ls hl => (k g p l e R s m args below meth c H locs cells slots A Q ls S hN hK hP hD hS hl (okLv_cons trivial (okLv_d2 hV)) (okS_tl hs) hfr hlo hce hsl hend))
theorem S_astore_n {j : Fin 4} {x : Option (Nat × Nat)} (hd : decode mr.2.1 pc = .ok (.astore_n j, 1)) (hj : j.val < mr.2.2.1) (k : FromOK mr (pc + 1) ((j.val, vR x) :: d1 j.val lv) st I F r) : FromOK mr pc lv (vR x :: st) I F r := by
  intro g p l e R s m args below meth c H locs cells slots A Q ls S hN hK hP hD hS hl hV hs hfr hlo hce hsl hend
  cases x with
  | none => exact lv_astore_nN (lv' := mvl g ((j.val, vR none) :: d1 j.val lv)) S.1 S.2.1 hd rfl hl hj (by rw [d1_map]; rfl) (fun ls hl => (k g p l e R s m args below meth c H locs cells slots A Q ls S hN hK hP hD hS hl (okLv_cons (okS_hd hs) (okLv_d1 hV)) (okS_tl hs) hfr hlo hce hsl hend))
  | some q => exact lv_astore_n (lv' := mvl g ((j.val, vR (some q)) :: d1 j.val lv)) S.1 S.2.1 hd rfl hl hj (by rw [d1_map]; rfl) (fun ls hl => (k g p l e R s m args below meth c H locs cells slots A Q ls S hN hK hP hD hS hl (okLv_cons (okS_hd hs) (okLv_d1 hV)) (okS_tl hs) hfr hlo hce hsl hend))
theorem S_astore {j : Nat} {x : Option (Nat × Nat)} (hd : decode mr.2.1 pc = .ok (.astore j, 2)) (hj : j < mr.2.2.1) (k : FromOK mr (pc + 2) ((j, vR x) :: d1 j lv) st I F r) : FromOK mr pc lv (vR x :: st) I F r := by
  intro g p l e R s m args below meth c H locs cells slots A Q ls S hN hK hP hD hS hl hV hs hfr hlo hce hsl hend
  cases x with
  | none => exact lv_astoreN (lv' := mvl g ((j, vR none) :: d1 j lv)) S.1 S.2.1 hd hl hj (by rw [d1_map]; rfl) (fun ls hl => (k g p l e R s m args below meth c H locs cells slots A Q ls S hN hK hP hD hS hl (okLv_cons (okS_hd hs) (okLv_d1 hV)) (okS_tl hs) hfr hlo hce hsl hend))
  | some q => exact lv_astore (lv' := mvl g ((j, vR (some q)) :: d1 j lv)) S.1 S.2.1 hd hl hj (by rw [d1_map]; rfl) (fun ls hl => (k g p l e R s m args below meth c H locs cells slots A Q ls S hN hK hP hD hS hl (okLv_cons (okS_hd hs) (okLv_d1 hV)) (okS_tl hs) hfr hlo hce hsl hend))
theorem S_iinc {j : Nat} {n : Int} {x : Int32} (hd : decode mr.2.1 pc = .ok (.iinc j n, 3)) (hx : lk lv j = some (vI x)) (hv : Int32.ofInt n = ci n) (hj : j < mr.2.2.1) (k : FromOK mr (pc + 3) ((j, vI (x + ci n)) :: d1 j lv) st I F r) : FromOK mr pc lv st I F r := by
  intro g p l e R s m args below meth c H locs cells slots A Q ls S hN hK hP hD hS hl hV hs hfr hlo hce hsl hend
  obtain ⟨i, hi⟩ := List.getElem?_of_mem (List.mem_map.mpr ⟨(j, vI x), lk_mem hx, rfl⟩ : (j, mv g (vI x)) ∈ mvl g lv)
  exact lv_iinc (lv' := mvl g ((j, vI (x + ci n)) :: d1 j lv)) (v := x + ci n) (x := x) S.1 S.2.1 hd hl hi (by rw [hv]) hj (by rw [d1_map]; rfl) (fun ls hl => (k g p l e R s m args below meth c H locs cells slots A Q ls S hN hK hP hD hS hl (okLv_cons trivial (okLv_d1 hV)) hs hfr hlo hce hsl hend))
theorem S_null (hd : decode mr.2.1 pc = .ok (.aconst_null, 1)) (k : FromOK mr (pc + 1) lv (vR none :: st) I F r) : FromOK mr pc lv st I F r := by
  intro g p l e R s m args below meth c H locs cells slots A Q ls S hN hK hP hD hS hl hV hs hfr hlo hce hsl hend
  exact lv_null S.1 S.2.1 hd (k g p l e R s m args below meth c H locs cells slots A Q ls S hN hK hP hD hS hl hV (okS_cons trivial hs) hfr hlo hce hsl hend)
theorem mv_cat {g : GG} {v : Vl} (h : c2 v = false) : (mv g v).category = 1 := by
  rcases v with x | x | x | x | q
  · rfl
  · cases h
  · rfl
  · cases h
  · cases q <;> rfl
theorem S_dup {v : Vl} (hd : decode mr.2.1 pc = .ok (.dup, 1)) (hc : c2 v = false) (k : FromOK mr (pc + 1) lv (v :: v :: st) I F r) : FromOK mr pc lv (v :: st) I F r := by
  intro g p l e R s m args below meth c H locs cells slots A Q ls S hN hK hP hD hS hl hV hs hfr hlo hce hsl hend
  exact lv_dup S.1 S.2.1 hd (mv_cat hc) (k g p l e R s m args below meth c H locs cells slots A Q ls S hN hK hP hD hS hl hV (okS_cons (okS_hd hs) hs) hfr hlo hce hsl hend)
theorem S_dup2 {v u : Vl} (hd : decode mr.2.1 pc = .ok (.dup2, 1)) (hc : c2 v = false) (hc2 : c2 u = false) (k : FromOK mr (pc + 1) lv (v :: u :: v :: u :: st) I F r) : FromOK mr pc lv (v :: u :: st) I F r := by
  intro g p l e R s m args below meth c H locs cells slots A Q ls S hN hK hP hD hS hl hV hs hfr hlo hce hsl hend
  exact lv_dup2_11 S.1 S.2.1 hd (mv_cat hc) (mv_cat hc2) (k g p l e R s m args below meth c H locs cells slots A Q ls S hN hK hP hD hS hl hV (okS_cons (okS_hd hs) (okS_cons (okS_hd (okS_tl hs)) hs)) hfr hlo hce hsl hend)
theorem S_pop {v : Vl} (hd : decode mr.2.1 pc = .ok (.pop, 1)) (hc : c2 v = false) (k : FromOK mr (pc + 1) lv st I F r) : FromOK mr pc lv (v :: st) I F r := by
  intro g p l e R s m args below meth c H locs cells slots A Q ls S hN hK hP hD hS hl hV hs hfr hlo hce hsl hend
  exact lv_pop S.1 S.2.1 hd (mv_cat hc) (k g p l e R s m args below meth c H locs cells slots A Q ls S hN hK hP hD hS hl hV (okS_tl hs) hfr hlo hce hsl hend)
theorem S_goto {off : Int} {t : Nat} (hd : decode mr.2.1 pc = .ok (.goto off, 3)) (ht : (pc : Int) + off = (t : Int)) (k : FromOK mr t lv st I F r) : FromOK mr pc lv st I F r := by
  intro g p l e R s m args below meth c H locs cells slots A Q ls S hN hK hP hD hS hl hV hs hfr hlo hce hsl hend
  exact lv_goto S.1 S.2.1 hd ht (k g p l e R s m args below meth c H locs cells slots A Q ls S hN hK hP hD hS hl hV hs hfr hlo hce hsl hend)
theorem S_if_eq {off : Int} {t : Nat} {x : Int32} (hd : decode mr.2.1 pc = .ok (.ifCond .eq off, 3)) (ht : (pc : Int) + off = (t : Int)) (ka : x = 0 → FromOK mr t lv st I F r) (kb : ¬ x = 0 → FromOK mr (pc + 3) lv st I F r) : FromOK mr pc lv (vI x :: st) I F r := by
  intro g p l e R s m args below meth c H locs cells slots A Q ls S hN hK hP hD hS hl hV hs hfr hlo hce hsl hend
  exact lv_if_eq S.1 S.2.1 hd ht (fun h => (ka h g p l e R s m args below meth c H locs cells slots A Q ls S hN hK hP hD hS hl hV (okS_tl hs) hfr hlo hce hsl hend)) (fun h => (kb h g p l e R s m args below meth c H locs cells slots A Q ls S hN hK hP hD hS hl hV (okS_tl hs) hfr hlo hce hsl hend))
theorem S_if_ne {off : Int} {t : Nat} {x : Int32} (hd : decode mr.2.1 pc = .ok (.ifCond .ne off, 3)) (ht : (pc : Int) + off = (t : Int)) (ka : ¬ x = 0 → FromOK mr t lv st I F r) (kb : x = 0 → FromOK mr (pc + 3) lv st I F r) : FromOK mr pc lv (vI x :: st) I F r := by
  intro g p l e R s m args below meth c H locs cells slots A Q ls S hN hK hP hD hS hl hV hs hfr hlo hce hsl hend
  exact lv_if_ne S.1 S.2.1 hd ht (fun h => (ka h g p l e R s m args below meth c H locs cells slots A Q ls S hN hK hP hD hS hl hV (okS_tl hs) hfr hlo hce hsl hend)) (fun h => (kb h g p l e R s m args below meth c H locs cells slots A Q ls S hN hK hP hD hS hl hV (okS_tl hs) hfr hlo hce hsl hend))
theorem S_if_lt {off : Int} {t : Nat} {x : Int32} (hd : decode mr.2.1 pc = .ok (.ifCond .lt off, 3)) (ht : (pc : Int) + off = (t : Int)) (ka : x < 0 → FromOK mr t lv st I F r) (kb : ¬ x < 0 → FromOK mr (pc + 3) lv st I F r) : FromOK mr pc lv (vI x :: st) I F r := by
  intro g p l e R s m args below meth c H locs cells slots A Q ls S hN hK hP hD hS hl hV hs hfr hlo hce hsl hend
  exact lv_if_lt S.1 S.2.1 hd ht (fun h => (ka h g p l e R s m args below meth c H locs cells slots A Q ls S hN hK hP hD hS hl hV (okS_tl hs) hfr hlo hce hsl hend)) (fun h => (kb h g p l e R s m args below meth c H locs cells slots A Q ls S hN hK hP hD hS hl hV (okS_tl hs) hfr hlo hce hsl hend))
theorem S_if_ge {off : Int} {t : Nat} {x : Int32} (hd : decode mr.2.1 pc = .ok (.ifCond .ge off, 3)) (ht : (pc : Int) + off = (t : Int)) (ka : 0 ≤ x → FromOK mr t lv st I F r) (kb : ¬ 0 ≤ x → FromOK mr (pc + 3) lv st I F r) : FromOK mr pc lv (vI x :: st) I F r := by
  intro g p l e R s m args below meth c H locs cells slots A Q ls S hN hK hP hD hS hl hV hs hfr hlo hce hsl hend
  exact lv_if_ge S.1 S.2.1 hd ht (fun h => (ka h g p l e R s m args below meth c H locs cells slots A Q ls S hN hK hP hD hS hl hV (okS_tl hs) hfr hlo hce hsl hend)) (fun h => (kb h g p l e R s m args below meth c H locs cells slots A Q ls S hN hK hP hD hS hl hV (okS_tl hs) hfr hlo hce hsl hend))
theorem S_if_gt {off : Int} {t : Nat} {x : Int32} (hd : decode mr.2.1 pc = .ok (.ifCond .gt off, 3)) (ht : (pc : Int) + off = (t : Int)) (ka : 0 < x → FromOK mr t lv st I F r) (kb : ¬ 0 < x → FromOK mr (pc + 3) lv st I F r) : FromOK mr pc lv (vI x :: st) I F r := by
  intro g p l e R s m args below meth c H locs cells slots A Q ls S hN hK hP hD hS hl hV hs hfr hlo hce hsl hend
  exact lv_if_gt S.1 S.2.1 hd ht (fun h => (ka h g p l e R s m args below meth c H locs cells slots A Q ls S hN hK hP hD hS hl hV (okS_tl hs) hfr hlo hce hsl hend)) (fun h => (kb h g p l e R s m args below meth c H locs cells slots A Q ls S hN hK hP hD hS hl hV (okS_tl hs) hfr hlo hce hsl hend))
theorem S_if_le {off : Int} {t : Nat} {x : Int32} (hd : decode mr.2.1 pc = .ok (.ifCond .le off, 3)) (ht : (pc : Int) + off = (t : Int)) (ka : x ≤ 0 → FromOK mr t lv st I F r) (kb : ¬ x ≤ 0 → FromOK mr (pc + 3) lv st I F r) : FromOK mr pc lv (vI x :: st) I F r := by
  intro g p l e R s m args below meth c H locs cells slots A Q ls S hN hK hP hD hS hl hV hs hfr hlo hce hsl hend
  exact lv_if_le S.1 S.2.1 hd ht (fun h => (ka h g p l e R s m args below meth c H locs cells slots A Q ls S hN hK hP hD hS hl hV (okS_tl hs) hfr hlo hce hsl hend)) (fun h => (kb h g p l e R s m args below meth c H locs cells slots A Q ls S hN hK hP hD hS hl hV (okS_tl hs) hfr hlo hce hsl hend))
theorem S_icmp_eq {off : Int} {t : Nat} {x y : Int32} (hd : decode mr.2.1 pc = .ok (.if_icmp .eq off, 3)) (ht : (pc : Int) + off = (t : Int)) (ka : x = y → FromOK mr t lv st I F r) (kb : ¬ x = y → FromOK mr (pc + 3) lv st I F r) : FromOK mr pc lv (vI y :: vI x :: st) I F r := by
  intro g p l e R s m args below meth c H locs cells slots A Q ls S hN hK hP hD hS hl hV hs hfr hlo hce hsl hend
  exact lv_icmp_eq S.1 S.2.1 hd ht (fun h => (ka h g p l e R s m args below meth c H locs cells slots A Q ls S hN hK hP hD hS hl hV (okS_tl (okS_tl hs)) hfr hlo hce hsl hend)) (fun h => (kb h g p l e R s m args below meth c H locs cells slots A Q ls S hN hK hP hD hS hl hV (okS_tl (okS_tl hs)) hfr hlo hce hsl hend))
theorem S_icmp_ne {off : Int} {t : Nat} {x y : Int32} (hd : decode mr.2.1 pc = .ok (.if_icmp .ne off, 3)) (ht : (pc : Int) + off = (t : Int)) (ka : ¬ x = y → FromOK mr t lv st I F r) (kb : x = y → FromOK mr (pc + 3) lv st I F r) : FromOK mr pc lv (vI y :: vI x :: st) I F r := by
  intro g p l e R s m args below meth c H locs cells slots A Q ls S hN hK hP hD hS hl hV hs hfr hlo hce hsl hend
  exact lv_icmp_ne S.1 S.2.1 hd ht (fun h => (ka h g p l e R s m args below meth c H locs cells slots A Q ls S hN hK hP hD hS hl hV (okS_tl (okS_tl hs)) hfr hlo hce hsl hend)) (fun h => (kb h g p l e R s m args below meth c H locs cells slots A Q ls S hN hK hP hD hS hl hV (okS_tl (okS_tl hs)) hfr hlo hce hsl hend))
theorem S_icmp_lt {off : Int} {t : Nat} {x y : Int32} (hd : decode mr.2.1 pc = .ok (.if_icmp .lt off, 3)) (ht : (pc : Int) + off = (t : Int)) (ka : x < y → FromOK mr t lv st I F r) (kb : ¬ x < y → FromOK mr (pc + 3) lv st I F r) : FromOK mr pc lv (vI y :: vI x :: st) I F r := by
  intro g p l e R s m args below meth c H locs cells slots A Q ls S hN hK hP hD hS hl hV hs hfr hlo hce hsl hend
  exact lv_icmp_lt S.1 S.2.1 hd ht (fun h => (ka h g p l e R s m args below meth c H locs cells slots A Q ls S hN hK hP hD hS hl hV (okS_tl (okS_tl hs)) hfr hlo hce hsl hend)) (fun h => (kb h g p l e R s m args below meth c H locs cells slots A Q ls S hN hK hP hD hS hl hV (okS_tl (okS_tl hs)) hfr hlo hce hsl hend))
theorem S_icmp_ge {off : Int} {t : Nat} {x y : Int32} (hd : decode mr.2.1 pc = .ok (.if_icmp .ge off, 3)) (ht : (pc : Int) + off = (t : Int)) (ka : y ≤ x → FromOK mr t lv st I F r) (kb : ¬ y ≤ x → FromOK mr (pc + 3) lv st I F r) : FromOK mr pc lv (vI y :: vI x :: st) I F r := by
  intro g p l e R s m args below meth c H locs cells slots A Q ls S hN hK hP hD hS hl hV hs hfr hlo hce hsl hend
  exact lv_icmp_ge S.1 S.2.1 hd ht (fun h => (ka h g p l e R s m args below meth c H locs cells slots A Q ls S hN hK hP hD hS hl hV (okS_tl (okS_tl hs)) hfr hlo hce hsl hend)) (fun h => (kb h g p l e R s m args below meth c H locs cells slots A Q ls S hN hK hP hD hS hl hV (okS_tl (okS_tl hs)) hfr hlo hce hsl hend))
theorem S_icmp_gt {off : Int} {t : Nat} {x y : Int32} (hd : decode mr.2.1 pc = .ok (.if_icmp .gt off, 3)) (ht : (pc : Int) + off = (t : Int)) (ka : y < x → FromOK mr t lv st I F r) (kb : ¬ y < x → FromOK mr (pc + 3) lv st I F r) : FromOK mr pc lv (vI y :: vI x :: st) I F r := by
  intro g p l e R s m args below meth c H locs cells slots A Q ls S hN hK hP hD hS hl hV hs hfr hlo hce hsl hend
  exact lv_icmp_gt S.1 S.2.1 hd ht (fun h => (ka h g p l e R s m args below meth c H locs cells slots A Q ls S hN hK hP hD hS hl hV (okS_tl (okS_tl hs)) hfr hlo hce hsl hend)) (fun h => (kb h g p l e R s m args below meth c H locs cells slots A Q ls S hN hK hP hD hS hl hV (okS_tl (okS_tl hs)) hfr hlo hce hsl hend))
theorem S_icmp_le {off : Int} {t : Nat} {x y : Int32} (hd : decode mr.2.1 pc = .ok (.if_icmp .le off, 3)) (ht : (pc : Int) + off = (t : Int)) (ka : x ≤ y → FromOK mr t lv st I F r) (kb : ¬ x ≤ y → FromOK mr (pc + 3) lv st I F r) : FromOK mr pc lv (vI y :: vI x :: st) I F r := by
  intro g p l e R s m args below meth c H locs cells slots A Q ls S hN hK hP hD hS hl hV hs hfr hlo hce hsl hend
  exact lv_icmp_le S.1 S.2.1 hd ht (fun h => (ka h g p l e R s m args below meth c H locs cells slots A Q ls S hN hK hP hD hS hl hV (okS_tl (okS_tl hs)) hfr hlo hce hsl hend)) (fun h => (kb h g p l e R s m args below meth c H locs cells slots A Q ls S hN hK hP hD hS hl hV (okS_tl (okS_tl hs)) hfr hlo hce hsl hend))
theorem S_ifnullN {off : Int} {t : Nat} (hd : decode mr.2.1 pc = .ok (.ifnull off, 3)) (ht : (pc : Int) + off = (t : Int)) (k : FromOK mr t lv st I F r) : FromOK mr pc lv (vR none :: st) I F r := by
  intro g p l e R s m args below meth c H locs cells slots A Q ls S hN hK hP hD hS hl hV hs hfr hlo hce hsl hend
  exact lv_ifnullN S.1 S.2.1 hd ht (k g p l e R s m args below meth c H locs cells slots A Q ls S hN hK hP hD hS hl hV (okS_tl hs) hfr hlo hce hsl hend)
theorem S_ifnull {off : Int} {q : Nat × Nat} (hd : decode mr.2.1 pc = .ok (.ifnull off, 3)) (k : FromOK mr (pc + 3) lv st I F r) : FromOK mr pc lv (vR (some q) :: st) I F r := by
  intro g p l e R s m args below meth c H locs cells slots A Q ls S hN hK hP hD hS hl hV hs hfr hlo hce hsl hend
  exact lv_ifnull S.1 S.2.1 hd (k g p l e R s m args below meth c H locs cells slots A Q ls S hN hK hP hD hS hl hV (okS_tl hs) hfr hlo hce hsl hend)
theorem S_ifnonnull {off : Int} {t : Nat} {q : Nat × Nat} (hd : decode mr.2.1 pc = .ok (.ifnonnull off, 3)) (ht : (pc : Int) + off = (t : Int)) (k : FromOK mr t lv st I F r) : FromOK mr pc lv (vR (some q) :: st) I F r := by
  intro g p l e R s m args below meth c H locs cells slots A Q ls S hN hK hP hD hS hl hV hs hfr hlo hce hsl hend
  exact lv_ifnonnull S.1 S.2.1 hd ht (k g p l e R s m args below meth c H locs cells slots A Q ls S hN hK hP hD hS hl hV (okS_tl hs) hfr hlo hce hsl hend)
theorem S_ifnonnullN {off : Int} (hd : decode mr.2.1 pc = .ok (.ifnonnull off, 3)) (k : FromOK mr (pc + 3) lv st I F r) : FromOK mr pc lv (vR none :: st) I F r := by
  intro g p l e R s m args below meth c H locs cells slots A Q ls S hN hK hP hD hS hl hV hs hfr hlo hce hsl hend
  exact lv_ifnonnullN S.1 S.2.1 hd (k g p l e R s m args below meth c H locs cells slots A Q ls S hN hK hP hD hS hl hV (okS_tl hs) hfr hlo hce hsl hend)
theorem S_tabIn {dflt lo hi : Int} {offs : Array Int} {len : Nat} {x : Int32} {off : Int} {t : Nat} (hd : decode mr.2.1 pc = .ok (.tableswitch dflt lo hi offs, len)) (h1 : ¬ x.toInt < lo) (h2 : ¬ hi < x.toInt) (ho : offs[(x.toInt - lo).toNat]? = some off) (ht : (pc : Int) + off = (t : Int)) (k : FromOK mr t lv st I F r) : FromOK mr pc lv (vI x :: st) I F r := by
  intro g p l e R s m args below meth c H locs cells slots A Q ls S hN hK hP hD hS hl hV hs hfr hlo hce hsl hend
  exact lv_tableIn S.1 S.2.1 hd h1 h2 ho ht (k g p l e R s m args below meth c H locs cells slots A Q ls S hN hK hP hD hS hl hV (okS_tl hs) hfr hlo hce hsl hend)
theorem S_tabOut {dflt lo hi : Int} {offs : Array Int} {len : Nat} {x : Int32} {t : Nat} (hd : decode mr.2.1 pc = .ok (.tableswitch dflt lo hi offs, len)) (h : x.toInt < lo ∨ hi < x.toInt) (ht : (pc : Int) + dflt = (t : Int)) (k : FromOK mr t lv st I F r) : FromOK mr pc lv (vI x :: st) I F r := by
  intro g p l e R s m args below meth c H locs cells slots A Q ls S hN hK hP hD hS hl hV hs hfr hlo hce hsl hend
  exact lv_tableOut S.1 S.2.1 hd h ht (k g p l e R s m args below meth c H locs cells slots A Q ls S hN hK hP hD hS hl hV (okS_tl hs) hfr hlo hce hsl hend)
theorem S_getI {idx ci0 f b o N : Nat} {C : String} {T : u_T} (hc : vwCl[ci0]? = some (C, T, N)) (hf : f < N) (hw : Cond.fieldLink mr.1.cls idx (T f).1 (T f).2.1 (T f).2.2.1 ∈ lw_gd) (hk : K0 b o = (0, ci0)) (ht : (nth zFT ci0 [])[f]? = some 0) (hd : decode mr.2.1 pc = .ok (.getfield idx, 3)) (k : FromOK mr (pc + 3) lv (vI (I b o f) :: st) I F r) : FromOK mr pc lv (vR (some (b, o)) :: st) I F r := by
  intro g p l e R s m args below meth c H locs cells slots A Q ls S hN hK hP hD hS hl hV hs hfr hlo hce hsl hend
  exact va_get (q0 := ix b o) (k := f) S.1 S.2.1 S.2.2.2.2 (zCls_all _ _ _ _ hc).1 S.2.2.2.1 hK hP (by rw [wsL_get (okS_hd hs), zcl_obj hk]) hc hf (S.2.2.2.2 _ hw) (fun _ h => h) (by rw [List.getElem?_mapIdx, ht]; rfl) hd (k g p l e R s m args below meth c H locs cells slots A Q ls S hN hK hP hD hS hl hV (okS_cons trivial (okS_tl hs)) hfr hlo hce hsl hend)
theorem S_getF {idx ci0 f b o N : Nat} {C : String} {T : u_T} (hc : vwCl[ci0]? = some (C, T, N)) (hf : f < N) (hw : Cond.fieldLink mr.1.cls idx (T f).1 (T f).2.1 (T f).2.2.1 ∈ lw_gd) (hk : K0 b o = (0, ci0)) (ht : (nth zFT ci0 [])[f]? = some 1) (hd : decode mr.2.1 pc = .ok (.getfield idx, 3)) (k : FromOK mr (pc + 3) lv (vF (F b o f) :: st) I F r) : FromOK mr pc lv (vR (some (b, o)) :: st) I F r := by
  intro g p l e R s m args below meth c H locs cells slots A Q ls S hN hK hP hD hS hl hV hs hfr hlo hce hsl hend
  exact va_get (q0 := ix b o) (k := f) S.1 S.2.1 S.2.2.2.2 (zCls_all _ _ _ _ hc).1 S.2.2.2.1 hK hP (by rw [wsL_get (okS_hd hs), zcl_obj hk]) hc hf (S.2.2.2.2 _ hw) (fun _ h => h) (by rw [List.getElem?_mapIdx, ht]; rfl) hd (k g p l e R s m args below meth c H locs cells slots A Q ls S hN hK hP hD hS hl hV (okS_cons trivial (okS_tl hs)) hfr hlo hce hsl hend)
theorem S_getR {idx ci0 f b o N : Nat} {C : String} {T : u_T} {t : Nat} (hc : vwCl[ci0]? = some (C, T, N)) (hf : f < N) (hw : Cond.fieldLink mr.1.cls idx (T f).1 (T f).2.1 (T f).2.2.1 ∈ lw_gd) (hk : K0 b o = (0, ci0)) (ht : (nth zFT ci0 [])[f]? = some (t + 2)) (hd : decode mr.2.1 pc = .ok (.getfield idx, 3)) (k : FromOK mr (pc + 3) lv (vR (R0 b o f) :: st) I F r) : FromOK mr pc lv (vR (some (b, o)) :: st) I F r := by
  intro g p l e R s m args below meth c H locs cells slots A Q ls S hN hK hP hD hS hl hV hs hfr hlo hce hsl hend
  exact va_get (q0 := ix b o) (k := f) S.1 S.2.1 S.2.2.2.2 (zCls_all _ _ _ _ hc).1 S.2.2.2.1 hK hP (by rw [wsL_get (okS_hd hs), zcl_obj hk]) hc hf (S.2.2.2.2 _ hw) (fun _ h => h) (by rw [List.getElem?_mapIdx, ht]; rfl) hd (k g p l e R s m args below meth c H locs cells slots A Q ls S hN hK hP hD hS hl hV (okS_cons (R0_ok (okS_hd hs) (by unfold zsz; rw [hk]; exact (List.getElem?_eq_some_iff.mp ht).1) (Or.inl (by rw [hk]))) (okS_tl hs)) hfr hlo hce hsl hend)
theorem S_putI {idx ci0 f b o N : Nat} {C : String} {T : u_T} {x : Int32} (hc : vwCl[ci0]? = some (C, T, N)) (hf : f < N) (hw : Cond.fieldLink mr.1.cls idx (T f).1 (T f).2.1 (T f).2.2.1 ∈ lw_gd) (hk : K0 b o = (0, ci0)) (ht : (nth zFT ci0 [])[f]? = some 0) (hfin : (T f).2.2.2 = false) (hpd : parseFieldDescriptor (T f).2.2.1 = some .int) (hd : decode mr.2.1 pc = .ok (.putfield idx, 3)) (k : FromOK mr (pc + 3) lv st (wI I b o f x) F r) : FromOK mr pc lv (vI x :: vR (some (b, o)) :: st) I F r := by
  intro g p l e R s m args below meth c H locs cells slots A Q ls S hN hK hP hD hS hl hV hs hfr hlo hce hsl hend
  obtain ⟨ty0, hty⟩ := (zCls_all _ _ _ _ hc).2.1
  refine va_put (q0 := ix b o) (k := f) (v := .int x) (ty := .int) S.1 S.2.1 S.2.2.2.2 (zCls_all _ _ _ _ hc).1 ty0 hty (zCls_all _ _ _ _ hc).2.2 S.2.2.2.1 hK hP hD hS (by rw [wsL_get (okS_hd (okS_tl hs)), zcl_obj hk]) hc hf (S.2.2.2.2 _ hw) (fun _ h => h) hfin hpd (by rfl) (by rfl) (by simpa using (List.getElem?_eq_some_iff.mp ht).1) hd (fun H1 locs1 hP1 hD1 hS1 => ?_)
  rw [wsL_set (R' := R0) (I' := wI I b o f x) (F' := F) PL_okL (okS_hd (okS_tl hs)) (fun b' o' h => ⟨rfl, wI_ne h, rfl⟩) (zobj_putI hk ht)] at hP1 hD1
  exact (k g p l e R s m args below meth c H1 locs1 cells slots A Q ls S hN hK hP1 hD1 hS1 hl hV (okS_tl (okS_tl hs)) hfr hlo hce hsl hend)
theorem S_putF {idx ci0 f b o N : Nat} {C : String} {T : u_T} {x : UInt32} (hc : vwCl[ci0]? = some (C, T, N)) (hf : f < N) (hw : Cond.fieldLink mr.1.cls idx (T f).1 (T f).2.1 (T f).2.2.1 ∈ lw_gd) (hk : K0 b o = (0, ci0)) (ht : (nth zFT ci0 [])[f]? = some 1) (hfin : (T f).2.2.2 = false) (hpd : parseFieldDescriptor (T f).2.2.1 = some .float) (hd : decode mr.2.1 pc = .ok (.putfield idx, 3)) (k : FromOK mr (pc + 3) lv st I (wF F b o f x) r) : FromOK mr pc lv (vF x :: vR (some (b, o)) :: st) I F r := by
  intro g p l e R s m args below meth c H locs cells slots A Q ls S hN hK hP hD hS hl hV hs hfr hlo hce hsl hend
  obtain ⟨ty0, hty⟩ := (zCls_all _ _ _ _ hc).2.1
  refine va_put (q0 := ix b o) (k := f) (v := .float x) (ty := .float) S.1 S.2.1 S.2.2.2.2 (zCls_all _ _ _ _ hc).1 ty0 hty (zCls_all _ _ _ _ hc).2.2 S.2.2.2.1 hK hP hD hS (by rw [wsL_get (okS_hd (okS_tl hs)), zcl_obj hk]) hc hf (S.2.2.2.2 _ hw) (fun _ h => h) hfin hpd (by rfl) (by rfl) (by simpa using (List.getElem?_eq_some_iff.mp ht).1) hd (fun H1 locs1 hP1 hD1 hS1 => ?_)
  rw [wsL_set (R' := R0) (I' := I) (F' := wF F b o f x) PL_okL (okS_hd (okS_tl hs)) (fun b' o' h => ⟨rfl, rfl, wF_ne h⟩) (zobj_putF hk ht)] at hP1 hD1
  exact (k g p l e R s m args below meth c H1 locs1 cells slots A Q ls S hN hK hP1 hD1 hS1 hl hV (okS_tl (okS_tl hs)) hfr hlo hce hsl hend)
theorem S_iald {b o n : Nat} {i : Int32} (hk : K0 b o = (1, n)) (hi : inb i n) (hd : decode mr.2.1 pc = .ok (.iaload, 1)) (k : FromOK mr (pc + 1) lv (vI (I b o i.toNatClampNeg) :: st) I F r) : FromOK mr pc lv (vI i :: vR (some (b, o)) :: st) I F r := by
  intro g p l e R s m args below meth c H locs cells slots A Q ls S hN hK hP hD hS hl hV hs hfr hlo hce hsl hend
  exact va_iald (q0 := ix b o) (t0 := 0) S.1 S.2.1 hK hP (by rw [wsL_get (okS_hd (okS_tl hs)), zcl_int hk]) rfl hi hd (k g p l e R s m args below meth c H locs cells slots A Q ls S hN hK hP hD hS hl hV (okS_cons trivial (okS_tl (okS_tl hs))) hfr hlo hce hsl hend)
theorem S_zald {b o n : Nat} {i : Int32} (hk : K0 b o = (2, n)) (hi : inb i n) (hd : decode mr.2.1 pc = .ok (.baload, 1)) (k : FromOK mr (pc + 1) lv (vI (I b o i.toNatClampNeg) :: st) I F r) : FromOK mr pc lv (vI i :: vR (some (b, o)) :: st) I F r := by
  intro g p l e R s m args below meth c H locs cells slots A Q ls S hN hK hP hD hS hl hV hs hfr hlo hce hsl hend
  exact va_zald (q0 := ix b o) (t0 := 1) S.1 S.2.1 hK hP (by rw [wsL_get (okS_hd (okS_tl hs)), zcl_bool hk]) rfl hi hd (k g p l e R s m args below meth c H locs cells slots A Q ls S hN hK hP hD hS hl hV (okS_cons trivial (okS_tl (okS_tl hs))) hfr hlo hce hsl hend)
theorem S_fald {b o n : Nat} {i : Int32} (hk : K0 b o = (3, n)) (hi : inb i n) (hd : decode mr.2.1 pc = .ok (.faload, 1)) (k : FromOK mr (pc + 1) lv (vF (F b o i.toNatClampNeg) :: st) I F r) : FromOK mr pc lv (vI i :: vR (some (b, o)) :: st) I F r := by
  intro g p l e R s m args below meth c H locs cells slots A Q ls S hN hK hP hD hS hl hV hs hfr hlo hce hsl hend
  exact va_fald (q0 := ix b o) (t0 := 2) S.1 S.2.1 hK hP (by rw [wsL_get (okS_hd (okS_tl hs)), zcl_flt hk]) rfl hi hd (k g p l e R s m args below meth c H locs cells slots A Q ls S hN hK hP hD hS hl hV (okS_cons trivial (okS_tl (okS_tl hs))) hfr hlo hce hsl hend)
theorem S_aald {b o n : Nat} {i : Int32} (hk : K0 b o = (4, n)) (hi : inb i n) (hd : decode mr.2.1 pc = .ok (.aaload, 1)) (k : FromOK mr (pc + 1) lv (vR (R0 b o i.toNatClampNeg) :: st) I F r) : FromOK mr pc lv (vI i :: vR (some (b, o)) :: st) I F r := by
  intro g p l e R s m args below meth c H locs cells slots A Q ls S hN hK hP hD hS hl hV hs hfr hlo hce hsl hend
  exact va_aldq (f := fun k => (R0 b o k).map (zad g)) (q0 := ix b o) (t0 := 3) S.1 S.2.1 hK hP (by rw [wsL_get (okS_hd (okS_tl hs)), zcl_ref hk]) rfl hi hd (k g p l e R s m args below meth c H locs cells slots A Q ls S hN hK hP hD hS hl hV (okS_cons (R0_ok (okS_hd (okS_tl hs)) (by unfold zsz; rw [hk]; exact Nat.not_le.mp (fun z => hi (Or.inr z))) (Or.inr (by rw [hk]))) (okS_tl (okS_tl hs))) hfr hlo hce hsl hend)
theorem S_iast {b o n : Nat} {i : Int32} {x : Int32} (hk : K0 b o = (1, n)) (hi : inb i n) (hd : decode mr.2.1 pc = .ok (.iastore, 1)) (k : FromOK mr (pc + 1) lv st (wI I b o i.toNatClampNeg x) F r) : FromOK mr pc lv (vI x :: vI i :: vR (some (b, o)) :: st) I F r := by
  intro g p l e R s m args below meth c H locs cells slots A Q ls S hN hK hP hD hS hl hV hs hfr hlo hce hsl hend
  refine va_iast (q0 := ix b o) (t0 := 0) S.1 S.2.1 hK hP hD hS (by rw [wsL_get (okS_hd (okS_tl (okS_tl hs))), zcl_int hk]) rfl hi hd (fun H1 locs1 hP1 hD1 hS1 => ?_)
  rw [wsL_set (R' := R0) (I' := wI I b o i.toNatClampNeg x) (F' := F) PL_okL (okS_hd (okS_tl (okS_tl hs))) (fun b' o' h => ⟨rfl, wI_ne h, rfl⟩) (by rw [zcl_int hk, wI_self])] at hP1 hD1
  exact (k g p l e R s m args below meth c H1 locs1 cells slots A Q ls S hN hK hP1 hD1 hS1 hl hV (okS_tl (okS_tl (okS_tl hs))) hfr hlo hce hsl hend)
theorem S_zast {b o n : Nat} {i : Int32} {x : Int32} (hk : K0 b o = (2, n)) (hi : inb i n) (hd : decode mr.2.1 pc = .ok (.bastore, 1)) (k : FromOK mr (pc + 1) lv st (wI I b o i.toNatClampNeg (vp_nar .boolean x)) F r) : FromOK mr pc lv (vI x :: vI i :: vR (some (b, o)) :: st) I F r := by
  intro g p l e R s m args below meth c H locs cells slots A Q ls S hN hK hP hD hS hl hV hs hfr hlo hce hsl hend
  refine va_zast (q0 := ix b o) (t0 := 1) S.1 S.2.1 hK hP hD hS (by rw [wsL_get (okS_hd (okS_tl (okS_tl hs))), zcl_bool hk]) rfl hi hd (fun H1 locs1 hP1 hD1 hS1 => ?_)
  rw [wsL_set (R' := R0) (I' := wI I b o i.toNatClampNeg (vp_nar .boolean x)) (F' := F) PL_okL (okS_hd (okS_tl (okS_tl hs))) (fun b' o' h => ⟨rfl, wI_ne h, rfl⟩) (by rw [zcl_bool hk, wI_self])] at hP1 hD1
  exact (k g p l e R s m args below meth c H1 locs1 cells slots A Q ls S hN hK hP1 hD1 hS1 hl hV (okS_tl (okS_tl (okS_tl hs))) hfr hlo hce hsl hend)
theorem S_fast {b o n : Nat} {i : Int32} {x : UInt32} (hk : K0 b o = (3, n)) (hi : inb i n) (hd : decode mr.2.1 pc = .ok (.fastore, 1)) (k : FromOK mr (pc + 1) lv st I (wF F b o i.toNatClampNeg x) r) : FromOK mr pc lv (vF x :: vI i :: vR (some (b, o)) :: st) I F r := by
  intro g p l e R s m args below meth c H locs cells slots A Q ls S hN hK hP hD hS hl hV hs hfr hlo hce hsl hend
  refine va_fast (q0 := ix b o) (t0 := 2) S.1 S.2.1 hK hP hD hS (by rw [wsL_get (okS_hd (okS_tl (okS_tl hs))), zcl_flt hk]) rfl hi hd (fun H1 locs1 hP1 hD1 hS1 => ?_)
  rw [wsL_set (R' := R0) (I' := I) (F' := wF F b o i.toNatClampNeg x) PL_okL (okS_hd (okS_tl (okS_tl hs))) (fun b' o' h => ⟨rfl, rfl, wF_ne h⟩) (by rw [zcl_flt hk, wF_self])] at hP1 hD1
  exact (k g p l e R s m args below meth c H1 locs1 cells slots A Q ls S hN hK hP1 hD1 hS1 hl hV (okS_tl (okS_tl (okS_tl hs))) hfr hlo hce hsl hend)
theorem S_alen {b o n kd : Nat} (hk : K0 b o = (kd, n)) (h1 : 1 ≤ kd) (h4 : kd ≤ 4) (hd : decode mr.2.1 pc = .ok (.arraylength, 1)) (k : FromOK mr (pc + 1) lv (vI (Int32.ofNat n) :: st) I F r) : FromOK mr pc lv (vR (some (b, o)) :: st) I F r := by
  intro g p l e R s m args below meth c H locs cells slots A Q ls S hN hK hP hD hS hl hV hs hfr hlo hce hsl hend
  rcases (show kd = 1 ∨ kd = 2 ∨ kd = 3 ∨ kd = 4 by omega) with rfl | rfl | rfl | rfl
  · exact va_alen (q0 := ix b o) (t0 := 0) (ty := .int) (x := (n, .inl (I b o))) S.1 S.2.1 hK hP (by rw [wsL_get (okS_hd hs), zcl_int hk]) rfl rfl hd (k g p l e R s m args below meth c H locs cells slots A Q ls S hN hK hP hD hS hl hV (okS_cons trivial (okS_tl hs)) hfr hlo hce hsl hend)
  · exact va_alen (q0 := ix b o) (t0 := 1) (ty := .boolean) (x := (n, .inl (I b o))) S.1 S.2.1 hK hP (by rw [wsL_get (okS_hd hs), zcl_bool hk]) rfl rfl hd (k g p l e R s m args below meth c H locs cells slots A Q ls S hN hK hP hD hS hl hV (okS_cons trivial (okS_tl hs)) hfr hlo hce hsl hend)
  · exact va_alen (q0 := ix b o) (t0 := 2) (ty := .float) (x := (n, .inr (.inr (.inl (F b o))))) S.1 S.2.1 hK hP (by rw [wsL_get (okS_hd hs), zcl_flt hk]) rfl rfl hd (k g p l e R s m args below meth c H locs cells slots A Q ls S hN hK hP hD hS hl hV (okS_cons trivial (okS_tl hs)) hfr hlo hce hsl hend)
  · exact va_alen (q0 := ix b o) (t0 := 3) (ty := .object "StartLedger$State") (x := (n, .inr (.inr (.inr (.inr (fun k => (R0 b o k).map (zad g))))))) S.1 S.2.1 hK hP (by rw [wsL_get (okS_hd hs), zcl_ref hk]) rfl rfl hd (k g p l e R s m args below meth c H locs cells slots A Q ls S hN hK hP hD hS hl hV (okS_cons trivial (okS_tl hs)) hfr hlo hce hsl hend)
theorem S_ret1 {x : Int32} (hrk : mr.2.2.2.2.1 = 1) (hd : decode mr.2.1 pc = .ok (.ireturn, 1)) : FromOK mr pc lv [vI x] I F (vI x, I, F) := by
  intro g p l e R s m args below meth c H locs cells slots A Q ls S hN hK hP hD hS hl hV hs hfr hlo hce hsl hend
  have h := hend H locs ls pc .ireturn hP hS (okS_hd hs) hd (by rw [hrk]; exact ⟨rfl, x, rfl⟩)
  rw [hrk] at h
  exact h
theorem S_ret2 {x : Int64} (hrk : mr.2.2.2.2.1 = 2) (hd : decode mr.2.1 pc = .ok (.lreturn, 1)) : FromOK mr pc lv [vL x] I F (vL x, I, F) := by
  intro g p l e R s m args below meth c H locs cells slots A Q ls S hN hK hP hD hS hl hV hs hfr hlo hce hsl hend
  have h := hend H locs ls pc .lreturn hP hS (okS_hd hs) hd (by rw [hrk]; exact ⟨rfl, x, rfl⟩)
  rw [hrk] at h
  exact h
theorem S_ret3 {x : UInt32} (hrk : mr.2.2.2.2.1 = 3) (hd : decode mr.2.1 pc = .ok (.freturn, 1)) : FromOK mr pc lv [vF x] I F (vF x, I, F) := by
  intro g p l e R s m args below meth c H locs cells slots A Q ls S hN hK hP hD hS hl hV hs hfr hlo hce hsl hend
  have h := hend H locs ls pc .freturn hP hS (okS_hd hs) hd (by rw [hrk]; exact ⟨rfl, x, rfl⟩)
  rw [hrk] at h
  exact h
theorem S_ret4 {x : UInt64} (hrk : mr.2.2.2.2.1 = 4) (hd : decode mr.2.1 pc = .ok (.dreturn, 1)) : FromOK mr pc lv [vD x] I F (vD x, I, F) := by
  intro g p l e R s m args below meth c H locs cells slots A Q ls S hN hK hP hD hS hl hV hs hfr hlo hce hsl hend
  have h := hend H locs ls pc .dreturn hP hS (okS_hd hs) hd (by rw [hrk]; exact ⟨rfl, x, rfl⟩)
  rw [hrk] at h
  exact h
theorem S_ret5 {x : Option (Nat × Nat)} (hrk : mr.2.2.2.2.1 = 5) (hd : decode mr.2.1 pc = .ok (.areturn, 1)) : FromOK mr pc lv [vR x] I F (vR x, I, F) := by
  intro g p l e R s m args below meth c H locs cells slots A Q ls S hN hK hP hD hS hl hV hs hfr hlo hce hsl hend
  have h := hend H locs ls pc .areturn hP hS (okS_hd hs) hd (by rw [hrk]; exact ⟨rfl, x, rfl⟩)
  rw [hrk] at h
  exact h
theorem S_ret6 {x : Int32} (hx : x = 0 ∨ x = 1) (hrk : mr.2.2.2.2.1 = 6) (hd : decode mr.2.1 pc = .ok (.ireturn, 1)) : FromOK mr pc lv [vI x] I F (vI x, I, F) := by
  intro g p l e R s m args below meth c H locs cells slots A Q ls S hN hK hP hD hS hl hV hs hfr hlo hce hsl hend
  have h := hend H locs ls pc .ireturn hP hS (okS_hd hs) hd (by rw [hrk]; exact ⟨rfl, hx.imp (fun z => by rw [z]) (fun z => by rw [z])⟩)
  rw [hrk] at h
  exact h
theorem S_ret0 (hrk : mr.2.2.2.2.1 = 0) (hd : decode mr.2.1 pc = .ok (.return_, 1)) : FromOK mr pc lv [] I F (vI 0, I, F) := by
  intro g p l e R s m args below meth c H locs cells slots A Q ls S hN hK hP hD hS hl hV hs hfr hlo hce hsl hend
  have h := hend H locs ls pc .return_ hP hS trivial hd (by rw [hrk]; exact rfl)
  rw [hrk] at h
  exact h
end ZR
