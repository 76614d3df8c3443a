/-! THE SMALL MACHINE. Values, the two stores (whole numbers and floats, by block, offset in the block, place), the fixed shape of the world. -/
abbrev Vl : Type := Int32 ⊕ (Int64 ⊕ (UInt32 ⊕ (UInt64 ⊕ Option (Nat × Nat))))
abbrev IM : Type := Nat → Nat → Nat → Int32
abbrev FM : Type := Nat → Nat → Nat → UInt32
abbrev Rs : Type := Vl × IM × FM
abbrev Ent : Type := Nat × Option (List Nat) × Instr × Nat × List Nat × Int
abbrev Cd : Type := List Ent
abbrev Lv : Type := List (Nat × Vl)
abbrev vI (x : Int32) : Vl := .inl x
abbrev vL (x : Int64) : Vl := .inr (.inl x)
abbrev vF (x : UInt32) : Vl := .inr (.inr (.inl x))
abbrev vD (x : UInt64) : Vl := .inr (.inr (.inr (.inl x)))
abbrev vR (x : Option (Nat × Nat)) : Vl := .inr (.inr (.inr (.inr x)))
def nth {α : Type} : List α → Nat → α → α
  | [], _, d => d
  | a :: _, 0, _ => a
  | _ :: l, n + 1, d => nth l n d
theorem nth_get {α : Type} : ∀ (l : List α) (n : Nat) (d x : α), l[n]? = some x → nth l n d = x
  | [], n, d, x, h => by simp at h
  | a :: l, 0, d, x, h => by simpa [nth] using h
  | a :: l, n + 1, d, x, h => by
    rw [List.getElem?_cons_succ] at h
    exact nth_get l n d x h
def zK0 : List (Nat × Nat) := [(0, 10), (0, 3), (1, 8), (2, 24), (1, 24), (2, 24), (1, 24), (1, 24), (1, 24), (1, 24), (0, 6), (1, 6), (0, 2), (4, 8), (1, 8), (4, 2), (2, 2), (1, 7)]
def zKS : List (Nat × Nat) := [(0, 9), (0, 0), (1, 8), (1, 4), (0, 1), (1, 40), (1, 40), (0, 1), (1, 40), (1, 40), (0, 4), (1, 10), (1, 10), (1, 10), (1, 3), (1, 12), (1, 12), (1, 12), (1, 12), (0, 5), (1, 24), (1, 24), (1, 24), (1, 24), (1, 24), (1, 8), (1, 8), (0, 7), (1, 10), (1, 10), (1, 10), (0, 8), (1, 4), (1, 4), (1, 4)]
def zKM : List (Nat × Nat) := [(0, 11), (1, 8), (1, 406), (1, 3248), (3, 8), (1, 8), (1, 812), (1, 406), (3, 2), (2, 2), (2, 24), (2, 24), (1, 24), (1, 24), (1, 24), (1, 24), (1, 24), (1, 24), (1, 24), (1, 8), (1, 10), (1, 8192), (1, 8192), (1, 8192), (2, 8192), (1, 6)]
/-- the kind of a cell: (0, c) an object of class c of vwCl; (1, n) ints, (2, n) booleans, (3, n) floats, (4, n) references to states -/
def K0 (b o : Nat) : Nat × Nat := match b with
  | 0 => nth zK0 o (9, 0)
  | 1 => nth zKM o (9, 0)
  | _ + 2 => nth zKS o (9, 0)
def zRS : List (List Nat) := [[1, 4, 7, 10, 19, 27, 31], [2, 3], [], [], [5, 6], [], [], [8, 9], [], [], [11, 12, 13, 0, 14, 15, 16, 17, 18], [], [], [], [], [], [], [], [], [20, 21, 22, 23, 24, 0, 25, 26], [], [], [], [], [], [], [], [28, 29, 30], [], [], [], [32, 33, 34]]
def zRM : List Nat := [0, 0, 1, 2, 0, 3, 4, 5, 0, 6, 7, 8, 9, 10, 11, 12, 13, 14, 15, 16, 17, 18, 0, 19, 20, 0, 0, 21, 22, 23, 24, 0, 25, 0]
def zR0 : List (List (Option (Nat × Nat))) := [[some (2, 0), some (3, 0), some (0, 1), some (0, 10), some (0, 12), some (0, 17)], [some (0, 2), some (0, 3), some (0, 4), some (0, 5), some (0, 6), some (0, 7), some (0, 8), some (0, 9)], [], [], [], [], [], [], [], [], [some (0, 11)], [], [some (0, 13), some (0, 14), none, none, some (0, 15), some (0, 16)]]
def zsm (b k : Nat) : Option (Nat × Nat) := match k with
  | 0 => none
  | j + 1 => some (b, j + 1)
/-- the references, which stay once an object is made -/
def R0 (b o k : Nat) : Option (Nat × Nat) := match b with
  | 0 => cond (Nat.beq o 13) (some (k + 4, 0)) (cond (Nat.beq o 15) (some (k + 12, 0)) (nth (nth zR0 o []) k none))
  | 1 => cond (Nat.beq o 0) (zsm 1 (nth zRM k 0)) none
  | j + 2 => zsm (j + 2) (nth (nth zRS o []) k 0)
/-- which cell, by the order of making -/
def ix (b o : Nat) : Nat := match b with
  | 0 => cond (Nat.beq o 0) 0 (cond (Nat.beq o 17) 437 (o + 70))
  | 1 => 438 + o
  | 2 => 1 + o
  | 3 => 36 + o
  | j + 4 => 87 + 35 * j + o
def PL : List (Nat × Nat) := [(0, 0)] ++ ((List.range 35).map (fun o => (2, o)) ++ ((List.range 35).map (fun o => (3, o)) ++ ((List.range 16).map (fun o => (0, o + 1)) ++ ((List.range 10).flatMap (fun j => (List.range 35).map (fun o => (j + 4, o))) ++ ([(0, 17)] ++ (List.range 26).map (fun o => (1, o)))))))
def zFT : List (List Nat) := [[2, 2, 0, 0, 0, 1], [2, 2, 0], [2, 2, 0, 0, 2, 2], [2, 2, 2, 2, 2, 2, 2, 2, 0], [2, 2, 2, 0, 2, 2, 2, 2, 2, 0], [2, 2, 2, 2, 2, 0, 2, 2, 0], [2, 0], [2, 2, 2, 0], [2, 2, 2, 0], [2, 2, 2, 2, 2, 2, 2], [2, 2, 2, 2, 2, 2, 0], [0, 0, 2, 2, 1, 2, 2, 2, 0, 2, 2, 2, 2, 2, 2, 2, 2, 2, 2, 2, 2, 2, 0, 2, 2, 0, 0, 2, 2, 2, 2, 0, 2, 0]]
theorem PL_len : PL.length = 464 := by decide +kernel
theorem PL_ix : ∀ i, i < 464 → ix (nth PL i (0, 0)).1 (nth PL i (0, 0)).2 = i := by decide +kernel
/-- a constant -/
def ci : Int → Int32
  | .ofNat n => Int32.ofNat n
  | .negSucc n => -(Int32.ofNat (n + 1))
def cl : Int → Int64
  | .ofNat n => Int64.ofNat n
  | .negSucc n => -(Int64.ofNat (n + 1))
def lk : Lv → Nat → Option Vl
  | [], _ => none
  | (j, v) :: r, i => cond (Nat.beq j i) (some v) (lk r i)
def lks (lv : Lv) : List Nat → Option (List Vl)
  | [] => some []
  | i :: r => match lk lv i, lks lv r with
    | some v, some vs => some (v :: vs)
    | _, _ => none
/-- takes two places -/
def c2 : Vl → Bool
  | .inl _ => false
  | .inr (.inl _) => true
  | .inr (.inr (.inl _)) => false
  | .inr (.inr (.inr (.inl _))) => true
  | .inr (.inr (.inr (.inr _))) => false
/-- the places that a stack takes -/
def csm : List Vl → Nat
  | [] => 0
  | v :: r => cond (c2 v) 2 1 + csm r
def d1 (i : Nat) : Lv → Lv
  | [] => []
  | (j, v) :: r => cond (Nat.beq j i || (Nat.beq (j + 1) i && c2 v)) (d1 i r) ((j, v) :: d1 i r)
def d2 (i : Nat) : Lv → Lv
  | [] => []
  | (j, v) :: r => cond (Nat.beq j i || (Nat.beq j (i + 1) || (Nat.beq (j + 1) i && c2 v))) (d2 i r) ((j, v) :: d2 i r)
def jmp (t : Nat) : Cd → Cd
  | [] => []
  | e :: r => cond (Nat.beq e.1 t) (e :: r) (jmp t r)
def pop : Nat → List Vl → List Vl → Option (List Vl × List Vl)
  | 0, acc, st => some (acc, st)
  | _ + 1, _, [] => none
  | n + 1, acc, v :: st => pop n (v :: acc) st
def wI (I : IM) (b o k : Nat) (x : Int32) : IM := fun b' o' k' => if b' = b ∧ o' = o ∧ k' = k then x else I b' o' k'
def wF (F : FM) (b o k : Nat) (x : UInt32) : FM := fun b' o' k' => if b' = b ∧ o' = o ∧ k' = k then x else F b' o' k'
/-- a stretch of one array copied into another -/
def cI (I : IM) (b o sb so sp dp n : Nat) : IM := fun b' o' k' => if b' = b ∧ o' = o then va_cpy (I sb so) (I b o) sp dp n k' else I b' o' k'
def bI (r : Option Rs) (k : Int32 → IM → FM → Option Rs) : Option Rs := match r with
  | some (.inl x, I, F) => k x I F
  | _ => none
def bL (r : Option Rs) (k : Int64 → IM → FM → Option Rs) : Option Rs := match r with
  | some (.inr (.inl x), I, F) => k x I F
  | _ => none
def bF (r : Option Rs) (k : UInt32 → IM → FM → Option Rs) : Option Rs := match r with
  | some (.inr (.inr (.inl x)), I, F) => k x I F
  | _ => none
def bD (r : Option Rs) (k : UInt64 → IM → FM → Option Rs) : Option Rs := match r with
  | some (.inr (.inr (.inr (.inl x))), I, F) => k x I F
  | _ => none
def bR (r : Option Rs) (k : Option (Nat × Nat) → IM → FM → Option Rs) : Option Rs := match r with
  | some (.inr (.inr (.inr (.inr x))), I, F) => k x I F
  | _ => none
def bV (r : Option Rs) (k : IM → FM → Option Rs) : Option Rs := match r with
  | some (_, I, F) => k I F
  | none => none
def isO (q : Nat × Nat) (c : Nat) : Bool := Nat.beq q.1 0 && Nat.beq q.2 c
abbrev inb (i : Int32) (n : Nat) : Prop := ¬ (i < 0 ∨ n ≤ i.toNatClampNeg)
/-- what an instruction does; k: what comes then -/
def swt (k : Nat → Option Rs) (x : Int32) (d : Nat) : Int → List Nat → Option Rs
  | _, [] => k d
  | lo, t :: ts => if x = ci lo then k t else swt k x d (lo + 1) ts
def ex (gc : Nat → List Vl → IM → FM → Option Rs) (rk : Nat) (full : Cd) (k : Cd → Lv → List Vl → IM → FM → Option Rs) (ins : Instr) (aux : List Nat) (z : Int) (tl : Cd) (lv : Lv) (st : List Vl) (I : IM) (F : FM) : Option Rs :=
  match ins with
  | .iload_n j => match lk lv j with
    | some (.inl x) => k tl lv (.inl x :: st) I F
    | _ => none
  | .iload j => match lk lv j with
    | some (.inl x) => k tl lv (.inl x :: st) I F
    | _ => none
  | .lload_n j => match lk lv j with
    | some (.inr (.inl x)) => k tl lv (vL x :: st) I F
    | _ => none
  | .lload j => match lk lv j with
    | some (.inr (.inl x)) => k tl lv (vL x :: st) I F
    | _ => none
  | .fload_n j => match lk lv j with
    | some (.inr (.inr (.inl x))) => k tl lv (vF x :: st) I F
    | _ => none
  | .fload j => match lk lv j with
    | some (.inr (.inr (.inl x))) => k tl lv (vF x :: st) I F
    | _ => none
  | .dload_n j => match lk lv j with
    | some (.inr (.inr (.inr (.inl x)))) => k tl lv (vD x :: st) I F
    | _ => none
  | .dload j => match lk lv j with
    | some (.inr (.inr (.inr (.inl x)))) => k tl lv (vD x :: st) I F
    | _ => none
  | .aload_n j => match lk lv j with
    | some (.inr (.inr (.inr (.inr x)))) => k tl lv (vR x :: st) I F
    | _ => none
  | .aload j => match lk lv j with
    | some (.inr (.inr (.inr (.inr x)))) => k tl lv (vR x :: st) I F
    | _ => none
  | .istore_n j => match st with
    | .inl x :: st => k tl ((j.val, .inl x) :: d1 j lv) st I F
    | _ => none
  | .istore j => match st with
    | .inl x :: st => k tl ((j, .inl x) :: d1 j lv) st I F
    | _ => none
  | .fstore_n j => match st with
    | .inr (.inr (.inl x)) :: st => k tl ((j.val, vF x) :: d1 j lv) st I F
    | _ => none
  | .fstore j => match st with
    | .inr (.inr (.inl x)) :: st => k tl ((j, vF x) :: d1 j lv) st I F
    | _ => none
  | .astore_n j => match st with
    | .inr (.inr (.inr (.inr x))) :: st => k tl ((j.val, vR x) :: d1 j lv) st I F
    | _ => none
  | .astore j => match st with
    | .inr (.inr (.inr (.inr x))) :: st => k tl ((j, vR x) :: d1 j lv) st I F
    | _ => none
  | .lstore_n j => match st with
    | .inr (.inl x) :: st => k tl ((j.val, vL x) :: d2 j lv) st I F
    | _ => none
  | .lstore j => match st with
    | .inr (.inl x) :: st => k tl ((j, vL x) :: d2 j lv) st I F
    | _ => none
  | .dstore_n j => match st with
    | .inr (.inr (.inr (.inl x))) :: st => k tl ((j.val, vD x) :: d2 j lv) st I F
    | _ => none
  | .dstore j => match st with
    | .inr (.inr (.inr (.inl x))) :: st => k tl ((j, vD x) :: d2 j lv) st I F
    | _ => none
  | .iinc j n => match lk lv j with
    | some (.inl x) => k tl ((j, .inl (x + ci n)) :: d1 j lv) st I F
    | _ => none
  | .iconst n => k tl lv (.inl (ci n) :: st) I F
  | .bipush n => k tl lv (.inl (ci n) :: st) I F
  | .sipush n => k tl lv (.inl (ci n) :: st) I F
  | .lconst n => k tl lv (vL (Int64.ofNat n.val) :: st) I F
  | .fconst n => match n with
    | 0 => k tl lv (vF FP.fconst0 :: st) I F
    | 1 => k tl lv (vF FP.fconst1 :: st) I F
    | 2 => k tl lv (vF FP.fconst2 :: st) I F
  | .dconst n => match n with
    | 0 => k tl lv (vD FP.dconst0 :: st) I F
    | 1 => k tl lv (vD FP.dconst1 :: st) I F
  | .aconst_null => k tl lv (vR none :: st) I F
  | .ldc _ => match aux with
    | [0] => k tl lv (.inl (ci z) :: st) I F
    | [1] => k tl lv (vF (UInt32.ofNat z.toNat) :: st) I F
    | _ => none
  | .ldc_w _ => match aux with
    | [0] => k tl lv (.inl (ci z) :: st) I F
    | _ => none
  | .ldc2_w _ => match aux with
    | [0] => k tl lv (vL (cl z) :: st) I F
    | [1] => k tl lv (vD (UInt64.ofNat z.toNat) :: st) I F
    | _ => none
  | .iadd => match st with
    | .inl y :: .inl x :: st => k tl lv (.inl (x + y) :: st) I F
    | _ => none
  | .isub => match st with
    | .inl y :: .inl x :: st => k tl lv (.inl (x - y) :: st) I F
    | _ => none
  | .imul => match st with
    | .inl y :: .inl x :: st => k tl lv (.inl (x * y) :: st) I F
    | _ => none
  | .irem => match st with
    | .inl y :: .inl x :: st => if y = 0 then none else k tl lv (.inl (x - x / y * y) :: st) I F
    | _ => none
  | .ineg => match st with
    | .inl x :: st => k tl lv (.inl (-x) :: st) I F
    | _ => none
  | .iand => match st with
    | .inl y :: .inl x :: st => k tl lv (.inl (x &&& y) :: st) I F
    | _ => none
  | .ior => match st with
    | .inl y :: .inl x :: st => k tl lv (.inl (x ||| y) :: st) I F
    | _ => none
  | .ixor => match st with
    | .inl y :: .inl x :: st => k tl lv (.inl (x ^^^ y) :: st) I F
    | _ => none
  | .ishl => match st with
    | .inl y :: .inl x :: st => k tl lv (.inl (x <<< (y &&& 31)) :: st) I F
    | _ => none
  | .ishr => match st with
    | .inl y :: .inl x :: st => k tl lv (.inl (x >>> (y &&& 31)) :: st) I F
    | _ => none
  | .iushr => match st with
    | .inl y :: .inl x :: st => k tl lv (.inl ((x.toUInt32 >>> (y.toUInt32 &&& Int32.toUInt32 31)).toInt32) :: st) I F
    | _ => none
  | .ladd => match st with
    | .inr (.inl y) :: .inr (.inl x) :: st => k tl lv (vL (x + y) :: st) I F
    | _ => none
  | .lsub => match st with
    | .inr (.inl y) :: .inr (.inl x) :: st => k tl lv (vL (x - y) :: st) I F
    | _ => none
  | .lor => match st with
    | .inr (.inl y) :: .inr (.inl x) :: st => k tl lv (vL (x ||| y) :: st) I F
    | _ => none
  | .lshl => match st with
    | .inl y :: .inr (.inl x) :: st => k tl lv (vL (x <<< (y.toInt64 &&& 63)) :: st) I F
    | _ => none
  | .lcmp => match st with
    | .inr (.inl y) :: .inr (.inl x) :: st => k tl lv (.inl (lg_cmp x y) :: st) I F
    | _ => none
  | .i2l => match st with
    | .inl x :: st => k tl lv (vL x.toInt64 :: st) I F
    | _ => none
  | .i2f => match st with
    | .inl x :: st => k tl lv (vF (FP.i2f x) :: st) I F
    | _ => none
  | .i2d => match st with
    | .inl x :: st => k tl lv (vD (FP.i2d x) :: st) I F
    | _ => none
  | .f2i => match st with
    | .inr (.inr (.inl x)) :: st => k tl lv (.inl (FP.f2i x) :: st) I F
    | _ => none
  | .d2l => match st with
    | .inr (.inr (.inr (.inl x))) :: st => k tl lv (vL (FP.d2l x) :: st) I F
    | _ => none
  | .fadd => match st with
    | .inr (.inr (.inl y)) :: .inr (.inr (.inl x)) :: st => if FP.fadd x y &&& 0x7fffffff ≤ 0x7f800000 then k tl lv (vF (FP.fadd x y) :: st) I F else none
    | _ => none
  | .fmul => match st with
    | .inr (.inr (.inl y)) :: .inr (.inr (.inl x)) :: st => if FP.fmul x y &&& 0x7fffffff ≤ 0x7f800000 then k tl lv (vF (FP.fmul x y) :: st) I F else none
    | _ => none
  | .fdiv => match st with
    | .inr (.inr (.inl y)) :: .inr (.inr (.inl x)) :: st => if FP.fdiv x y &&& 0x7fffffff ≤ 0x7f800000 then k tl lv (vF (FP.fdiv x y) :: st) I F else none
    | _ => none
  | .dadd => match st with
    | .inr (.inr (.inr (.inl y))) :: .inr (.inr (.inr (.inl x))) :: st => if FP.dadd x y &&& 0x7fffffffffffffff ≤ 0x7ff0000000000000 then k tl lv (vD (FP.dadd x y) :: st) I F else none
    | _ => none
  | .dmul => match st with
    | .inr (.inr (.inr (.inl y))) :: .inr (.inr (.inr (.inl x))) :: st => if FP.dmul x y &&& 0x7fffffffffffffff ≤ 0x7ff0000000000000 then k tl lv (vD (FP.dmul x y) :: st) I F else none
    | _ => none
  | .ddiv => match st with
    | .inr (.inr (.inr (.inl y))) :: .inr (.inr (.inr (.inl x))) :: st => if FP.ddiv x y &&& 0x7fffffffffffffff ≤ 0x7ff0000000000000 then k tl lv (vD (FP.ddiv x y) :: st) I F else none
    | _ => none
  | .dneg => match st with
    | .inr (.inr (.inr (.inl x))) :: st => k tl lv (vD (FP.dneg x) :: st) I F
    | _ => none
  | .fcmp op => match st with
    | .inr (.inr (.inl y)) :: .inr (.inr (.inl x)) :: st => k tl lv (.inl (Op.cmpValue (FP.fcmp x y) op) :: st) I F
    | _ => none
  | .dcmp op => match st with
    | .inr (.inr (.inr (.inl y))) :: .inr (.inr (.inr (.inl x))) :: st => k tl lv (.inl (Op.cmpValue (FP.dcmp x y) op) :: st) I F
    | _ => none
  | .dup => match st with
    | v :: st => cond (c2 v) none (k tl lv (v :: v :: st) I F)
    | _ => none
  | .dup2 => match st with
    | v :: u :: st => cond (c2 v || c2 u) none (k tl lv (v :: u :: v :: u :: st) I F)
    | _ => none
  | .pop => match st with
    | v :: st => cond (c2 v) none (k tl lv st I F)
    | _ => none
  | .goto _ => match aux with
    | [t] => k (jmp t full) lv st I F
    | _ => none
  | .ifCond c _ => match aux, st with
    | [t], .inl x :: st => match c with
      | .eq => if x = 0 then k (jmp t full) lv st I F else k tl lv st I F
      | .ne => if x = 0 then k tl lv st I F else k (jmp t full) lv st I F
      | .lt => if x < 0 then k (jmp t full) lv st I F else k tl lv st I F
      | .ge => if 0 ≤ x then k (jmp t full) lv st I F else k tl lv st I F
      | .gt => if 0 < x then k (jmp t full) lv st I F else k tl lv st I F
      | .le => if x ≤ 0 then k (jmp t full) lv st I F else k tl lv st I F
    | _, _ => none
  | .if_icmp c _ => match aux, st with
    | [t], .inl y :: .inl x :: st => match c with
      | .eq => if x = y then k (jmp t full) lv st I F else k tl lv st I F
      | .ne => if x = y then k tl lv st I F else k (jmp t full) lv st I F
      | .lt => if x < y then k (jmp t full) lv st I F else k tl lv st I F
      | .ge => if y ≤ x then k (jmp t full) lv st I F else k tl lv st I F
      | .gt => if y < x then k (jmp t full) lv st I F else k tl lv st I F
      | .le => if x ≤ y then k (jmp t full) lv st I F else k tl lv st I F
    | _, _ => none
  | .ifnull _ => match aux, st with
    | [t], .inr (.inr (.inr (.inr none))) :: st => k (jmp t full) lv st I F
    | [_], .inr (.inr (.inr (.inr (some _)))) :: st => k tl lv st I F
    | _, _ => none
  | .ifnonnull _ => match aux, st with
    | [_], .inr (.inr (.inr (.inr none))) :: st => k tl lv st I F
    | [t], .inr (.inr (.inr (.inr (some _)))) :: st => k (jmp t full) lv st I F
    | _, _ => none
  | .tableswitch _ lo _ _ => match aux, st with
    | d :: ts, .inl x :: st => swt (fun t => k (jmp t full) lv st I F) x d lo ts
    | _, _ => none
  | .getfield _ => match aux, st with
    | [c, f, t], .inr (.inr (.inr (.inr (some (b, o))))) :: st => cond (isO (K0 b o) c) (match t with
      | 0 => k tl lv (.inl (I b o f) :: st) I F
      | 1 => k tl lv (vF (F b o f) :: st) I F
      | _ => k tl lv (vR (R0 b o f) :: st) I F) none
    | _, _ => none
  | .putfield _ => match aux, st with
    | [c, f, 0], .inl x :: .inr (.inr (.inr (.inr (some (b, o))))) :: st => cond (isO (K0 b o) c) (k tl lv st (wI I b o f x) F) none
    | [c, f, 1], .inr (.inr (.inl x)) :: .inr (.inr (.inr (.inr (some (b, o))))) :: st => cond (isO (K0 b o) c) (k tl lv st I (wF F b o f x)) none
    | _, _ => none
  | .iaload => match st with
    | .inl i :: .inr (.inr (.inr (.inr (some (b, o))))) :: st => cond (Nat.beq (K0 b o).1 1) (if inb i (K0 b o).2 then k tl lv (.inl (I b o i.toNatClampNeg) :: st) I F else none) none
    | _ => none
  | .baload => match st with
    | .inl i :: .inr (.inr (.inr (.inr (some (b, o))))) :: st => cond (Nat.beq (K0 b o).1 2) (if inb i (K0 b o).2 then k tl lv (.inl (I b o i.toNatClampNeg) :: st) I F else none) none
    | _ => none
  | .faload => match st with
    | .inl i :: .inr (.inr (.inr (.inr (some (b, o))))) :: st => cond (Nat.beq (K0 b o).1 3) (if inb i (K0 b o).2 then k tl lv (vF (F b o i.toNatClampNeg) :: st) I F else none) none
    | _ => none
  | .aaload => match st with
    | .inl i :: .inr (.inr (.inr (.inr (some (b, o))))) :: st => cond (Nat.beq (K0 b o).1 4) (if inb i (K0 b o).2 then k tl lv (vR (R0 b o i.toNatClampNeg) :: st) I F else none) none
    | _ => none
  | .iastore => match st with
    | .inl x :: .inl i :: .inr (.inr (.inr (.inr (some (b, o))))) :: st => cond (Nat.beq (K0 b o).1 1) (if inb i (K0 b o).2 then k tl lv st (wI I b o i.toNatClampNeg x) F else none) none
    | _ => none
  | .bastore => match st with
    | .inl x :: .inl i :: .inr (.inr (.inr (.inr (some (b, o))))) :: st => cond (Nat.beq (K0 b o).1 2) (if inb i (K0 b o).2 then k tl lv st (wI I b o i.toNatClampNeg (vp_nar .boolean x)) F else none) none
    | _ => none
  | .fastore => match st with
    | .inr (.inr (.inl x)) :: .inl i :: .inr (.inr (.inr (.inr (some (b, o))))) :: st => cond (Nat.beq (K0 b o).1 3) (if inb i (K0 b o).2 then k tl lv st I (wF F b o i.toNatClampNeg x) else none) none
    | _ => none
  | .arraylength => match st with
    | .inr (.inr (.inr (.inr (some (b, o))))) :: st => cond (Nat.ble 1 (K0 b o).1 && Nat.ble (K0 b o).1 4) (k tl lv (.inl (Int32.ofNat (K0 b o).2) :: st) I F) none
    | _ => none
  | .ireturn => match st with
    | [.inl x] => cond (Nat.beq rk 1) (some (.inl x, I, F)) (cond (Nat.beq rk 6) (if x = 0 ∨ x = 1 then some (.inl x, I, F) else none) none)
    | _ => none
  | .lreturn => match st with
    | [.inr (.inl x)] => cond (Nat.beq rk 2) (some (vL x, I, F)) none
    | _ => none
  | .freturn => match st with
    | [.inr (.inr (.inl x))] => cond (Nat.beq rk 3) (some (vF x, I, F)) none
    | _ => none
  | .dreturn => match st with
    | [.inr (.inr (.inr (.inl x)))] => cond (Nat.beq rk 4) (some (vD x, I, F)) none
    | _ => none
  | .areturn => match st with
    | [.inr (.inr (.inr (.inr x)))] => cond (Nat.beq rk 5) (some (vR x, I, F)) none
    | _ => none
  | .return_ => match st with
    | [] => cond (Nat.beq rk 0) (some (.inl 0, I, F)) none
    | _ => none
  | .invokevirtual _ => match aux with
    | [y, na, rt, c] => match pop (na + 1) [] st with
      | some (.inr (.inr (.inr (.inr (some (b, o))))) :: as, st) => cond (isO (K0 b o) c && Nat.ble (csm st) 12) (match rt with
        | 0 => bV (gc y (vR (some (b, o)) :: as) I F) (fun I F => k tl lv st I F)
        | 1 => bI (gc y (vR (some (b, o)) :: as) I F) (fun x I F => k tl lv (.inl x :: st) I F)
        | 2 => bL (gc y (vR (some (b, o)) :: as) I F) (fun x I F => k tl lv (vL x :: st) I F)
        | 3 => bF (gc y (vR (some (b, o)) :: as) I F) (fun x I F => k tl lv (vF x :: st) I F)
        | 4 => bD (gc y (vR (some (b, o)) :: as) I F) (fun x I F => k tl lv (vD x :: st) I F)
        | _ => bR (gc y (vR (some (b, o)) :: as) I F) (fun x I F => k tl lv (vR x :: st) I F)) none
      | _ => none
    | _ => none
  | .invokestatic _ => match aux with
    | [y, na, rt] => match pop na [] st with
      | some (as, st) => cond (Nat.ble st.length 4) (match rt with
        | 0 => bV (gc y as I F) (fun I F => k tl lv st I F)
        | 1 => bI (gc y as I F) (fun x I F => k tl lv (.inl x :: st) I F)
        | 2 => bL (gc y as I F) (fun x I F => k tl lv (vL x :: st) I F)
        | 3 => bF (gc y as I F) (fun x I F => k tl lv (vF x :: st) I F)
        | 4 => bD (gc y as I F) (fun x I F => k tl lv (vD x :: st) I F)
        | _ => bR (gc y as I F) (fun x I F => k tl lv (vR x :: st) I F)) none
      | _ => none
    | [0] => match st with
      | .inl n :: .inl dp :: .inr (.inr (.inr (.inr (some (b, o))))) :: .inl sp :: .inr (.inr (.inr (.inr (some (sb, so))))) :: st => cond (Nat.beq (K0 b o).1 1 && Nat.beq (K0 sb so).1 1 && Nat.beq st.length 0) (if inb n 2000000000 ∧ inb sp ((K0 sb so).2 + 1 - n.toNatClampNeg) ∧ inb dp ((K0 b o).2 + 1 - n.toNatClampNeg) then k tl lv st (cI I b o sb so sp.toNatClampNeg dp.toNatClampNeg n.toNatClampNeg) F else none) none
      | _ => none
    | [1] => match st with
      | .inr (.inr (.inl x)) :: st => cond (Nat.ble st.length 4) (k tl lv (.inl x.toInt32 :: st) I F) none
      | _ => none
    | [2] => match st with
      | .inr (.inr (.inr (.inl x))) :: st => cond (Nat.ble st.length 4) (k tl lv (vL x.toInt64 :: st) I F) none
      | _ => none
    | _ => none
  | _ => none
/-- a stretch of a method, up to its end or to the head of a loop; gc: what calls do, gl: what a loop does -/
def seg (gc : Nat → List Vl → IM → FM → Option Rs) (gl : Nat → List Vl → IM → FM → Option Rs) (rk : Nat) (full : Cd) : Nat → Bool → Cd → Lv → List Vl → IM → FM → Option Rs
  | 0, _, _, _, _, _, _ => none
  | _ + 1, _, [], _, _, _, _ => none
  | n + 1, chk, (pc, hd, ins, _, aux, z) :: tl, lv, st, I, F => match chk, hd with
    | true, some live => match lks lv live with
      | some vs => gl pc (vs ++ st) I F
      | none => none
    | _, _ => ex gc rk full (seg gc gl rk full n true) ins aux z tl lv st I F
/-- the locals with which a method begins -/
def ent : Nat → List Vl → Lv
  | _, [] => []
  | i, v :: vs => (i, v) :: ent (cond (c2 v) (i + 2) (i + 1)) vs
/-- the loops of a method and the places where its ways meet, so many at most -/
def sg (gc : Nat → List Vl → IM → FM → Option Rs) (rk : Nat) (cd : Cd) : Nat → Nat → List Vl → IM → FM → Option Rs
  | 0, _, _, _, _ => none
  | n + 1, pc, vs, I, F => match jmp pc cd with
    | (q, some live, r) :: tl => seg gc (sg gc rk cd n) rk cd 400 false ((q, some live, r) :: tl) (live.zip vs) (vs.drop live.length) I F
    | _ => none
def runM (gc gl : Nat → List Vl → IM → FM → Option Rs) (m : Nat × Cd) (args : List Vl) (I : IM) (F : FM) : Option Rs := seg gc gl m.1 m.2 400 false m.2 (ent 0 args) [] I F
