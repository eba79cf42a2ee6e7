/-! A machine of my own over the cells that the constructors make: ints and longs by cell and place; references never change. -/
abbrev mSt : Type := (Nat → Nat → Int32) × (Nat → Nat → Int64)
def sI (σ : mSt) (o k : Nat) (v : Int32) : mSt := (fun a b => if a = o ∧ b = k then v else σ.1 a b, σ.2)
def sL (σ : mSt) (o k : Nat) (v : Int64) : mSt := (σ.1, fun a b => if a = o ∧ b = k then v else σ.2 a b)
def cpI (σ : mSt) (a b : Nat) (sp dp n : Nat) : mSt := (fun o k => if o = b then va_cpy (σ.1 a) (σ.1 b) sp dp n k else σ.1 o k, σ.2)
def cpL (σ : mSt) (a b : Nat) (sp dp n : Nat) : mSt := (σ.1, fun o k => if o = b then va_cpy (σ.2 a) (σ.2 b) sp dp n k else σ.2 o k)
/-- a place of the locals of which nothing is known -/
abbrev uu : Value := .retAddr 0
def kn : Value → Bool
  | .retAddr _ => false
  | _ => true
def clr : Value → Value
  | .long _ => uu
  | .double _ => uu
  | v => v
def lst1 : List Value → Nat → Value → List Value
  | [], _, _ => []
  | _ :: t, 0, v => v :: t
  | a :: t, 1, v => clr a :: lst1 t 0 v
  | a :: t, n + 2, v => a :: lst1 t (n + 1) v
def lst2 (ls : List Value) (i : Nat) (v : Value) : List Value := (lst1 ls i v).set (i + 1) uu
def xpd (vs : List Value) : List Value := vs.flatMap fun v => if v.category = 2 then [v, uu] else [v]
def ent (n : Nat) (vs : List Value) : List Value := xpd vs ++ List.replicate (n - (xpd vs).length) uu
abbrev mRes : Type := Option ((Nat × List Value × List Value × mSt) ⊕ ((mM × List Value × Nat × List Value × List Value) ⊕ Option Value))
def nx (i : Nat) (ls st : List Value) (σ : mSt) : mRes := some (.inl (i, ls, st, σ))
def jp (i : Nat) (off : Int) (ls st : List Value) (σ : mSt) : mRes := if 0 ≤ (i : Int) + off then nx ((i : Int) + off).toNat ls st σ else none
def br (i : Nat) (off : Int) (c : Prop) [Decidable c] (ls st : List Value) (σ : mSt) : mRes := if 0 ≤ (i : Int) + off then nx (if c then ((i : Int) + off).toNat else i + 3) ls st σ else none
def mStarts : Nat → Int32 := fun k => if k = 0 then 0 else if k = 1 then 8 else if k = 2 then 12 else 20
/-- the script: how many, which -/
abbrev mEn : Type := Nat × (Nat → Int32)
def iRow (E : mEn) (σ : mSt) (o : Nat) : Option (Nat × (Nat → Int32)) := if o = 1000 then some (E.1, E.2) else if o = 1001 then some (4, mStarts) else match mS0[o]? with
  | some (0, n, _) => some (n, σ.1 o)
  | _ => none
def aLen (E : mEn) (o : Nat) : Option Nat := if o = 1000 then some E.1 else if o = 1001 then some 4 else match mS0[o]? with
  | some (t, n, _) => if t < 5 then some n else none
  | none => none
def mOut (j : Int32) (n : Nat) : Bool := decide (j < 0) || decide (n ≤ j.toNatClampNeg)
def cats (st : List Value) : Nat := (st.map fun v => v.category).sum
/-- may a field be written here (no final one), and what of its sort -/
def mFin (ci k : Nat) : Bool := match vwCl[ci]? with
  | some (_, T, _) => (T k).2.2.2
  | none => true
def mTyF (ci k : Nat) : FieldType := match ci with
  | 0 => tyX0 k
  | 1 => tyX1 k
  | 2 => tyX2 k
  | 3 => tyX3 k
  | 4 => tyX4 k
  | 5 => tyX5 k
  | 6 => tyX6 k
  | 7 => tyX7 k
  | 8 => tyX8 k
  | 9 => tyX9 k
  | 10 => tyX10 k
  | _ => tyX11 k
def doCall (M' : mM) (vs : List Value) (i : Nat) (ls st : List Value) : mRes := if (xpd vs).length ≤ mL M' ∧ cats st ≤ 8 then some (.inr (.inl (M', vs, i, ls, st))) else none
def doCopy (i : Nat) (ls st : List Value) (σ : mSt) : mRes := match st with
  | .int n :: .int dp :: .ref b :: .int sp :: .ref a :: st => if sp < 0 ∨ dp < 0 ∨ n < 0 ∨ 8 < cats st then none else match mS0[a]?, mS0[b]? with
    | some (ta, na, _), some (tb, nb, _) => if ta = tb ∧ sp.toNatClampNeg + n.toNatClampNeg ≤ na ∧ dp.toNatClampNeg + n.toNatClampNeg ≤ nb then
        (if ta = 0 then nx (i + 3) ls st (cpI σ a b sp.toNatClampNeg dp.toNatClampNeg n.toNatClampNeg)
         else if ta = 2 then (if (List.range n.toNatClampNeg).all (fun j => fits .boolean (.int (σ.1 a (sp.toNatClampNeg + j)))) then nx (i + 3) ls st (cpI σ a b sp.toNatClampNeg dp.toNatClampNeg n.toNatClampNeg) else none)
         else if ta = 3 then nx (i + 3) ls st (cpL σ a b sp.toNatClampNeg dp.toNatClampNeg n.toNatClampNeg)
         else none) else none
    | _, _ => none
  | _ => none
def doStat (M : mM) (idx i : Nat) (ls st : List Value) (σ : mSt) : mRes := match mRz (mK M) idx with
  | some (.inr (.inl (true, M', n))) => if (st.take n).length = n then doCall M' (st.take n).reverse (i + 3) ls (st.drop n) else none
  | some (.inr (.inr (.inr (.inr 0)))) => doCopy i ls st σ
  | some (.inr (.inr (.inr (.inr 2)))) => (match st with
    | .int y :: .int x :: st => if cats st ≤ 8 then nx (i + 3) ls (.int (if x < y then y else x) :: st) σ else none
    | _ => none)
  | some (.inr (.inr (.inr (.inr 3)))) => (match st with
    | .int y :: .int x :: st => if cats st ≤ 8 then nx (i + 3) ls (.int (if y < x then y else x) :: st) σ else none
    | _ => none)
  | some (.inr (.inr (.inr (.inr 4)))) => (match st with
    | .long y :: .long x :: st => if cats st ≤ 8 then nx (i + 3) ls (.long (if y < x then x else y) :: st) σ else none
    | _ => none)
  | some (.inr (.inr (.inr (.inr 5)))) => (match st with
    | .long x :: st => if cats st ≤ 8 then nx (i + 3) ls (.long (if 0 < x then x else -x) :: st) σ else none
    | _ => none)
  | _ => none
def doVirt (M : mM) (idx i : Nat) (ls st : List Value) : mRes := match mRz (mK M) idx with
  | some (.inr (.inl (false, M', n))) => (match st.drop n with
    | .ref b :: st' => (match mS0[b]? with
      | some (5, ci, _) => if ci = mK M' ∧ (st.take n).length = n then doCall M' (.ref b :: (st.take n).reverse) (i + 3) ls st' else none
      | _ => none)
    | _ => none)
  | _ => none
def doGet (M : mM) (idx i : Nat) (ls st : List Value) (σ : mSt) : mRes := match st, mRz (mK M) idx with
  | .ref o :: st, some (.inl (ci, k)) => (match mS0[o]? with
    | some (5, c', fl) => if c' = ci then (match fl[k]? with
      | some 0 => nx (i + 3) ls (.int (σ.1 o k) :: st) σ
      | some 1 => nx (i + 3) ls (.long (σ.2 o k) :: st) σ
      | some (r + 2) => nx (i + 3) ls (.ref r :: st) σ
      | none => none) else none
    | _ => none)
  | _, _ => none
def doPut (M : mM) (idx i : Nat) (ls st : List Value) (σ : mSt) : mRes := match st, mRz (mK M) idx with
  | .int v :: .ref o :: st, some (.inl (ci, k)) => (match mS0[o]? with
    | some (5, c', fl) => if c' = ci ∧ mFin ci k = false ∧ fl[k]? = some 0 then
        (if mTyF ci k = .int then nx (i + 3) ls st (sI σ o k v)
         else if mTyF ci k = .boolean then (if v = 0 ∨ v = 1 then nx (i + 3) ls st (sI σ o k v) else none) else none) else none
    | _ => none)
  | .long v :: .ref o :: st, some (.inl (ci, k)) => (match mS0[o]? with
    | some (5, c', fl) => if c' = ci ∧ mFin ci k = false ∧ fl[k]? = some 1 ∧ mTyF ci k = .long then nx (i + 3) ls st (sL σ o k v) else none
    | _ => none)
  | _, _ => none
def cm0 (c : ClassFile.Cond) (x : Int32) : Bool := match c with
  | .eq => decide (x = 0)
  | .ne => decide (¬ x = 0)
  | .lt => decide (x < 0)
  | .ge => decide (0 ≤ x)
  | .gt => decide (0 < x)
  | .le => decide (x ≤ 0)
def cm2 (c : ClassFile.Cond) (x y : Int32) : Bool := match c with
  | .eq => decide (x = y)
  | .ne => decide (¬ x = y)
  | .lt => decide (x < y)
  | .ge => decide (y ≤ x)
  | .gt => decide (y < x)
  | .le => decide (x ≤ y)
def ldI (i : Nat) (k : Nat) (ls st : List Value) (σ : mSt) : mRes := match ls[k]? with
  | some (.int v) => nx i ls (.int v :: st) σ
  | _ => none
def ldJ (i : Nat) (k : Nat) (ls st : List Value) (σ : mSt) : mRes := match ls[k]? with
  | some (.long v) => nx i ls (.long v :: st) σ
  | _ => none
def ldA (i : Nat) (k : Nat) (ls st : List Value) (σ : mSt) : mRes := match ls[k]? with
  | some (.ref v) => nx i ls (.ref v :: st) σ
  | _ => none
def stI (i : Nat) (k : Nat) (ls st : List Value) (σ : mSt) : mRes := match st with
  | .int v :: st => if k < ls.length then nx i (lst1 ls k (.int v)) st σ else none
  | _ => none
def stA (i : Nat) (k : Nat) (ls st : List Value) (σ : mSt) : mRes := match st with
  | .ref v :: st => if k < ls.length then nx i (lst1 ls k (.ref v)) st σ else none
  | _ => none
def stJ (i : Nat) (k : Nat) (ls st : List Value) (σ : mSt) : mRes := match st with
  | .long v :: st => if k + 1 < ls.length then nx i (lst2 ls k (.long v)) st σ else none
  | _ => none
def o2 (f : Int32 → Int32 → Int32) (i : Nat) (ls st : List Value) (σ : mSt) : mRes := match st with
  | .int y :: .int x :: st => nx (i + 1) ls (.int (f x y) :: st) σ
  | _ => none
def o2d (f : Int32 → Int32 → Int32) (i : Nat) (ls st : List Value) (σ : mSt) : mRes := match st with
  | .int y :: .int x :: st => if y = 0 then none else nx (i + 1) ls (.int (f x y) :: st) σ
  | _ => none
def p2 (f : Int64 → Int64 → Int64) (i : Nat) (ls st : List Value) (σ : mSt) : mRes := match st with
  | .long y :: .long x :: st => nx (i + 1) ls (.long (f x y) :: st) σ
  | _ => none
def p2d (f : Int64 → Int64 → Int64) (i : Nat) (ls st : List Value) (σ : mSt) : mRes := match st with
  | .long y :: .long x :: st => if y = 0 then none else nx (i + 1) ls (.long (f x y) :: st) σ
  | _ => none
def o1 (f : Int32 → Value) (i : Nat) (ls st : List Value) (σ : mSt) : mRes := match st with
  | .int x :: st => nx (i + 1) ls (f x :: st) σ
  | _ => none
def p1 (f : Int64 → Value) (i : Nat) (ls st : List Value) (σ : mSt) : mRes := match st with
  | .long x :: st => nx (i + 1) ls (f x :: st) σ
  | _ => none
def doSw (i : Nat) (d lo hi : Int) (offs : Array Int) (ls st : List Value) (σ : mSt) : mRes := match st with
  | .int x :: st => if x.toInt < lo ∨ hi < x.toInt then jp i d ls st σ else match offs[(x.toInt - lo).toNat]? with
    | some off => jp i off ls st σ
    | none => none
  | _ => none
def doLk (i : Nat) (d : Int) (ps : Array (Int × Int)) (ls st : List Value) (σ : mSt) : mRes := match st with
  | .int x :: st => if (ps.toList.zip (ps.toList.drop 1)).all (fun (a, next) => a.1 < next.1) = true then jp i (Op.lookupswitch.offset ps.toList d x.toInt) ls st σ else none
  | _ => none
def doAld (E : mEn) (i : Nat) (ls st : List Value) (σ : mSt) : mRes := match st with
  | .int j :: .ref o :: st => (match iRow E σ o with
    | some (n, f) => if mOut j n = true then none else nx (i + 1) ls (.int (f j.toNatClampNeg) :: st) σ
    | none => none)
  | _ => none
def doAst (i : Nat) (ls st : List Value) (σ : mSt) : mRes := match st with
  | .int x :: .int j :: .ref o :: st => (match mS0[o]? with
    | some (0, n, _) => if mOut j n = true then none else nx (i + 1) ls st (sI σ o j.toNatClampNeg x)
    | _ => none)
  | _ => none
def doBld (i : Nat) (ls st : List Value) (σ : mSt) : mRes := match st with
  | .int j :: .ref o :: st => (match mS0[o]? with
    | some (1, n, _) => if mOut j n = true then none else nx (i + 1) ls (.int (σ.1 o j.toNatClampNeg) :: st) σ
    | some (2, n, _) => if mOut j n = true then none else nx (i + 1) ls (.int (σ.1 o j.toNatClampNeg) :: st) σ
    | _ => none)
  | _ => none
def doBst (i : Nat) (ls st : List Value) (σ : mSt) : mRes := match st with
  | .int x :: .int j :: .ref o :: st => (match mS0[o]? with
    | some (1, n, _) => if mOut j n = true then none else nx (i + 1) ls st (sI σ o j.toNatClampNeg (vp_nar .byte x))
    | some (2, n, _) => if mOut j n = true then none else nx (i + 1) ls st (sI σ o j.toNatClampNeg (vp_nar .boolean x))
    | _ => none)
  | _ => none
def doLld (i : Nat) (ls st : List Value) (σ : mSt) : mRes := match st with
  | .int j :: .ref o :: st => (match mS0[o]? with
    | some (3, n, _) => if mOut j n = true then none else nx (i + 1) ls (.long (σ.2 o j.toNatClampNeg) :: st) σ
    | _ => none)
  | _ => none
def doLst (i : Nat) (ls st : List Value) (σ : mSt) : mRes := match st with
  | .long x :: .int j :: .ref o :: st => (match mS0[o]? with
    | some (3, n, _) => if mOut j n = true then none else nx (i + 1) ls st (sL σ o j.toNatClampNeg x)
    | _ => none)
  | _ => none
def doQld (i : Nat) (ls st : List Value) (σ : mSt) : mRes := match st with
  | .int j :: .ref o :: st => (match mS0[o]? with
    | some (4, n, fl) => if mOut j n = true then none else (match fl[j.toNatClampNeg]? with
      | some r => nx (i + 1) ls (.ref r :: st) σ
      | none => none)
    | _ => none)
  | _ => none
def doRet (M : mM) (st : List Value) : mRes := match st with
  | [.int v] => if mR M = some .int then some (.inr (.inr (some (.int v)))) else if mR M = some .boolean ∧ (v = 0 ∨ v = 1) then some (.inr (.inr (some (.int v)))) else none
  | _ => none
def doRetJ (M : mM) (st : List Value) : mRes := match st with
  | [.long v] => if mR M = some .long then some (.inr (.inr (some (.long v)))) else none
  | _ => none
def doRetV (M : mM) (st : List Value) : mRes := match st with
  | [] => if mR M = none then some (.inr (.inr none)) else none
  | _ => none
def doDup (i : Nat) (ls st : List Value) (σ : mSt) : mRes := match st with
  | v :: st => if v.category = 1 then nx (i + 1) ls (v :: v :: st) σ else none
  | _ => none
def doDup2 (i : Nat) (ls st : List Value) (σ : mSt) : mRes := match st with
  | v :: w :: st => if v.category = 1 ∧ w.category = 1 then nx (i + 1) ls (v :: w :: v :: w :: st) σ else none
  | _ => none
def doPop (i : Nat) (ls st : List Value) (σ : mSt) : mRes := match st with
  | v :: st => if v.category = 1 then nx (i + 1) ls st σ else none
  | _ => none
def doIinc (i k : Nat) (n : Int) (ls st : List Value) (σ : mSt) : mRes := match ls[k]? with
  | some (.int v) => nx (i + 3) (lst1 ls k (.int (v + Int32.ofInt n))) st σ
  | _ => none
def doLen (E : mEn) (i : Nat) (ls st : List Value) (σ : mSt) : mRes := match st with
  | .ref o :: st => (match aLen E o with
    | some n => nx (i + 1) ls (.int (Int32.ofNat n) :: st) σ
    | none => none)
  | _ => none
def doLdc (M : mM) (idx i : Nat) (ls st : List Value) (σ : mSt) : mRes := match mRz (mK M) idx with
  | some (.inr (.inr (.inl v))) => nx i ls (.int v :: st) σ
  | _ => none
def doLdc2 (M : mM) (idx i : Nat) (ls st : List Value) (σ : mSt) : mRes := match mRz (mK M) idx with
  | some (.inr (.inr (.inr (.inl v)))) => nx i ls (.long v :: st) σ
  | _ => none
def doGets (M : mM) (idx i : Nat) (ls st : List Value) (σ : mSt) : mRes := match mRz (mK M) idx with
  | some (.inr (.inr (.inr (.inr 1)))) => nx (i + 3) ls (.ref 1001 :: st) σ
  | _ => none
def doNull (i : Nat) (ls st : List Value) (σ : mSt) : mRes := match st with
  | .ref _ :: st => nx (i + 3) ls st σ
  | _ => none
def doIf (i : Nat) (c : ClassFile.Cond) (off : Int) (ls st : List Value) (σ : mSt) : mRes := match st with
  | .int x :: st => br i off (cm0 c x = true) ls st σ
  | _ => none
def doIf2 (i : Nat) (c : ClassFile.Cond) (off : Int) (ls st : List Value) (σ : mSt) : mRes := match st with
  | .int y :: .int x :: st => br i off (cm2 c x y = true) ls st σ
  | _ => none
def doShl (i : Nat) (ls st : List Value) (σ : mSt) : mRes := match st with
  | .int y :: .long x :: st => nx (i + 1) ls (.long (x <<< (y.toInt64 &&& 63)) :: st) σ
  | _ => none
def doLcmp (i : Nat) (ls st : List Value) (σ : mSt) : mRes := match st with
  | .long y :: .long x :: st => nx (i + 1) ls (.int (lg_cmp x y) :: st) σ
  | _ => none
/-- one instruction -/
def stpI (E : mEn) (M : mM) (ins : Instr) (len i : Nat) (ls st : List Value) (σ : mSt) : mRes := match ins with
  | .aload_n k => if len = 1 then ldA (i + 1) k ls st σ else none
  | .iload_n k => if len = 1 then ldI (i + 1) k ls st σ else none
  | .lload_n k => if len = 1 then ldJ (i + 1) k ls st σ else none
  | .aload k => if len = 2 then ldA (i + 2) k ls st σ else none
  | .iload k => if len = 2 then ldI (i + 2) k ls st σ else none
  | .lload k => if len = 2 then ldJ (i + 2) k ls st σ else none
  | .astore_n k => if len = 1 then stA (i + 1) k ls st σ else none
  | .istore_n k => if len = 1 then stI (i + 1) k ls st σ else none
  | .lstore_n k => if len = 1 then stJ (i + 1) k ls st σ else none
  | .astore k => if len = 2 then stA (i + 2) k ls st σ else none
  | .istore k => if len = 2 then stI (i + 2) k ls st σ else none
  | .lstore k => if len = 2 then stJ (i + 2) k ls st σ else none
  | .iinc k n => if len = 3 then doIinc i k n ls st σ else none
  | .iconst n => if len = 1 then nx (i + 1) ls (.int (Int32.ofInt n) :: st) σ else none
  | .bipush n => if len = 2 then nx (i + 2) ls (.int (Int8.ofInt n).toInt32 :: st) σ else none
  | .sipush n => if len = 3 then nx (i + 3) ls (.int (Int16.ofInt n).toInt32 :: st) σ else none
  | .lconst n => if len = 1 then nx (i + 1) ls (.long (Int64.ofNat n) :: st) σ else none
  | .ldc idx => if len = 2 then doLdc M idx (i + 2) ls st σ else none
  | .ldc_w idx => if len = 3 then doLdc M idx (i + 3) ls st σ else none
  | .ldc2_w idx => if len = 3 then doLdc2 M idx (i + 3) ls st σ else none
  | .iadd => if len = 1 then o2 (fun x y => x + y) i ls st σ else none
  | .isub => if len = 1 then o2 (fun x y => x - y) i ls st σ else none
  | .imul => if len = 1 then o2 (fun x y => x * y) i ls st σ else none
  | .iand => if len = 1 then o2 (fun x y => x &&& y) i ls st σ else none
  | .ior => if len = 1 then o2 (fun x y => x ||| y) i ls st σ else none
  | .ixor => if len = 1 then o2 (fun x y => x ^^^ y) i ls st σ else none
  | .ishl => if len = 1 then o2 (fun x y => x <<< (y &&& 31)) i ls st σ else none
  | .ishr => if len = 1 then o2 (fun x y => x >>> (y &&& 31)) i ls st σ else none
  | .idiv => if len = 1 then o2d (fun x y => x / y) i ls st σ else none
  | .irem => if len = 1 then o2d (fun x y => x - x / y * y) i ls st σ else none
  | .ineg => if len = 1 then o1 (fun x => .int (-x)) i ls st σ else none
  | .i2l => if len = 1 then o1 (fun x => .long x.toInt64) i ls st σ else none
  | .i2b => if len = 1 then o1 (fun x => .int x.toInt8.toInt32) i ls st σ else none
  | .i2s => if len = 1 then o1 (fun x => .int x.toInt16.toInt32) i ls st σ else none
  | .l2i => if len = 1 then p1 (fun x => .int x.toInt32) i ls st σ else none
  | .ladd => if len = 1 then p2 (fun x y => x + y) i ls st σ else none
  | .lsub => if len = 1 then p2 (fun x y => x - y) i ls st σ else none
  | .lmul => if len = 1 then p2 (fun x y => x * y) i ls st σ else none
  | .land => if len = 1 then p2 (fun x y => x &&& y) i ls st σ else none
  | .lor => if len = 1 then p2 (fun x y => x ||| y) i ls st σ else none
  | .ldiv => if len = 1 then p2d (fun x y => x / y) i ls st σ else none
  | .lrem => if len = 1 then p2d (fun x y => x - x / y * y) i ls st σ else none
  | .lshl => if len = 1 then doShl i ls st σ else none
  | .lcmp => if len = 1 then doLcmp i ls st σ else none
  | .ifCond c off => if len = 3 then doIf i c off ls st σ else none
  | .if_icmp c off => if len = 3 then doIf2 i c off ls st σ else none
  | .goto off => if len = 3 then jp i off ls st σ else none
  | .ifnull _ => if len = 3 then doNull i ls st σ else none
  | .tableswitch d lo hi offs => doSw i d lo hi offs ls st σ
  | .lookupswitch d ps => doLk i d ps ls st σ
  | .dup => if len = 1 then doDup i ls st σ else none
  | .dup2 => if len = 1 then doDup2 i ls st σ else none
  | .pop => if len = 1 then doPop i ls st σ else none
  | .arraylength => if len = 1 then doLen E i ls st σ else none
  | .iaload => if len = 1 then doAld E i ls st σ else none
  | .iastore => if len = 1 then doAst i ls st σ else none
  | .baload => if len = 1 then doBld i ls st σ else none
  | .bastore => if len = 1 then doBst i ls st σ else none
  | .laload => if len = 1 then doLld i ls st σ else none
  | .lastore => if len = 1 then doLst i ls st σ else none
  | .aaload => if len = 1 then doQld i ls st σ else none
  | .getfield idx => if len = 3 then doGet M idx i ls st σ else none
  | .putfield idx => if len = 3 then doPut M idx i ls st σ else none
  | .getstatic idx => if len = 3 then doGets M idx i ls st σ else none
  | .invokestatic idx => if len = 3 then doStat M idx i ls st σ else none
  | .invokevirtual idx => if len = 3 then doVirt M idx i ls st else none
  | .ireturn => if len = 1 then doRet M st else none
  | .lreturn => if len = 1 then doRetJ M st else none
  | .return_ => if len = 1 then doRetV M st else none
  | _ => none
def stp (E : mEn) (M : mM) (i : Nat) (ls st : List Value) (σ : mSt) : mRes := match decode (mC M) i with
  | .ok (ins, len) => stpI E M ins len i ls st σ
  | .error _ => none
abbrev mPost : Type := Option Value → mSt → Prop
abbrev mCS : Type := mM → List Value → mSt → mPost → Prop
def exS (cs : mCS) (Q : mPost) (X : Nat → List Value → List Value → mSt → Prop) (σ : mSt) : mRes → Prop
  | none => False
  | some (.inl (i, ls, st, σ')) => X i ls st σ'
  | some (.inr (.inl (M', vs, i, ls, st))) => cs M' vs σ (fun r σ' => X i ls (r.toList ++ st) σ')
  | some (.inr (.inr r)) => Q r σ
/-- the least predicate that is closed under steps -/
def lfpE (E : mEn) (cs : mCS) (M : mM) (Q : mPost) (i : Nat) (ls st : List Value) (σ : mSt) : Prop :=
  ∀ X : Nat → List Value → List Value → mSt → Prop, (∀ i ls st σ, exS cs Q X σ (stp E M i ls st σ) → X i ls st σ) → X i ls st σ
def csD (W0 : mM → Nat → List Value → List Value → mSt → mPost → Prop) : mCS := fun M' vs σ P => W0 M' 0 (ent (mL M') vs) [] σ P
def WP (E : mEn) : Nat → mM → Nat → List Value → List Value → mSt → mPost → Prop
  | 0 => fun M i ls st σ Q => lfpE E (fun _ _ _ _ => False) M Q i ls st σ
  | d + 1 => fun M i ls st σ Q => lfpE E (csD (WP E d)) M Q i ls st σ
def csE (E : mEn) : Nat → mCS
  | 0 => fun _ _ _ _ => False
  | d + 1 => csD (WP E d)
theorem WP_lfp (E : mEn) (d : Nat) (M : mM) (i : Nat) (ls st : List Value) (σ : mSt) (Q : mPost) : WP E d M i ls st σ Q = lfpE E (csE E d) M Q i ls st σ := by
  cases d <;> rfl
theorem lfp_mono {E : mEn} {cs : mCS} {M : mM} {Q Q' : mPost} (h : ∀ r σ, Q r σ → Q' r σ) {i : Nat} {ls st : List Value} {σ : mSt} (w : lfpE E cs M Q i ls st σ) : lfpE E cs M Q' i ls st σ := by
  intro X hX
  refine w X (fun i ls st σ hx => hX i ls st σ ?_)
  generalize stp E M i ls st σ = r at hx ⊢
  match r with
  | none => exact hx
  | some (.inl _) => exact hx
  | some (.inr (.inl _)) => exact hx
  | some (.inr (.inr r)) => exact h _ _ hx
theorem WP_mono {E : mEn} {d : Nat} {M : mM} {Q Q' : mPost} (h : ∀ r σ, Q r σ → Q' r σ) {i : Nat} {ls st : List Value} {σ : mSt} (w : WP E d M i ls st σ Q) : WP E d M i ls st σ Q' := by
  rw [WP_lfp] at w ⊢
  exact lfp_mono h w
theorem cs_mono {E : mEn} {d : Nat} {M : mM} {vs : List Value} {σ : mSt} {P P' : mPost} (h : ∀ r σ, P r σ → P' r σ) (w : csE E d M vs σ P) : csE E d M vs σ P' := by
  cases d with
  | zero => exact w
  | succ d => exact WP_mono h w
theorem ex_mono {E : mEn} {d : Nat} {Q : mPost} {X Y : Nat → List Value → List Value → mSt → Prop} (h : ∀ i ls st σ, X i ls st σ → Y i ls st σ) {σ : mSt} {r : mRes} (w : exS (csE E d) Q X σ r) : exS (csE E d) Q Y σ r := by
  match r with
  | none => exact w
  | some (.inl _) => exact h _ _ _ _ w
  | some (.inr (.inl _)) => exact cs_mono (fun r σ hx => h _ _ _ _ hx) w
  | some (.inr (.inr r)) => exact w
theorem WP_fold {E : mEn} {d : Nat} {M : mM} {Q : mPost} {i : Nat} {ls st : List Value} {σ : mSt} (w : exS (csE E d) Q (fun i ls st σ => WP E d M i ls st σ Q) σ (stp E M i ls st σ)) : WP E d M i ls st σ Q := by
  rw [WP_lfp]
  intro X hX
  refine hX _ _ _ _ (ex_mono (fun i ls st σ hw => ?_) w)
  rw [WP_lfp] at hw
  exact hw X hX
theorem WP_unf {E : mEn} {d : Nat} {M : mM} {Q : mPost} {i : Nat} {ls st : List Value} {σ : mSt} (w : WP E d M i ls st σ Q) : exS (csE E d) Q (fun i ls st σ => WP E d M i ls st σ Q) σ (stp E M i ls st σ) := by
  rw [WP_lfp] at w
  exact w (fun i ls st σ => exS (csE E d) Q (fun i ls st σ => WP E d M i ls st σ Q) σ (stp E M i ls st σ)) (fun i ls st σ hx => ex_mono (fun i ls st σ hy => WP_fold hy) hx)
theorem WP_eq {E : mEn} {d : Nat} {M : mM} {Q : mPost} {i : Nat} {ls st : List Value} {σ : mSt} : WP E d M i ls st σ Q = exS (csE E d) Q (fun i ls st σ => WP E d M i ls st σ Q) σ (stp E M i ls st σ) := propext ⟨WP_unf, WP_fold⟩
