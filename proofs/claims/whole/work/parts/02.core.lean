/-! An interpreter of the instructions that the class, the reference and the law use; its heap is a parameter. -/
abbrev iV : Type := Int32 ⊕ (Int64 ⊕ (Option (Nat × Nat) ⊕ Nat))
abbrev vI (x : Int32) : iV := Sum.inl x
abbrev vL (x : Int64) : iV := Sum.inr (Sum.inl x)
abbrev vR (t i : Nat) : iV := Sum.inr (Sum.inr (Sum.inl (some (t, i))))
abbrev vX (k : Nat) : iV := Sum.inr (Sum.inr (Sum.inr k))
abbrev iL : Type := List (Option iV)
abbrev iC : Type := Nat × iL × List iV
abbrev iI : Type := Jvm.ClassFile.Instr
/-- targets (of a switch: the default first) and the number that the instruction bears -/
abbrev iX : Type := List Nat × Int32
/-- pc, instruction, length, targets and number -/
abbrev iE : Type := Nat × iI × Nat × iX
def iGet : iL → Nat → Option iV
  | [], _ => none
  | a :: _, 0 => a
  | _ :: r, n + 1 => iGet r n
def iPut : iL → Nat → Option iV → Option iL
  | [], _, _ => none
  | _ :: r, 0, v => some (v :: r)
  | a :: r, n + 1, v => match iPut r n v with
    | none => none
    | some r' => some (a :: r')
def iLong : Option iV → Bool
  | some (Sum.inr (Sum.inl _)) => true
  | _ => false
def iClr : Option iV → Option iV
  | some (Sum.inr (Sum.inl _)) => none
  | x => x
def iSt1 (ls : iL) (i : Nat) (v : iV) : Option iL := match i with
  | 0 => iPut ls 0 (some v)
  | k + 1 => match iPut ls (k + 1) (some v) with
    | none => none
    | some l1 => iPut l1 k (iClr (iGet ls k))
def iSt2 (ls : iL) (i : Nat) (v : iV) : Option iL := match iSt1 ls i v with
  | none => none
  | some l1 => iPut l1 (i + 1) none
def iCat1 : iV → Bool
  | Sum.inr (Sum.inl _) => false
  | _ => true
def iCmp (c : Jvm.ClassFile.Cond) (a b : Int32) : Bool := match c with
  | .eq => decide (a = b)
  | .ne => !decide (a = b)
  | .lt => decide (a < b)
  | .ge => !decide (a < b)
  | .gt => decide (b < a)
  | .le => !decide (b < a)
def iPush (n : Nat) (v : iV) (c : iC) : Option iC := some (c.1 + n, c.2.1, v :: c.2.2)
def iLdI (n k : Nat) (c : iC) : Option iC := match iGet c.2.1 k with
  | some (Sum.inl x) => some (c.1 + n, c.2.1, vI x :: c.2.2)
  | some (Sum.inr (Sum.inr (Sum.inr x))) => some (c.1 + n, c.2.1, vX x :: c.2.2)
  | _ => none
def iLdL (n k : Nat) (c : iC) : Option iC := match iGet c.2.1 k with
  | some (Sum.inr (Sum.inl x)) => some (c.1 + n, c.2.1, vL x :: c.2.2)
  | _ => none
def iLdA (n k : Nat) (c : iC) : Option iC := match iGet c.2.1 k with
  | some (Sum.inr (Sum.inr (Sum.inl (some (t, i))))) => some (c.1 + n, c.2.1, vR t i :: c.2.2)
  | _ => none
def iStI (n k : Nat) (c : iC) : Option iC := match c.2.2 with
  | Sum.inl x :: r => match iSt1 c.2.1 k (vI x) with
    | none => none
    | some ls => some (c.1 + n, ls, r)
  | _ => none
def iStL (n k : Nat) (c : iC) : Option iC := match c.2.2 with
  | Sum.inr (Sum.inl x) :: r => match iSt2 c.2.1 k (vL x) with
    | none => none
    | some ls => some (c.1 + n, ls, r)
  | _ => none
def iStA (n k : Nat) (c : iC) : Option iC := match c.2.2 with
  | Sum.inr (Sum.inr (Sum.inl (some (t, i)))) :: r => match iSt1 c.2.1 k (vR t i) with
    | none => none
    | some ls => some (c.1 + n, ls, r)
  | _ => none
def iInc (k : Nat) (x : Int32) (c : iC) : Option iC := match iGet c.2.1 k with
  | some (Sum.inl v) => match iSt1 c.2.1 k (vI (v + x)) with
    | none => none
    | some ls => some (c.1 + 3, ls, c.2.2)
  | _ => none
def iBin (f : Int32 → Int32 → Int32) (c : iC) : Option iC := match c.2.2 with
  | Sum.inl b :: Sum.inl a :: r => some (c.1 + 1, c.2.1, vI (f a b) :: r)
  | _ => none
def iDiv (f : Int32 → Int32 → Int32) (c : iC) : Option iC := match c.2.2 with
  | Sum.inl b :: Sum.inl a :: r => match decide (b = 0) with
    | true => none
    | false => some (c.1 + 1, c.2.1, vI (f a b) :: r)
  | _ => none
def iRem (a b : Int32) : Int32 := a - a / b * b
def iShl (a b : Int32) : Int32 := a <<< (b &&& 31)
def iShr (a b : Int32) : Int32 := a >>> (b &&& 31)
def iUsh (a b : Int32) : Int32 := (a.toUInt32 >>> (b.toUInt32 &&& Int32.toUInt32 31)).toInt32
def iNeg (c : iC) : Option iC := match c.2.2 with
  | Sum.inl a :: r => some (c.1 + 1, c.2.1, vI (-a) :: r)
  | _ => none
def iI2L (c : iC) : Option iC := match c.2.2 with
  | Sum.inl a :: r => some (c.1 + 1, c.2.1, vL a.toInt64 :: r)
  | _ => none
def iLSub (c : iC) : Option iC := match c.2.2 with
  | Sum.inr (Sum.inl b) :: Sum.inr (Sum.inl a) :: r => some (c.1 + 1, c.2.1, vL (a - b) :: r)
  | _ => none
def iLCmp (c : iC) : Option iC := match c.2.2 with
  | Sum.inr (Sum.inl b) :: Sum.inr (Sum.inl a) :: r => some (c.1 + 1, c.2.1, vI (lg_cmp a b) :: r)
  | _ => none
def iDup (c : iC) : Option iC := match c.2.2 with
  | a :: r => match iCat1 a with
    | true => some (c.1 + 1, c.2.1, a :: a :: r)
    | false => none
  | _ => none
def iPop (c : iC) : Option iC := match c.2.2 with
  | a :: r => match iCat1 a with
    | true => some (c.1 + 1, c.2.1, r)
    | false => none
  | _ => none
def iDupX1 (c : iC) : Option iC := match c.2.2 with
  | a :: b :: r => match iCat1 a && iCat1 b with
    | true => some (c.1 + 1, c.2.1, a :: b :: a :: r)
    | false => none
  | _ => none
def iDupX2 (c : iC) : Option iC := match c.2.2 with
  | a :: b :: d :: r => match iCat1 a && (iCat1 b && iCat1 d) with
    | true => some (c.1 + 1, c.2.1, a :: b :: d :: a :: r)
    | false => none
  | _ => none
def iDup2 (c : iC) : Option iC := match c.2.2 with
  | a :: b :: r => match iCat1 a && iCat1 b with
    | true => some (c.1 + 1, c.2.1, a :: b :: a :: b :: r)
    | false => none
  | _ => none
def iBr2 (k : Jvm.ClassFile.Cond) (ts : List Nat) (c : iC) : Option iC := match ts, c.2.2 with
  | [t], Sum.inl b :: Sum.inl a :: r => match iCmp k a b with
    | true => some (t, c.2.1, r)
    | false => some (c.1 + 3, c.2.1, r)
  | _, _ => none
def iBr1 (k : Jvm.ClassFile.Cond) (ts : List Nat) (c : iC) : Option iC := match ts, c.2.2 with
  | [t], Sum.inl a :: r => match iCmp k a 0 with
    | true => some (t, c.2.1, r)
    | false => some (c.1 + 3, c.2.1, r)
  | _, _ => none
def iGoto (ts : List Nat) (c : iC) : Option iC := match ts with
  | [t] => some (t, c.2.1, c.2.2)
  | _ => none
/-- a switch: the first target is the default; keys are the values in order -/
def iPick : List Int → List Nat → Nat → Int → Nat
  | k :: ks, t :: ts, d, x => match decide (x = k) with
    | true => t
    | false => iPick ks ts d x
  | _, _, d, _ => d
def iSw (ks : List Int) (ts : List Nat) (c : iC) : Option iC := match ts, c.2.2 with
  | d :: tr, Sum.inl x :: r => some (iPick ks tr d x.toInt, c.2.1, r)
  | _, _ => none
def iKeys (lo : Int) : Nat → List Int
  | 0 => []
  | n + 1 => lo :: iKeys (lo + 1) n
def iStp (i : iI) (tx : iX) (c : iC) : Option iC := match i with
  | .iconst _ => iPush 1 (vI tx.2) c
  | .bipush _ => iPush 2 (vI tx.2) c
  | .sipush _ => iPush 3 (vI tx.2) c
  | .lconst k => iPush 1 (vL (Int64.ofNat (k : Nat))) c
  | .ldc _ => iPush 2 (vI tx.2) c
  | .ldc2_w _ => iPush 3 (vL tx.2.toInt64) c
  | .iload k => iLdI 2 k c
  | .iload_n k => iLdI 1 (k : Nat) c
  | .lload k => iLdL 2 k c
  | .lload_n k => iLdL 1 (k : Nat) c
  | .aload k => iLdA 2 k c
  | .aload_n k => iLdA 1 (k : Nat) c
  | .istore k => iStI 2 k c
  | .istore_n k => iStI 1 (k : Nat) c
  | .lstore k => iStL 2 k c
  | .lstore_n k => iStL 1 (k : Nat) c
  | .astore k => iStA 2 k c
  | .astore_n k => iStA 1 (k : Nat) c
  | .iinc k _ => iInc k tx.2 c
  | .iadd => iBin (fun a b => a + b) c
  | .isub => iBin (fun a b => a - b) c
  | .imul => iBin (fun a b => a * b) c
  | .iand => iBin (fun a b => a &&& b) c
  | .ior => iBin (fun a b => a ||| b) c
  | .ixor => iBin (fun a b => a ^^^ b) c
  | .ishl => iBin iShl c
  | .ishr => iBin iShr c
  | .iushr => iBin iUsh c
  | .idiv => iDiv (fun a b => a / b) c
  | .irem => iDiv iRem c
  | .ineg => iNeg c
  | .i2l => iI2L c
  | .lsub => iLSub c
  | .lcmp => iLCmp c
  | .dup => iDup c
  | .pop => iPop c
  | .dup_x1 => iDupX1 c
  | .dup_x2 => iDupX2 c
  | .dup2 => iDup2 c
  | .if_icmp k _ => iBr2 k tx.1 c
  | .ifCond k _ => iBr1 k tx.1 c
  | .goto _ => iGoto tx.1 c
  | .tableswitch _ lo _ offs => iSw (iKeys lo offs.size) tx.1 c
  | _ => none
/-- the length of an instruction, and its targets, as the table must have them -/
def iLen : iI → Nat
  | .bipush _ => 2
  | .sipush _ => 3
  | .iload _ => 2
  | .lload _ => 2
  | .aload _ => 2
  | .istore _ => 2
  | .lstore _ => 2
  | .astore _ => 2
  | .iinc _ _ => 3
  | .if_icmp _ _ => 3
  | .ifCond _ _ => 3
  | .goto _ => 3
  | .ldc _ => 2
  | .ldc2_w _ => 3
  | .getfield _ => 3
  | .putfield _ => 3
  | .invokevirtual _ => 3
  | .invokespecial _ => 3
  | .invokestatic _ => 3
  | .new _ => 3
  | .anewarray _ => 3
  | .newarray _ => 2
  | _ => 1
def iTgOK (pc : Nat) : List Int → List Nat → Bool
  | [], [] => true
  | o :: os, t :: ts => decide ((pc : Int) + o = (t : Int)) && iTgOK pc os ts
  | _, _ => false
def iOffs : iI → List Int
  | .if_icmp _ o => [o]
  | .ifCond _ o => [o]
  | .goto o => [o]
  | .tableswitch d _ _ offs => d :: offs.toList
  | _ => []
def iSwOK : iI → Bool
  | .tableswitch _ lo hi offs => decide (hi = lo + (offs.size : Int) - 1)
  | _ => true
def iIsSw : iI → Bool
  | .tableswitch _ _ _ _ => true
  | _ => false
def iNum (i : iI) (v : Int32) : Bool := match i with
  | .iconst k => decide (v = Int32.ofInt k)
  | .bipush k => decide (v = (Int8.ofInt k).toInt32)
  | .sipush k => decide (v = (Int16.ofInt k).toInt32)
  | .iinc _ k => decide (v = Int32.ofInt k)
  | _ => true
def iOK (e : iE) : Bool := (iIsSw e.2.1 || decide (e.2.2.1 = iLen e.2.1)) && ((iTgOK e.1 (iOffs e.2.1) e.2.2.2.1 && iSwOK e.2.1) && iNum e.2.1 e.2.2.2.2)
def iLk : List iE → Nat → Option (iI × Nat × iX)
  | [], _ => none
  | e :: r, pc => match Nat.beq e.1 pc with
    | true => some e.2
    | false => iLk r pc
theorem iLk_mem {cd : List iE} {pc : Nat} {x : iI × Nat × iX} (h : iLk cd pc = some x) : (pc, x) ∈ cd := by
  induction cd with
  | nil => cases h
  | cons e r ih =>
    unfold iLk at h
    split at h
    · rename_i hb
      have hb' : e.1 = pc := Nat.eq_of_beq_eq_true hb
      have hx : e.2 = x := Option.some.inj h
      rw [← hb', ← hx]
      exact List.mem_cons_self
    · exact List.mem_cons_of_mem _ (ih h)
