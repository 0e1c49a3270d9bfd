/-! THE SMALL MACHINE. A method's run told by a function: frames as lists, the system's cells by numbers 0, 1, .. in the order in which they were made. Part 03, 04: what the small machine does, the machine does. -/
/-- a cell: an array (its type's number, length and contents), or an object (its class's number in vwCl, its fields) -/
abbrev pE : Type := (Nat × vp_A) ⊕ (Nat × List Value)
/-- how many cells there are, how many slots they have had, what they hold -/
abbrev pH : Type := Nat × Nat × (Nat → pE)
/-- a frame: pc, locals, stack -/
abbrev pF : Type := Nat × List (Nat × Value) × List Value
abbrev pX : Type := Int × Nat × Nat
/-- an instruction: pc, what it is, its length, what it is linked to -/
abbrev pI : Type := Nat × Instr × Nat × pX
abbrev pR : Type := Option Value × pH
/-- a reference of the small machine: a cell's number (.ref), or one of the cells that were there before (.retAddr); .float: the one static of which nothing is known but that it is a reference or null -/
def rV (b : Nat) (o : Nat → Nat) : Value → Value
  | .ref a => .ref (b + a)
  | .retAddr i => .ref (o i)
  | .float _ => if o 9 = 0 then .null else .ref (o 9 - 1)
  | v => v
def rL (b : Nat) (o : Nat → Nat) (l : List (Nat × Value)) : List (Nat × Value) := l.map (fun q => (q.1, rV b o q.2))
def rS (b : Nat) (o : Nat → Nat) (l : List Value) : List Value := l.map (rV b o)
theorem rV_cat (b : Nat) (o : Nat → Nat) (v : Value) : (rV b o v).category = v.category := by
  cases v <;> try rfl
  show (if o 9 = 0 then Value.null else Value.ref (o 9 - 1)).category = 1
  split <;> rfl
def p_up (f : Nat → pE) (k : Nat) (e : pE) : Nat → pE := fun j => if j = k then e else f j
def p_get (l : List (Nat × Value)) (i : Nat) : Option Value := match l with
  | [] => none
  | q :: r => if q.1 = i then some q.2 else p_get r i
def p_set1 (l : List (Nat × Value)) (i : Nat) (v : Value) : List (Nat × Value) := (i, v) :: l.filter (fun q => !(q.1 == i) && !(q.1 + 1 == i && q.2.category == 2))
def p_set2 (l : List (Nat × Value)) (i : Nat) (v : Value) : List (Nat × Value) := (i, v) :: l.filter (fun q => !(q.1 == i) && (!(q.1 == i + 1) && !(q.1 + 1 == i && q.2.category == 2)))
theorem rL_set1 (b : Nat) (o : Nat → Nat) (l : List (Nat × Value)) (i : Nat) (v : Value) : rL b o (p_set1 l i v) = (i, rV b o v) :: (rL b o l).filter (fun q => !(q.1 == i) && !(q.1 + 1 == i && q.2.category == 2)) := by
  unfold p_set1 rL
  rw [List.map_cons, List.filter_map]
  congr 2
  apply List.filter_congr
  intro q _
  show _ = (!(q.1 == i) && !(q.1 + 1 == i && (rV b o q.2).category == 2))
  rw [rV_cat]
theorem rL_set2 (b : Nat) (o : Nat → Nat) (l : List (Nat × Value)) (i : Nat) (v : Value) : rL b o (p_set2 l i v) = (i, rV b o v) :: (rL b o l).filter (fun q => !(q.1 == i) && (!(q.1 == i + 1) && !(q.1 + 1 == i && q.2.category == 2))) := by
  unfold p_set2 rL
  rw [List.map_cons, List.filter_map]
  congr 2
  apply List.filter_congr
  intro q _
  show _ = (!(q.1 == i) && (!(q.1 == i + 1) && !(q.1 + 1 == i && (rV b o q.2).category == 2)))
  rw [rV_cat]
theorem p_get_mem {l : List (Nat × Value)} {i : Nat} {v : Value} (h : p_get l i = some v) : (i, v) ∈ l := by
  induction l with
  | nil => cases h
  | cons q r ih =>
    unfold p_get at h
    by_cases hq : q.1 = i
    · rw [if_pos hq] at h
      cases h
      subst hq
      exact List.mem_cons_self
    · rw [if_neg hq] at h
      exact List.mem_cons_of_mem _ (ih h)
theorem p_at {b : Nat} {o : Nat → Nat} {LS : Array Slot} {nL : Nat} {l : List (Nat × Value)} {i : Nat} {v : Value} (hl : lv_has LS nL (rL b o l)) (h : p_get l i = some v) : LS[i]? = some (.val (rV b o v)) :=
  hl.2.2 (i, rV b o v) (List.mem_map.mpr ⟨(i, v), p_get_mem h, rfl⟩)
theorem p_place {b : Nat} {o : Nat → Nat} {l : List (Nat × Value)} {i : Nat} {v : Value} (h : p_get l i = some v) : ∃ k : Nat, (rL b o l)[k]? = some (i, rV b o v) :=
  List.getElem?_of_mem (List.mem_map.mpr ⟨(i, v), p_get_mem h, rfl⟩)
def p_bin (i : Instr) (x y : Int32) : Option Int32 := match i with
  | .iadd => some (x + y)
  | .isub => some (x - y)
  | .imul => some (x * y)
  | .iand => some (x &&& y)
  | .ior => some (x ||| y)
  | .ixor => some (x ^^^ y)
  | .ishl => some (x <<< (y &&& 31))
  | .ishr => some (x >>> (y &&& 31))
  | .iushr => some (x.toUInt32 >>> (y.toUInt32 &&& Int32.toUInt32 31)).toInt32
  | .idiv => if y = 0 then none else some (x / y)
  | .irem => if y = 0 then none else some (x - x / y * y)
  | _ => none
def p_binl (i : Instr) (x y : Int64) : Option Int64 := match i with
  | .ladd => some (x + y)
  | .lsub => some (x - y)
  | .lmul => some (x * y)
  | .land => some (x &&& y)
  | .lor => some (x ||| y)
  | .lxor => some (x ^^^ y)
  | _ => none
def p_shl (i : Instr) (x : Int64) (y : Int32) : Option Int64 := match i with
  | .lshl => some (x <<< (y.toInt64 &&& 63))
  | .lshr => some (x >>> (y.toInt64 &&& 63))
  | .lushr => some (x.toUInt64 >>> (y.toInt64.toUInt64 &&& Int64.toUInt64 63)).toInt64
  | _ => none
def p_cnd (c : Jvm.ClassFile.Cond) (x y : Int32) : Bool := match c with
  | .eq => decide (x = y)
  | .ne => decide (¬ x = y)
  | .lt => decide (x < y)
  | .ge => decide (y ≤ x)
  | .gt => decide (y < x)
  | .le => decide (x ≤ y)
def p_br (c : Bool) (t e : Nat) : Nat := match c with
  | true => t
  | false => e
def p_tgt (pc : Nat) (off : Int) : Nat := ((pc : Int) + off).toNat
def p_sw (d lo hi : Int) (offs : Array Int) (x : Int) : Int := if x < lo then d else if hi < x then d else (offs[(x - lo).toNat]?).getD d
def p_isRef : Value → Bool
  | .ref _ => true
  | .retAddr _ => true
  | _ => false
/-- arithmetic on two -/
def pstepA (pc : Nat) (i : Instr) (ls : List (Nat × Value)) (st : List Value) : Option pF := match st with
  | .int y :: .int x :: r => match p_bin i x y with
    | some z => some (pc + 1, ls, .int z :: r)
    | none => none
  | .long y :: .long x :: r => match p_binl i x y with
    | some z => some (pc + 1, ls, .long z :: r)
    | none => none
  | .int y :: .long x :: r => match p_shl i x y with
    | some z => some (pc + 1, ls, .long z :: r)
    | none => none
  | _ => none
/-- instructions that need no cell -/
def pstepL (pc : Nat) (i : Instr) (ls : List (Nat × Value)) (st : List Value) : Option pF := match i with
  | .iconst n => some (pc + 1, ls, .int (Int32.ofInt n) :: st)
  | .bipush n => some (pc + 2, ls, .int (Int8.ofInt n).toInt32 :: st)
  | .sipush n => some (pc + 3, ls, .int (Int16.ofInt n).toInt32 :: st)
  | .lconst n => some (pc + 1, ls, .long (Int64.ofNat (n : Nat)) :: st)
  | .iload_n n => match p_get ls n with
    | some (.int x) => some (pc + 1, ls, .int x :: st)
    | _ => none
  | .iload n => match p_get ls n with
    | some (.int x) => some (pc + 2, ls, .int x :: st)
    | _ => none
  | .lload_n n => match p_get ls n with
    | some (.long x) => some (pc + 1, ls, .long x :: st)
    | _ => none
  | .lload n => match p_get ls n with
    | some (.long x) => some (pc + 2, ls, .long x :: st)
    | _ => none
  | .aload_n n => match p_get ls n with
    | some (.ref x) => some (pc + 1, ls, .ref x :: st)
    | some (.retAddr x) => some (pc + 1, ls, .retAddr x :: st)
    | _ => none
  | .aload n => match p_get ls n with
    | some (.ref x) => some (pc + 2, ls, .ref x :: st)
    | some (.retAddr x) => some (pc + 2, ls, .retAddr x :: st)
    | _ => none
  | .istore_n n => match st with
    | .int x :: r => some (pc + 1, p_set1 ls n (.int x), r)
    | _ => none
  | .istore n => match st with
    | .int x :: r => some (pc + 2, p_set1 ls n (.int x), r)
    | _ => none
  | .lstore_n n => match st with
    | .long x :: r => some (pc + 1, p_set2 ls n (.long x), r)
    | _ => none
  | .lstore n => match st with
    | .long x :: r => some (pc + 2, p_set2 ls n (.long x), r)
    | _ => none
  | .astore_n n => match st with
    | .ref x :: r => some (pc + 1, p_set1 ls n (.ref x), r)
    | .retAddr x :: r => some (pc + 1, p_set1 ls n (.retAddr x), r)
    | _ => none
  | .astore n => match st with
    | .ref x :: r => some (pc + 2, p_set1 ls n (.ref x), r)
    | .retAddr x :: r => some (pc + 2, p_set1 ls n (.retAddr x), r)
    | _ => none
  | .iinc n d => match p_get ls n with
    | some (.int x) => some (pc + 3, p_set1 ls n (.int (x + Int32.ofInt d)), st)
    | _ => none
  | .dup => match st with
    | .int x :: r => some (pc + 1, ls, .int x :: .int x :: r)
    | .ref x :: r => some (pc + 1, ls, .ref x :: .ref x :: r)
    | .retAddr x :: r => some (pc + 1, ls, .retAddr x :: .retAddr x :: r)
    | _ => none
  | .dup2 => match st with
    | .int x :: .ref a :: r => some (pc + 1, ls, .int x :: .ref a :: .int x :: .ref a :: r)
    | .int x :: .int a :: r => some (pc + 1, ls, .int x :: .int a :: .int x :: .int a :: r)
    | .long x :: r => some (pc + 1, ls, .long x :: .long x :: r)
    | _ => none
  | .pop => match st with
    | .int _ :: r => some (pc + 1, ls, r)
    | .ref _ :: r => some (pc + 1, ls, r)
    | _ => none
  | .goto off => some (p_tgt pc off, ls, st)
  | .ifCond c off => match st with
    | .int x :: r => some (p_br (p_cnd c x 0) (p_tgt pc off) (pc + 3), ls, r)
    | _ => none
  | .if_icmp c off => match st with
    | .int y :: .int x :: r => some (p_br (p_cnd c x y) (p_tgt pc off) (pc + 3), ls, r)
    | _ => none
  | .tableswitch d lo hi offs => match st with
    | .int x :: r => some (p_tgt pc (p_sw d lo hi offs x.toInt), ls, r)
    | _ => none
  | .lookupswitch d ps => match st with
    | .int x :: r => some (p_tgt pc (Op.lookupswitch.offset ps.toList d x.toInt), ls, r)
    | _ => none
  | .lcmp => match st with
    | .long y :: .long x :: r => some (pc + 1, ls, .int (lg_cmp x y) :: r)
    | _ => none
  | .ineg => match st with
    | .int x :: r => some (pc + 1, ls, .int (-x) :: r)
    | _ => none
  | .i2l => match st with
    | .int x :: r => some (pc + 1, ls, .long x.toInt64 :: r)
    | _ => none
  | .l2i => match st with
    | .long x :: r => some (pc + 1, ls, .int x.toInt32 :: r)
    | _ => none
  | .i2b => match st with
    | .int x :: r => some (pc + 1, ls, .int x.toInt8.toInt32 :: r)
    | _ => none
  | .i2c => match st with
    | .int x :: r => some (pc + 1, ls, .int (x.toUInt32 % 65536).toInt32 :: r)
    | _ => none
  | i => pstepA pc i ls st
/-- the length that the rows of the kit want -/
def p_len : Instr → Nat
  | .iload _ => 2
  | .lload _ => 2
  | .aload _ => 2
  | .istore _ => 2
  | .lstore _ => 2
  | .astore _ => 2
  | .bipush _ => 2
  | .ldc _ => 2
  | .newarray _ => 2
  | .sipush _ => 3
  | .iinc _ _ => 3
  | .goto _ => 3
  | .ifCond _ _ => 3
  | .if_icmp _ _ => 3
  | .getfield _ => 3
  | .putfield _ => 3
  | .getstatic _ => 3
  | .invokevirtual _ => 3
  | .invokestatic _ => 3
  | .invokespecial _ => 3
  | .new _ => 3
  | .ldc_w _ => 3
  | .ldc2_w _ => 3
  | .multianewarray _ _ => 4
  | _ => 1
def p_in0 (pc : Nat) (off : Int) : Bool := decide (0 ≤ (pc : Int) + off)
/-- what can be seen of an instruction alone: lengths, places of jumps, locals within -/
def p_ok (nL pc : Nat) (i : Instr) (len : Nat) : Bool := match i with
  | .tableswitch d lo hi offs => p_in0 pc d && (offs.toList.all (fun o => p_in0 pc o) && (decide (lo ≤ hi) && decide ((hi - lo).toNat < offs.size)))
  | .lookupswitch d ps => p_in0 pc d && (ps.toList.all (fun q => p_in0 pc q.2) && (ps.toList.zip (ps.toList.drop 1)).all (fun (a, next) => a.1 < next.1))
  | .goto off => decide (len = 3) && p_in0 pc off
  | .ifCond _ off => decide (len = 3) && p_in0 pc off
  | .if_icmp _ off => decide (len = 3) && p_in0 pc off
  | .istore_n n => decide (len = 1) && decide ((n : Nat) < nL)
  | .astore_n n => decide (len = 1) && decide ((n : Nat) < nL)
  | .lstore_n n => decide (len = 1) && decide ((n : Nat) + 1 < nL)
  | .istore n => decide (len = 2) && decide (n < nL)
  | .astore n => decide (len = 2) && decide (n < nL)
  | .lstore n => decide (len = 2) && decide (n + 1 < nL)
  | .iinc n _ => decide (len = 3) && decide (n < nL)
  | i => decide (len = p_len i)
