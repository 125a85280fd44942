/-! THE SMALL MACHINE: a function over a list of cells whose references are places in that list. Its soundness over the machine is proved in the next parts. -/
abbrev sL : Type := List (Nat × Value)
abbrev sC : Type := Nat × List Value
abbrev sM : Type := List sC
abbrev sI : Type := Jvm.ClassFile.Instr × Nat
abbrev sCode : Type := List (List (Option sI))
/-- a method: its locals, its answer's type, its class's kind, its code -/
abbrev sMeth : Type := Nat × (Option FieldType × (Nat × sCode))
/-- rows that are only read: length and contents (0, 1: the statics; 2: the script) -/
abbrev sE : Type := Nat → Nat × (Nat → Int32)
abbrev sR : Type := Option (Option Value × sM)
def s_fetch (cd : sCode) (pc : Nat) : Option sI := match cd[pc / 16]? with
  | some l => (match l[pc % 16]? with
    | some o => o
    | none => none)
  | none => none
def s_get : sL → Nat → Option Value
  | [], _ => none
  | q :: r, i => bif Nat.beq q.1 i then some q.2 else s_get r i
def s_set (l : sL) (i : Nat) (v : Value) : sL := (i, v) :: l.filter (fun q => !(q.1 == i) && !(q.1 + 1 == i && q.2.category == 2))
def s_setL (l : sL) (i : Nat) (v : Value) : sL := (i, v) :: l.filter (fun q => !(q.1 == i) && (!(q.1 == i + 1) && !(q.1 + 1 == i && q.2.category == 2)))
def s_c1 (c : Jvm.ClassFile.Cond) (x : Int32) : Bool := match c with
  | .eq => decide (x = 0)
  | .ne => !decide (x = 0)
  | .lt => decide (x < 0)
  | .ge => decide (0 ≤ x)
  | .gt => decide (0 < x)
  | .le => decide (x ≤ 0)
def s_c2 (c : Jvm.ClassFile.Cond) (x y : Int32) : Bool := match c with
  | .eq => decide (x = y)
  | .ne => !decide (x = y)
  | .lt => decide (x < y)
  | .ge => decide (y ≤ x)
  | .gt => decide (y < x)
  | .le => decide (x ≤ y)
def s_tgt (pc : Nat) (off : Int) : Option Nat := match (pc : Int) + off with
  | .ofNat t => some t
  | _ => none
def s_br (b : Bool) (pc : Nat) (off : Int) : Option Nat := bif b then s_tgt pc off else some (pc + 3)
/-- which kinds: an array's contents, by the instruction that reads or writes it -/
def s_at (M : sM) (a : Nat) (i : Int32) (ok : Nat → Bool) : Option Value := match M[a]? with
  | some c => bif ok c.1 && !decide (i < 0) then c.2[i.toNatClampNeg]? else none
  | none => none
def s_fld (M : sM) (a n : Nat) : Option Value := match M[a]? with
  | some c => bif Nat.beq c.1 (n / 64) then c.2[n % 64]? else none
  | none => none
abbrev sP : Type := Option (Nat × (sL × List Value))
def s_i1 (st : List Value) (f : Int32 → Value) (p : Nat) (ls : sL) : sP := match st with
  | .int x :: r => some (p, ls, f x :: r)
  | _ => none
def s_i2 (st : List Value) (f : Int32 → Int32 → Int32) (p : Nat) (ls : sL) : sP := match st with
  | .int y :: .int x :: r => some (p, ls, .int (f x y) :: r)
  | _ => none
def s_l2 (st : List Value) (f : Int64 → Int64 → Int64) (p : Nat) (ls : sL) : sP := match st with
  | .long y :: .long x :: r => some (p, ls, .long (f x y) :: r)
  | _ => none
def s_li (st : List Value) (f : Int64 → Int32 → Int64) (p : Nat) (ls : sL) : sP := match st with
  | .int y :: .long x :: r => some (p, ls, .long (f x y) :: r)
  | _ => none
def s_ild (k : Nat) (p : Nat) (ls : sL) (st : List Value) : sP := match s_get ls k with
  | some (.int x) => some (p, ls, .int x :: st)
  | _ => none
def s_lld (k : Nat) (p : Nat) (ls : sL) (st : List Value) : sP := match s_get ls k with
  | some (.long x) => some (p, ls, .long x :: st)
  | _ => none
def s_ald (k : Nat) (p : Nat) (ls : sL) (st : List Value) : sP := match s_get ls k with
  | some (.ref a) => some (p, ls, .ref a :: st)
  | some .null => some (p, ls, .null :: st)
  | some (.retAddr j) => some (p, ls, .retAddr j :: st)
  | _ => none
def s_ist (mx k : Nat) (p : Nat) (ls : sL) (st : List Value) : sP := match st with
  | .int x :: r => bif Nat.blt k mx then some (p, s_set ls k (.int x), r) else none
  | _ => none
def s_lst (mx k : Nat) (p : Nat) (ls : sL) (st : List Value) : sP := match st with
  | .long x :: r => bif Nat.blt (k + 1) mx then some (p, s_setL ls k (.long x), r) else none
  | _ => none
def s_ast (mx k : Nat) (p : Nat) (ls : sL) (st : List Value) : sP := match st with
  | .ref a :: r => bif Nat.blt k mx then some (p, s_set ls k (.ref a), r) else none
  | .null :: r => bif Nat.blt k mx then some (p, s_set ls k .null, r) else none
  | _ => none
def s_iinc (mx k : Nat) (n : Int) (p : Nat) (ls : sL) (st : List Value) : sP := match s_get ls k with
  | some (.int x) => bif Nat.blt k mx then some (p, s_set ls k (.int (x + Int32.ofInt n)), st) else none
  | _ => none
def s_gf (n : Nat) (p : Nat) (ls : sL) (st : List Value) (M : sM) : sP := match st with
  | .ref a :: r => (match s_fld M a n with
    | some v => some (p, ls, v :: r)
    | none => none)
  | _ => none
def s_ia (E : sE) (p : Nat) (ls : sL) (st : List Value) (M : sM) : sP := match st with
  | .int i :: .ref a :: r => (match s_at M a i (fun k => Nat.beq k 13) with
    | some (.int x) => some (p, ls, .int x :: r)
    | _ => none)
  | .int i :: .retAddr j :: r => bif !decide (i < 0) && (Nat.blt i.toNatClampNeg (E j).1 && Nat.blt j (E 3).1) then some (p, ls, .int ((E j).2 i.toNatClampNeg) :: r) else none
  | _ => none
def s_ba (p : Nat) (ls : sL) (st : List Value) (M : sM) : sP := match st with
  | .int i :: .ref a :: r => (match s_at M a i (fun k => Nat.beq k 12 || Nat.beq k 16) with
    | some (.int x) => some (p, ls, .int x :: r)
    | _ => none)
  | _ => none
def s_sa (p : Nat) (ls : sL) (st : List Value) (M : sM) : sP := match st with
  | .int i :: .ref a :: r => (match s_at M a i (fun k => Nat.beq k 15) with
    | some (.int x) => some (p, ls, .int x :: r)
    | _ => none)
  | _ => none
def s_la (p : Nat) (ls : sL) (st : List Value) (M : sM) : sP := match st with
  | .int i :: .ref a :: r => (match s_at M a i (fun k => Nat.beq k 14) with
    | some (.long x) => some (p, ls, .long x :: r)
    | _ => none)
  | _ => none
def s_aa (p : Nat) (ls : sL) (st : List Value) (M : sM) : sP := match st with
  | .int i :: .ref a :: r => (match s_at M a i (fun k => Nat.ble 17 k && Nat.ble k 19) with
    | some (.ref x) => some (p, ls, .ref x :: r)
    | some .null => some (p, ls, .null :: r)
    | _ => none)
  | _ => none
def s_len (E : sE) (p : Nat) (ls : sL) (st : List Value) (M : sM) : sP := match st with
  | .ref a :: r => (match M[a]? with
    | some c => bif Nat.ble 12 c.1 && Nat.ble c.1 19 then some (p, ls, .int (Int32.ofNat c.2.length) :: r) else none
    | none => none)
  | .retAddr j :: r => bif Nat.blt j (E 3).1 then some (p, ls, .int (Int32.ofNat (E j).1) :: r) else none
  | _ => none
def s_jump (o : Option Nat) (ls : sL) (r : List Value) : sP := match o with
  | some t => some (t, ls, r)
  | none => none
def s_lkup (dflt : Int) (ps : Array (Int × Int)) (pc : Nat) (ls : sL) (st : List Value) : sP := match st with
  | .int x :: r => bif (ps.toList.zip (ps.toList.drop 1)).all (fun q => decide (q.1.1 < q.2.1)) then s_jump (s_tgt pc (Op.lookupswitch.offset ps.toList dflt x.toInt)) ls r else none
  | _ => none
def s_tsw (dflt lo hi : Int) (offs : Array Int) (pc : Nat) (ls : sL) (st : List Value) : sP := match st with
  | .int x :: r => bif decide (x.toInt < lo) || decide (hi < x.toInt) then s_jump (s_tgt pc dflt) ls r else (match offs[(x.toInt - lo).toNat]? with
    | some off => s_jump (s_tgt pc off) ls r
    | none => none)
  | _ => none
/-- the instructions that write no cell -/
def s_pure (E : sE) (mx : Nat) (i : Jvm.ClassFile.Instr) (pc p : Nat) (ls : sL) (st : List Value) (M : sM) : sP := match i with
  | .aload k => s_ald k p ls st
  | .aload_n k => s_ald k.val p ls st
  | .iload k => s_ild k p ls st
  | .iload_n k => s_ild k.val p ls st
  | .lload k => s_lld k p ls st
  | .lload_n k => s_lld k.val p ls st
  | .istore k => s_ist mx k p ls st
  | .istore_n k => s_ist mx k.val p ls st
  | .lstore k => s_lst mx k p ls st
  | .lstore_n k => s_lst mx k.val p ls st
  | .astore k => s_ast mx k p ls st
  | .astore_n k => s_ast mx k.val p ls st
  | .iinc k n => s_iinc mx k n p ls st
  | .iconst n => some (p, ls, .int (Int32.ofInt n) :: st)
  | .bipush n => some (p, ls, .int (Int8.ofInt n).toInt32 :: st)
  | .sipush n => some (p, ls, .int (Int16.ofInt n).toInt32 :: st)
  | .lconst n => some (p, ls, .long (Int64.ofNat n.val) :: st)
  | .ldc n => some (p, ls, .int (Int32.ofNat n) :: st)
  | .ldc_w n => some (p, ls, .int (Int32.ofNat n) :: st)
  | .ldc2_w n => some (p, ls, .long (Int64.ofNat n) :: st)
  | .aconst_null => some (p, ls, .null :: st)
  | .iadd => s_i2 st (fun x y => x + y) p ls
  | .isub => s_i2 st (fun x y => x - y) p ls
  | .imul => s_i2 st (fun x y => x * y) p ls
  | .iand => s_i2 st (fun x y => x &&& y) p ls
  | .ior => s_i2 st (fun x y => x ||| y) p ls
  | .ixor => s_i2 st (fun x y => x ^^^ y) p ls
  | .ishl => s_i2 st (fun x y => x <<< (y &&& 31)) p ls
  | .ishr => s_i2 st (fun x y => x >>> (y &&& 31)) p ls
  | .iushr => s_i2 st (fun x y => (x.toUInt32 >>> (y.toUInt32 &&& Int32.toUInt32 31)).toInt32) p ls
  | .idiv => (match st with
    | .int y :: _ => bif decide (y = 0) then none else s_i2 st (fun x y => x / y) p ls
    | _ => none)
  | .irem => (match st with
    | .int y :: _ => bif decide (y = 0) then none else s_i2 st (fun x y => x - x / y * y) p ls
    | _ => none)
  | .ineg => s_i1 st (fun x => .int (-x)) p ls
  | .i2l => s_i1 st (fun x => .long x.toInt64) p ls
  | .i2b => s_i1 st (fun x => .int x.toInt8.toInt32) p ls
  | .i2s => s_i1 st (fun x => .int x.toInt16.toInt32) p ls
  | .l2i => (match st with
    | .long x :: r => some (p, ls, .int x.toInt32 :: r)
    | _ => none)
  | .ladd => s_l2 st (fun x y => x + y) p ls
  | .lsub => s_l2 st (fun x y => x - y) p ls
  | .land => s_l2 st (fun x y => x &&& y) p ls
  | .lor => s_l2 st (fun x y => x ||| y) p ls
  | .lshl => s_li st (fun x y => x <<< (y.toInt64 &&& 63)) p ls
  | .lushr => s_li st (fun x y => (x.toUInt64 >>> (y.toInt64.toUInt64 &&& Int64.toUInt64 63)).toInt64) p ls
  | .lcmp => (match st with
    | .long y :: .long x :: r => some (p, ls, .int (lg_cmp x y) :: r)
    | _ => none)
  | .dup => (match st with
    | v :: r => bif Nat.beq v.category 1 then some (p, ls, v :: v :: r) else none
    | _ => none)
  | .pop => (match st with
    | v :: r => bif Nat.beq v.category 1 then some (p, ls, r) else none
    | _ => none)
  | .pop2 => (match st with
    | v :: r => bif Nat.beq v.category 2 then some (p, ls, r) else none
    | _ => none)
  | .dup2 => (match st with
    | v :: w :: r => bif Nat.beq v.category 1 && Nat.beq w.category 1 then some (p, ls, v :: w :: v :: w :: r) else none
    | _ => none)
  | .goto off => s_jump (s_tgt pc off) ls st
  | .ifCond c off => (match st with
    | .int x :: r => s_jump (s_br (s_c1 c x) pc off) ls r
    | _ => none)
  | .if_icmp c off => (match st with
    | .int y :: .int x :: r => s_jump (s_br (s_c2 c x y) pc off) ls r
    | _ => none)
  | .ifnull off => (match st with
    | .null :: r => s_jump (s_tgt pc off) ls r
    | .ref _ :: r => some (p, ls, r)
    | _ => none)
  | .ifnonnull off => (match st with
    | .null :: r => some (p, ls, r)
    | .ref _ :: r => s_jump (s_tgt pc off) ls r
    | _ => none)
  | .lookupswitch dflt ps => s_lkup dflt ps pc ls st
  | .tableswitch dflt lo hi offs => s_tsw dflt lo hi offs pc ls st
  | .getfield n => s_gf n p ls st M
  | .getstatic j => bif Nat.blt j 2 then some (p, ls, .retAddr j :: st) else none
  | .iaload => s_ia E p ls st M
  | .baload => s_ba p ls st M
  | .saload => s_sa p ls st M
  | .laload => s_la p ls st M
  | .aaload => s_aa p ls st M
  | .arraylength => s_len E p ls st M
  | _ => none
def s_fit (ty : FieldType) (v : Value) : Bool := match ty, v with
  | .int, .int _ => true
  | .long, .long _ => true
  | .boolean, .int x => decide (x = 0) || decide (x = 1)
  | .object _, .null => true
  | .object _, .ref _ => true
  | .array _, .null => true
  | .array _, .ref _ => true
  | _, _ => false
def s_pf (fty : Nat → Nat → FieldType) (n : Nat) (st : List Value) (M : sM) : Option (List Value × sM) := match st with
  | v :: .ref a :: r => (match M[a]? with
    | some c => bif Nat.beq c.1 (n / 64) && (s_fit (fty (n / 64) (n % 64)) v && Nat.blt (n % 64) c.2.length) then some (r, M.set a (c.1, c.2.set (n % 64) v)) else none
    | none => none)
  | _ => none
def s_ps (M : sM) (a : Nat) (i : Int32) (v : Value) (ok : Nat → Bool) (r : List Value) : Option (List Value × sM) := match M[a]? with
  | some c => bif ok c.1 && (!decide (i < 0) && Nat.blt i.toNatClampNeg c.2.length) then some (r, M.set a (c.1, c.2.set i.toNatClampNeg v)) else none
  | none => none
def s_kd (M : sM) (a : Nat) : Nat := match M[a]? with
  | some c => c.1
  | none => 99
def s_cpy (src dst : List Value) (sp dp n : Nat) : List Value := dst.take dp ++ ((src.drop sp).take n ++ dst.drop (dp + n))
def s_ac (st : List Value) (M : sM) : Option (List Value × sM) := match st with
  | .int n :: .int dp :: .ref b :: .int sp :: .ref a :: r => (match M[a]?, M[b]? with
    | some ca, some cb => bif (Nat.beq ca.1 cb.1 && (Nat.beq ca.1 13 || Nat.beq ca.1 14)) && ((!decide (sp < 0) && (!decide (dp < 0) && !decide (n < 0))) && (Nat.ble (sp.toNatClampNeg + n.toNatClampNeg) ca.2.length && Nat.ble (dp.toNatClampNeg + n.toNatClampNeg) cb.2.length)) && Nat.ble (r.map fun v => v.category).sum 8
      then some (r, M.set b (cb.1, s_cpy ca.2 cb.2 sp.toNatClampNeg dp.toNatClampNeg n.toNatClampNeg)) else none
    | _, _ => none)
  | _ => none
/-- the instructions that write a cell -/
def s_wr (fty : Nat → Nat → FieldType) (i : Jvm.ClassFile.Instr) (st : List Value) (M : sM) : Option (List Value × sM) := match i with
  | .putfield n => s_pf fty n st M
  | .putstatic n => s_pf fty n st M
  | .iastore => (match st with
    | .int x :: .int j :: .ref a :: r => s_ps M a j (.int x) (fun k => Nat.beq k 13) r
    | _ => none)
  | .bastore => (match st with
    | .int x :: .int j :: .ref a :: r => bif Nat.beq (s_kd M a) 12 then s_ps M a j (.int (vp_nar .byte x)) (fun k => Nat.beq k 12) r else s_ps M a j (.int (vp_nar .boolean x)) (fun k => Nat.beq k 16) r
    | _ => none)
  | .sastore => (match st with
    | .int x :: .int j :: .ref a :: r => s_ps M a j (.int (vp_nar .short x)) (fun k => Nat.beq k 15) r
    | _ => none)
  | .lastore => (match st with
    | .long x :: .int j :: .ref a :: r => s_ps M a j (.long x) (fun k => Nat.beq k 14) r
    | _ => none)
  | .aastore => (match st with
    | .ref v :: .int j :: .ref a :: r => s_ps M a j (.ref v) (fun k => (Nat.beq k 17 && Nat.beq (s_kd M v) 0) || ((Nat.beq k 18 && Nat.beq (s_kd M v) 4) || (Nat.beq k 19 && Nat.beq (s_kd M v) 6))) r
    | _ => none)
  | _ => none
def s_dv : FieldType → Value
  | .int => .int 0
  | .boolean => .int 0
  | .long => .long 0
  | _ => .null
def s_ak : ArrayType → Option (Nat × Value)
  | .byte => some (12, .int 0)
  | .int => some (13, .int 0)
  | .long => some (14, .long 0)
  | .short => some (15, .int 0)
  | .boolean => some (16, .int 0)
  | _ => none
def s_na (k : Nat) (v : Value) (n : Int32) (r : List Value) (M : sM) : Option (List Value × sM) := bif !decide (n < 0) && Nat.ble n.toNatClampNeg 100000 then some (.ref M.length :: r, M ++ [(k, List.replicate n.toNatClampNeg v)]) else none
/-- the instructions that make a cell -/
def s_al (ft : List (Nat × (Nat → FieldType))) (i : Jvm.ClassFile.Instr) (st : List Value) (M : sM) : Option (List Value × sM) := match i with
  | .new k => (match ft[k]? with
    | some q => some (.ref M.length :: st, M ++ [(k, (List.range q.1).map (fun j => s_dv (q.2 j)))])
    | none => none)
  | .newarray t => (match st with
    | .int n :: r => (match s_ak t with
      | some q => s_na q.1 q.2 n r M
      | none => none)
    | _ => none)
  | .anewarray k => (match st with
    | .int n :: r => bif Nat.ble 17 k && Nat.ble k 19 then s_na k .null n r M else none
    | _ => none)
  | _ => none
/-- the top n values, the deepest first, and what lies below -/
def s_split : Nat → List Value → List Value → Option (List Value × List Value)
  | 0, acc, st => some (acc, st)
  | _ + 1, _, [] => none
  | n + 1, acc, v :: st => s_split n (v :: acc) st
def s_room (mx : Nat) (as r : List Value) : Bool := Nat.ble (r.map fun v => v.category).sum 8 && (Nat.ble (lg_sl as).length mx && Nat.ble mx 40)
def s_call (rec : Nat → sMeth → Nat → sL → List Value → sM → sR) (d : Nat) (μ ν : sMeth) (p : Nat) (ls : sL) (as r : List Value) (M : sM) : sR := match d with
  | 0 => none
  | d' + 1 => bif s_room ν.1 as r then (match rec d' ν 0 (lv_args 0 as) [] M with
    | some (some v, M') => rec (d' + 1) μ p ls (v :: r) M'
    | some (none, M') => rec (d' + 1) μ p ls r M'
    | none => none) else none
def s_rv (rt : Option FieldType) (v : Value) : Bool := match rt, v with
  | some .int, .int _ => true
  | some .boolean, .int x => decide (x = 0) || decide (x = 1)
  | some .long, .long _ => true
  | some (.object _), .ref _ => true
  | some (.object _), .null => true
  | _, _ => false
def s_step (prog : Nat → Option sMeth) (fty : Nat → Nat → FieldType) (ft : List (Nat × (Nat → FieldType))) (E : sE) (rec : Nat → sMeth → Nat → sL → List Value → sM → sR) (d : Nat) (μ : sMeth) (pc : Nat) (ls : sL) (st : List Value) (M : sM) : sR :=
  match s_fetch μ.2.2.2 pc with
  | none => none
  | some i => (match i.1 with
    | .invokevirtual w => (match s_split (w % 8) [] st with
      | some (as, .ref a :: r) => (match prog (w / 8) with
        | some ν => bif Nat.beq (s_kd M a) ν.2.2.1 then s_call rec d μ ν (pc + 3) ls (.ref a :: as) r M else none
        | none => none)
      | _ => none)
    | .invokespecial w => bif Nat.beq w 0 then (match d, st with
        | _ + 1, .ref _ :: r => bif Nat.ble (r.map fun v => v.category).sum 8 then rec d μ (pc + 3) ls r M else none
        | _, _ => none)
      else (match s_split (w % 8) [] st with
      | some (as, .ref a :: r) => (match prog (w / 8) with
        | some ν => s_call rec d μ ν (pc + 3) ls (.ref a :: as) r M
        | none => none)
      | _ => none)
    | .invokestatic w => (match s_split (w % 8) [] st with
      | some (as, r) => (match prog (w / 8) with
        | some ν => s_call rec d μ ν (pc + 3) ls as r M
        | none => none)
      | _ => none)
    | .invokeinterface w _ => (match s_split (w % 8) [] st with
      | some (as, r) => (match prog (w / 8) with
        | some ν => s_call rec d μ ν (pc + 3) ls as r M
        | none => none)
      | _ => none)
    | .invokedynamic w => (match d with
      | 0 => none
      | _ + 1 => bif Nat.beq w 0 then (match s_ac st M with
          | some (r, M') => rec d μ (pc + 3) ls r M'
          | none => none)
        else (match st with
          | .int y :: .int x :: r => bif Nat.ble (r.map fun v => v.category).sum 8 then rec d μ (pc + 3) ls (.int (bif Nat.beq w 1 then (if y < x then y else x) else (if x < y then y else x)) :: r) M else none
          | _ => none))
    | .ireturn => (match st with
      | [.int x] => bif s_rv μ.2.1 (.int x) then some (some (.int x), M) else none
      | _ => none)
    | .lreturn => (match st with
      | [.long x] => bif s_rv μ.2.1 (.long x) then some (some (.long x), M) else none
      | _ => none)
    | .areturn => (match st with
      | [v] => bif s_rv μ.2.1 v && !Nat.beq v.category 2 then (match v with
        | .ref a => some (some (.ref a), M)
        | .null => some (some .null, M)
        | _ => none) else none
      | _ => none)
    | .return_ => (match st, μ.2.1 with
      | [], none => some (none, M)
      | _, _ => none)
    | .putfield _ | .putstatic _ | .iastore | .bastore | .sastore | .lastore | .aastore => (match s_wr fty i.1 st M with
      | some (r, M') => rec d μ (pc + i.2) ls r M'
      | none => none)
    | .new _ | .newarray _ | .anewarray _ => (match s_al ft i.1 st M with
      | some (r, M') => rec d μ (pc + i.2) ls r M'
      | none => none)
    | j => (match s_pure E μ.1 j pc (pc + i.2) ls st M with
      | some (p', ls', st') => rec d μ p' ls' st' M
      | none => none))
noncomputable def s_x (prog : Nat → Option sMeth) (fty : Nat → Nat → FieldType) (ft : List (Nat × (Nat → FieldType))) (E : sE) (n : Nat) : Nat → sMeth → Nat → sL → List Value → sM → sR :=
  Nat.rec (motive := fun _ => Nat → sMeth → Nat → sL → List Value → sM → sR) (fun _ _ _ _ _ _ => none) (fun _ ih => s_step prog fty ft E ih) n
theorem s_x0 {prog : Nat → Option sMeth} {fty : Nat → Nat → FieldType} {ft : List (Nat × (Nat → FieldType))} {E : sE} {d : Nat} {μ : sMeth} {pc : Nat} {ls : sL} {st : List Value} {M : sM} : s_x prog fty ft E 0 d μ pc ls st M = none := rfl
theorem s_xs {prog : Nat → Option sMeth} {fty : Nat → Nat → FieldType} {ft : List (Nat × (Nat → FieldType))} {E : sE} {n : Nat} : s_x prog fty ft E (n + 1) = s_step prog fty ft E (s_x prog fty ft E n) := rfl
