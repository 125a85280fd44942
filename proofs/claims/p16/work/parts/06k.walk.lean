/-! a method's rows held against its bytes in one walk: a decoder by a tree of comparisons; it says what 'decode' says -/
def kw_m1 (f : Nat → Jvm.ClassFile.Instr) (r : List UInt8) : Option (Jvm.ClassFile.Instr × Nat) := match r with
  | a :: _ => some (f a.toNat, 2)
  | [] => none
def kw_m2 (f : Nat → Nat → Jvm.ClassFile.Instr) (r : List UInt8) : Option (Jvm.ClassFile.Instr × Nat) := match r with
  | a :: b :: _ => some (f a.toNat b.toNat, 3)
  | _ => none
theorem kw_drop {cc : ByteArray} {p : Nat} {x : UInt8} {bs : List UInt8} (h : cc.data.toList.drop p = x :: bs) : cc.data.toList.drop (p + 1) = bs := by
  rw [← List.drop_drop, h]
  rfl
theorem kw_u1 {cc : ByteArray} {p : Nat} {x : UInt8} {bs : List UInt8} (h : cc.data.toList.drop p = x :: bs) : (Jvm.ClassFile.Reader.u1 : Jvm.ClassFile.Decoder Nat) cc p = Except.ok (x.toNat, p + 1) := by
  have hl : p < cc.data.toList.length := by
    have h1 := congrArg List.length h
    rw [List.length_drop, List.length_cons] at h1
    omega
  have hp : p < cc.size := hl
  have hx : (cc[p]'hp) = x := by
    rw [List.drop_eq_getElem_cons hl] at h
    exact (List.cons.inj h).1
  have e : (Jvm.ClassFile.Reader.u1 : Jvm.ClassFile.Decoder Nat) cc p = (dite (p < cc.size) (fun hh => (bind (set (p + 1)) (fun _ => pure (cc[p]'hh).toNat) : Jvm.ClassFile.Decoder Nat)) (fun _ => throw (Jvm.ClassFile.HasTruncated.truncated p))) cc p := rfl
  rw [e, dif_pos hp, hx]
  rfl
theorem kw_bd {α β : Type} (m : Jvm.ClassFile.Decoder α) (f : α → Jvm.ClassFile.Decoder β) (cc : ByteArray) (p : Nat) : (bind m f : Jvm.ClassFile.Decoder β) cc p = Except.bind (m cc p) (fun r => f r.1 cc r.2) := rfl
theorem kw_bo {α β : Type} {m : Jvm.ClassFile.Decoder α} {f : α → Jvm.ClassFile.Decoder β} {cc : ByteArray} {p : Nat} {a : α} {q : Nat} (h : m cc p = Except.ok (a, q)) : (bind m f : Jvm.ClassFile.Decoder β) cc p = f a cc q := by
  rw [kw_bd, h]
  rfl
theorem kw_u2 {cc : ByteArray} {p : Nat} {x y : UInt8} {bs : List UInt8} (h : cc.data.toList.drop p = x :: y :: bs) : (Jvm.ClassFile.Reader.u2 : Jvm.ClassFile.Decoder Nat) cc p = Except.ok (x.toNat * 256 + y.toNat, p + 2) := by
  unfold Jvm.ClassFile.Reader.u2
  exact (kw_bo (kw_u1 h)).trans ((kw_bo (kw_u1 (kw_drop h))).trans rfl)
theorem kw_map {α β : Type} {m : Jvm.ClassFile.Decoder α} {f : α → β} {cc : ByteArray} {p : Nat} {a : α} {q : Nat} (h : m cc p = Except.ok (a, q)) : (f <$> m : Jvm.ClassFile.Decoder β) cc p = Except.ok (f a, q) := by
  have e : (f <$> m : Jvm.ClassFile.Decoder β) cc p = Except.bind (m cc p) (fun r => Except.ok (f r.1, r.2)) := rfl
  rw [e, h]
  rfl
theorem kw_s1 {cc : ByteArray} {p : Nat} {x : UInt8} {bs : List UInt8} (h : cc.data.toList.drop p = x :: bs) : (Jvm.ClassFile.Reader.s1 : Jvm.ClassFile.Decoder Int) cc p = Except.ok (Jvm.ClassFile.Reader.signed 8 x.toNat, p + 1) := by
  unfold Jvm.ClassFile.Reader.s1
  exact kw_map (kw_u1 h)
theorem kw_s2 {cc : ByteArray} {p : Nat} {x y : UInt8} {bs : List UInt8} (h : cc.data.toList.drop p = x :: y :: bs) : (Jvm.ClassFile.Reader.s2 : Jvm.ClassFile.Decoder Int) cc p = Except.ok (Jvm.ClassFile.Reader.signed 16 (x.toNat * 256 + y.toNat), p + 2) := by
  unfold Jvm.ClassFile.Reader.s2
  exact kw_map (kw_u2 h)
theorem kw_fin {cc : ByteArray} {pc q : Nat} {i : Jvm.ClassFile.Instr} (h : Jvm.ClassFile.Decoder.instr pc cc pc = Except.ok (i, pc + q)) : Jvm.ClassFile.decode cc pc = Except.ok (i, q) := by
  have e : Jvm.ClassFile.decode cc pc = Except.bind (Jvm.ClassFile.Decoder.instr pc cc pc) (fun r => Except.ok (r.1, r.2 - pc)) := rfl
  rw [e, h]
  show Except.ok (i, pc + q - pc) = _
  rw [Nat.add_sub_cancel_left]
theorem kw_op {cc : ByteArray} {pc K : Nat} {x : UInt8} {bs : List UInt8} (h : cc.data.toList.drop pc = x :: bs) (hk : x.toNat = K) : (Jvm.ClassFile.Reader.u1 : Jvm.ClassFile.Decoder Nat) cc pc = Except.ok (K, pc + 1) := by
  rw [← hk]
  exact kw_u1 h
theorem kw_o1 {cc : ByteArray} {pc : Nat} {x : UInt8} {r : List UInt8} (h : cc.data.toList.drop pc = x :: r) (hk : x.toNat = 1) {q : Jvm.ClassFile.Instr × Nat} (hq : some (Jvm.ClassFile.Instr.aconst_null, 1) = some q) : Jvm.ClassFile.decode cc pc = Except.ok q := by
  rw [← Option.some.inj hq]
  refine kw_fin ?_
  unfold Jvm.ClassFile.Decoder.instr
  exact (kw_bo (kw_op h hk)).trans rfl
theorem kw_o2 {cc : ByteArray} {pc : Nat} {x : UInt8} {r : List UInt8} (h : cc.data.toList.drop pc = x :: r) (hk : x.toNat = 2) {q : Jvm.ClassFile.Instr × Nat} (hq : some (Jvm.ClassFile.Instr.iconst (-1), 1) = some q) : Jvm.ClassFile.decode cc pc = Except.ok q := by
  rw [← Option.some.inj hq]
  refine kw_fin ?_
  unfold Jvm.ClassFile.Decoder.instr
  exact (kw_bo (kw_op h hk)).trans rfl
theorem kw_o3 {cc : ByteArray} {pc : Nat} {x : UInt8} {r : List UInt8} (h : cc.data.toList.drop pc = x :: r) (hk : x.toNat = 3) {q : Jvm.ClassFile.Instr × Nat} (hq : some (Jvm.ClassFile.Instr.iconst (0), 1) = some q) : Jvm.ClassFile.decode cc pc = Except.ok q := by
  rw [← Option.some.inj hq]
  refine kw_fin ?_
  unfold Jvm.ClassFile.Decoder.instr
  exact (kw_bo (kw_op h hk)).trans rfl
theorem kw_o4 {cc : ByteArray} {pc : Nat} {x : UInt8} {r : List UInt8} (h : cc.data.toList.drop pc = x :: r) (hk : x.toNat = 4) {q : Jvm.ClassFile.Instr × Nat} (hq : some (Jvm.ClassFile.Instr.iconst (1), 1) = some q) : Jvm.ClassFile.decode cc pc = Except.ok q := by
  rw [← Option.some.inj hq]
  refine kw_fin ?_
  unfold Jvm.ClassFile.Decoder.instr
  exact (kw_bo (kw_op h hk)).trans rfl
theorem kw_o5 {cc : ByteArray} {pc : Nat} {x : UInt8} {r : List UInt8} (h : cc.data.toList.drop pc = x :: r) (hk : x.toNat = 5) {q : Jvm.ClassFile.Instr × Nat} (hq : some (Jvm.ClassFile.Instr.iconst (2), 1) = some q) : Jvm.ClassFile.decode cc pc = Except.ok q := by
  rw [← Option.some.inj hq]
  refine kw_fin ?_
  unfold Jvm.ClassFile.Decoder.instr
  exact (kw_bo (kw_op h hk)).trans rfl
theorem kw_o6 {cc : ByteArray} {pc : Nat} {x : UInt8} {r : List UInt8} (h : cc.data.toList.drop pc = x :: r) (hk : x.toNat = 6) {q : Jvm.ClassFile.Instr × Nat} (hq : some (Jvm.ClassFile.Instr.iconst (3), 1) = some q) : Jvm.ClassFile.decode cc pc = Except.ok q := by
  rw [← Option.some.inj hq]
  refine kw_fin ?_
  unfold Jvm.ClassFile.Decoder.instr
  exact (kw_bo (kw_op h hk)).trans rfl
theorem kw_o7 {cc : ByteArray} {pc : Nat} {x : UInt8} {r : List UInt8} (h : cc.data.toList.drop pc = x :: r) (hk : x.toNat = 7) {q : Jvm.ClassFile.Instr × Nat} (hq : some (Jvm.ClassFile.Instr.iconst (4), 1) = some q) : Jvm.ClassFile.decode cc pc = Except.ok q := by
  rw [← Option.some.inj hq]
  refine kw_fin ?_
  unfold Jvm.ClassFile.Decoder.instr
  exact (kw_bo (kw_op h hk)).trans rfl
theorem kw_o8 {cc : ByteArray} {pc : Nat} {x : UInt8} {r : List UInt8} (h : cc.data.toList.drop pc = x :: r) (hk : x.toNat = 8) {q : Jvm.ClassFile.Instr × Nat} (hq : some (Jvm.ClassFile.Instr.iconst (5), 1) = some q) : Jvm.ClassFile.decode cc pc = Except.ok q := by
  rw [← Option.some.inj hq]
  refine kw_fin ?_
  unfold Jvm.ClassFile.Decoder.instr
  exact (kw_bo (kw_op h hk)).trans rfl
theorem kw_o9 {cc : ByteArray} {pc : Nat} {x : UInt8} {r : List UInt8} (h : cc.data.toList.drop pc = x :: r) (hk : x.toNat = 9) {q : Jvm.ClassFile.Instr × Nat} (hq : some (Jvm.ClassFile.Instr.lconst 0, 1) = some q) : Jvm.ClassFile.decode cc pc = Except.ok q := by
  rw [← Option.some.inj hq]
  refine kw_fin ?_
  unfold Jvm.ClassFile.Decoder.instr
  exact (kw_bo (kw_op h hk)).trans rfl
theorem kw_o10 {cc : ByteArray} {pc : Nat} {x : UInt8} {r : List UInt8} (h : cc.data.toList.drop pc = x :: r) (hk : x.toNat = 10) {q : Jvm.ClassFile.Instr × Nat} (hq : some (Jvm.ClassFile.Instr.lconst 1, 1) = some q) : Jvm.ClassFile.decode cc pc = Except.ok q := by
  rw [← Option.some.inj hq]
  refine kw_fin ?_
  unfold Jvm.ClassFile.Decoder.instr
  exact (kw_bo (kw_op h hk)).trans rfl
theorem kw_o16 {cc : ByteArray} {pc : Nat} {x : UInt8} {r : List UInt8} (h : cc.data.toList.drop pc = x :: r) (hk : x.toNat = 16) {q : Jvm.ClassFile.Instr × Nat} (hq : (kw_m1 (fun a => Jvm.ClassFile.Instr.bipush (Jvm.ClassFile.Reader.signed 8 a)) r) = some q) : Jvm.ClassFile.decode cc pc = Except.ok q := by
  cases r with
  | nil => cases hq
  | cons a r =>
    rw [← Option.some.inj hq]
    refine kw_fin ?_
    unfold Jvm.ClassFile.Decoder.instr
    refine (kw_bo (kw_op h hk)).trans ?_
    show (bind (Jvm.ClassFile.Reader.s1 : Jvm.ClassFile.Decoder Int) (fun z => pure (Jvm.ClassFile.Instr.bipush z)) : Jvm.ClassFile.Decoder Jvm.ClassFile.Instr) cc (pc + 1) = _
    exact (kw_bo (kw_s1 (kw_drop h))).trans rfl
theorem kw_o17 {cc : ByteArray} {pc : Nat} {x : UInt8} {r : List UInt8} (h : cc.data.toList.drop pc = x :: r) (hk : x.toNat = 17) {q : Jvm.ClassFile.Instr × Nat} (hq : (kw_m2 (fun a b => Jvm.ClassFile.Instr.sipush (Jvm.ClassFile.Reader.signed 16 (a * 256 + b))) r) = some q) : Jvm.ClassFile.decode cc pc = Except.ok q := by
  cases r with
  | nil => cases hq
  | cons a r =>
    cases r with
    | nil => cases hq
    | cons b r =>
      rw [← Option.some.inj hq]
      refine kw_fin ?_
      unfold Jvm.ClassFile.Decoder.instr
      refine (kw_bo (kw_op h hk)).trans ?_
      show (bind (Jvm.ClassFile.Reader.s2 : Jvm.ClassFile.Decoder Int) (fun z => pure (Jvm.ClassFile.Instr.sipush z)) : Jvm.ClassFile.Decoder Jvm.ClassFile.Instr) cc (pc + 1) = _
      exact (kw_bo (kw_s2 (kw_drop h))).trans rfl
theorem kw_o18 {cc : ByteArray} {pc : Nat} {x : UInt8} {r : List UInt8} (h : cc.data.toList.drop pc = x :: r) (hk : x.toNat = 18) {q : Jvm.ClassFile.Instr × Nat} (hq : (kw_m1 (fun a => Jvm.ClassFile.Instr.ldc a) r) = some q) : Jvm.ClassFile.decode cc pc = Except.ok q := by
  cases r with
  | nil => cases hq
  | cons a r =>
    rw [← Option.some.inj hq]
    refine kw_fin ?_
    unfold Jvm.ClassFile.Decoder.instr
    refine (kw_bo (kw_op h hk)).trans ?_
    show (bind (Jvm.ClassFile.Reader.u1 : Jvm.ClassFile.Decoder Nat) (fun z => pure (Jvm.ClassFile.Instr.ldc z)) : Jvm.ClassFile.Decoder Jvm.ClassFile.Instr) cc (pc + 1) = _
    exact (kw_bo (kw_u1 (kw_drop h))).trans rfl
theorem kw_o19 {cc : ByteArray} {pc : Nat} {x : UInt8} {r : List UInt8} (h : cc.data.toList.drop pc = x :: r) (hk : x.toNat = 19) {q : Jvm.ClassFile.Instr × Nat} (hq : (kw_m2 (fun a b => Jvm.ClassFile.Instr.ldc_w (a * 256 + b)) r) = some q) : Jvm.ClassFile.decode cc pc = Except.ok q := by
  cases r with
  | nil => cases hq
  | cons a r =>
    cases r with
    | nil => cases hq
    | cons b r =>
      rw [← Option.some.inj hq]
      refine kw_fin ?_
      unfold Jvm.ClassFile.Decoder.instr
      refine (kw_bo (kw_op h hk)).trans ?_
      show (bind (Jvm.ClassFile.Reader.u2 : Jvm.ClassFile.Decoder Nat) (fun z => pure (Jvm.ClassFile.Instr.ldc_w z)) : Jvm.ClassFile.Decoder Jvm.ClassFile.Instr) cc (pc + 1) = _
      exact (kw_bo (kw_u2 (kw_drop h))).trans rfl
theorem kw_o20 {cc : ByteArray} {pc : Nat} {x : UInt8} {r : List UInt8} (h : cc.data.toList.drop pc = x :: r) (hk : x.toNat = 20) {q : Jvm.ClassFile.Instr × Nat} (hq : (kw_m2 (fun a b => Jvm.ClassFile.Instr.ldc2_w (a * 256 + b)) r) = some q) : Jvm.ClassFile.decode cc pc = Except.ok q := by
  cases r with
  | nil => cases hq
  | cons a r =>
    cases r with
    | nil => cases hq
    | cons b r =>
      rw [← Option.some.inj hq]
      refine kw_fin ?_
      unfold Jvm.ClassFile.Decoder.instr
      refine (kw_bo (kw_op h hk)).trans ?_
      show (bind (Jvm.ClassFile.Reader.u2 : Jvm.ClassFile.Decoder Nat) (fun z => pure (Jvm.ClassFile.Instr.ldc2_w z)) : Jvm.ClassFile.Decoder Jvm.ClassFile.Instr) cc (pc + 1) = _
      exact (kw_bo (kw_u2 (kw_drop h))).trans rfl
theorem kw_o21 {cc : ByteArray} {pc : Nat} {x : UInt8} {r : List UInt8} (h : cc.data.toList.drop pc = x :: r) (hk : x.toNat = 21) {q : Jvm.ClassFile.Instr × Nat} (hq : (kw_m1 (fun a => Jvm.ClassFile.Instr.iload a) r) = some q) : Jvm.ClassFile.decode cc pc = Except.ok q := by
  cases r with
  | nil => cases hq
  | cons a r =>
    rw [← Option.some.inj hq]
    refine kw_fin ?_
    unfold Jvm.ClassFile.Decoder.instr
    refine (kw_bo (kw_op h hk)).trans ?_
    show (bind (Jvm.ClassFile.Reader.u1 : Jvm.ClassFile.Decoder Nat) (fun z => pure (Jvm.ClassFile.Instr.iload z)) : Jvm.ClassFile.Decoder Jvm.ClassFile.Instr) cc (pc + 1) = _
    exact (kw_bo (kw_u1 (kw_drop h))).trans rfl
theorem kw_o22 {cc : ByteArray} {pc : Nat} {x : UInt8} {r : List UInt8} (h : cc.data.toList.drop pc = x :: r) (hk : x.toNat = 22) {q : Jvm.ClassFile.Instr × Nat} (hq : (kw_m1 (fun a => Jvm.ClassFile.Instr.lload a) r) = some q) : Jvm.ClassFile.decode cc pc = Except.ok q := by
  cases r with
  | nil => cases hq
  | cons a r =>
    rw [← Option.some.inj hq]
    refine kw_fin ?_
    unfold Jvm.ClassFile.Decoder.instr
    refine (kw_bo (kw_op h hk)).trans ?_
    show (bind (Jvm.ClassFile.Reader.u1 : Jvm.ClassFile.Decoder Nat) (fun z => pure (Jvm.ClassFile.Instr.lload z)) : Jvm.ClassFile.Decoder Jvm.ClassFile.Instr) cc (pc + 1) = _
    exact (kw_bo (kw_u1 (kw_drop h))).trans rfl
theorem kw_o25 {cc : ByteArray} {pc : Nat} {x : UInt8} {r : List UInt8} (h : cc.data.toList.drop pc = x :: r) (hk : x.toNat = 25) {q : Jvm.ClassFile.Instr × Nat} (hq : (kw_m1 (fun a => Jvm.ClassFile.Instr.aload a) r) = some q) : Jvm.ClassFile.decode cc pc = Except.ok q := by
  cases r with
  | nil => cases hq
  | cons a r =>
    rw [← Option.some.inj hq]
    refine kw_fin ?_
    unfold Jvm.ClassFile.Decoder.instr
    refine (kw_bo (kw_op h hk)).trans ?_
    show (bind (Jvm.ClassFile.Reader.u1 : Jvm.ClassFile.Decoder Nat) (fun z => pure (Jvm.ClassFile.Instr.aload z)) : Jvm.ClassFile.Decoder Jvm.ClassFile.Instr) cc (pc + 1) = _
    exact (kw_bo (kw_u1 (kw_drop h))).trans rfl
theorem kw_o26 {cc : ByteArray} {pc : Nat} {x : UInt8} {r : List UInt8} (h : cc.data.toList.drop pc = x :: r) (hk : x.toNat = 26) {q : Jvm.ClassFile.Instr × Nat} (hq : some (Jvm.ClassFile.Instr.iload_n 0, 1) = some q) : Jvm.ClassFile.decode cc pc = Except.ok q := by
  rw [← Option.some.inj hq]
  refine kw_fin ?_
  unfold Jvm.ClassFile.Decoder.instr
  exact (kw_bo (kw_op h hk)).trans rfl
theorem kw_o27 {cc : ByteArray} {pc : Nat} {x : UInt8} {r : List UInt8} (h : cc.data.toList.drop pc = x :: r) (hk : x.toNat = 27) {q : Jvm.ClassFile.Instr × Nat} (hq : some (Jvm.ClassFile.Instr.iload_n 1, 1) = some q) : Jvm.ClassFile.decode cc pc = Except.ok q := by
  rw [← Option.some.inj hq]
  refine kw_fin ?_
  unfold Jvm.ClassFile.Decoder.instr
  exact (kw_bo (kw_op h hk)).trans rfl
theorem kw_o28 {cc : ByteArray} {pc : Nat} {x : UInt8} {r : List UInt8} (h : cc.data.toList.drop pc = x :: r) (hk : x.toNat = 28) {q : Jvm.ClassFile.Instr × Nat} (hq : some (Jvm.ClassFile.Instr.iload_n 2, 1) = some q) : Jvm.ClassFile.decode cc pc = Except.ok q := by
  rw [← Option.some.inj hq]
  refine kw_fin ?_
  unfold Jvm.ClassFile.Decoder.instr
  exact (kw_bo (kw_op h hk)).trans rfl
theorem kw_o29 {cc : ByteArray} {pc : Nat} {x : UInt8} {r : List UInt8} (h : cc.data.toList.drop pc = x :: r) (hk : x.toNat = 29) {q : Jvm.ClassFile.Instr × Nat} (hq : some (Jvm.ClassFile.Instr.iload_n 3, 1) = some q) : Jvm.ClassFile.decode cc pc = Except.ok q := by
  rw [← Option.some.inj hq]
  refine kw_fin ?_
  unfold Jvm.ClassFile.Decoder.instr
  exact (kw_bo (kw_op h hk)).trans rfl
theorem kw_o30 {cc : ByteArray} {pc : Nat} {x : UInt8} {r : List UInt8} (h : cc.data.toList.drop pc = x :: r) (hk : x.toNat = 30) {q : Jvm.ClassFile.Instr × Nat} (hq : some (Jvm.ClassFile.Instr.lload_n 0, 1) = some q) : Jvm.ClassFile.decode cc pc = Except.ok q := by
  rw [← Option.some.inj hq]
  refine kw_fin ?_
  unfold Jvm.ClassFile.Decoder.instr
  exact (kw_bo (kw_op h hk)).trans rfl
theorem kw_o31 {cc : ByteArray} {pc : Nat} {x : UInt8} {r : List UInt8} (h : cc.data.toList.drop pc = x :: r) (hk : x.toNat = 31) {q : Jvm.ClassFile.Instr × Nat} (hq : some (Jvm.ClassFile.Instr.lload_n 1, 1) = some q) : Jvm.ClassFile.decode cc pc = Except.ok q := by
  rw [← Option.some.inj hq]
  refine kw_fin ?_
  unfold Jvm.ClassFile.Decoder.instr
  exact (kw_bo (kw_op h hk)).trans rfl
theorem kw_o32 {cc : ByteArray} {pc : Nat} {x : UInt8} {r : List UInt8} (h : cc.data.toList.drop pc = x :: r) (hk : x.toNat = 32) {q : Jvm.ClassFile.Instr × Nat} (hq : some (Jvm.ClassFile.Instr.lload_n 2, 1) = some q) : Jvm.ClassFile.decode cc pc = Except.ok q := by
  rw [← Option.some.inj hq]
  refine kw_fin ?_
  unfold Jvm.ClassFile.Decoder.instr
  exact (kw_bo (kw_op h hk)).trans rfl
theorem kw_o33 {cc : ByteArray} {pc : Nat} {x : UInt8} {r : List UInt8} (h : cc.data.toList.drop pc = x :: r) (hk : x.toNat = 33) {q : Jvm.ClassFile.Instr × Nat} (hq : some (Jvm.ClassFile.Instr.lload_n 3, 1) = some q) : Jvm.ClassFile.decode cc pc = Except.ok q := by
  rw [← Option.some.inj hq]
  refine kw_fin ?_
  unfold Jvm.ClassFile.Decoder.instr
  exact (kw_bo (kw_op h hk)).trans rfl
theorem kw_o42 {cc : ByteArray} {pc : Nat} {x : UInt8} {r : List UInt8} (h : cc.data.toList.drop pc = x :: r) (hk : x.toNat = 42) {q : Jvm.ClassFile.Instr × Nat} (hq : some (Jvm.ClassFile.Instr.aload_n 0, 1) = some q) : Jvm.ClassFile.decode cc pc = Except.ok q := by
  rw [← Option.some.inj hq]
  refine kw_fin ?_
  unfold Jvm.ClassFile.Decoder.instr
  exact (kw_bo (kw_op h hk)).trans rfl
theorem kw_o43 {cc : ByteArray} {pc : Nat} {x : UInt8} {r : List UInt8} (h : cc.data.toList.drop pc = x :: r) (hk : x.toNat = 43) {q : Jvm.ClassFile.Instr × Nat} (hq : some (Jvm.ClassFile.Instr.aload_n 1, 1) = some q) : Jvm.ClassFile.decode cc pc = Except.ok q := by
  rw [← Option.some.inj hq]
  refine kw_fin ?_
  unfold Jvm.ClassFile.Decoder.instr
  exact (kw_bo (kw_op h hk)).trans rfl
theorem kw_o44 {cc : ByteArray} {pc : Nat} {x : UInt8} {r : List UInt8} (h : cc.data.toList.drop pc = x :: r) (hk : x.toNat = 44) {q : Jvm.ClassFile.Instr × Nat} (hq : some (Jvm.ClassFile.Instr.aload_n 2, 1) = some q) : Jvm.ClassFile.decode cc pc = Except.ok q := by
  rw [← Option.some.inj hq]
  refine kw_fin ?_
  unfold Jvm.ClassFile.Decoder.instr
  exact (kw_bo (kw_op h hk)).trans rfl
theorem kw_o45 {cc : ByteArray} {pc : Nat} {x : UInt8} {r : List UInt8} (h : cc.data.toList.drop pc = x :: r) (hk : x.toNat = 45) {q : Jvm.ClassFile.Instr × Nat} (hq : some (Jvm.ClassFile.Instr.aload_n 3, 1) = some q) : Jvm.ClassFile.decode cc pc = Except.ok q := by
  rw [← Option.some.inj hq]
  refine kw_fin ?_
  unfold Jvm.ClassFile.Decoder.instr
  exact (kw_bo (kw_op h hk)).trans rfl
theorem kw_o46 {cc : ByteArray} {pc : Nat} {x : UInt8} {r : List UInt8} (h : cc.data.toList.drop pc = x :: r) (hk : x.toNat = 46) {q : Jvm.ClassFile.Instr × Nat} (hq : some (Jvm.ClassFile.Instr.iaload, 1) = some q) : Jvm.ClassFile.decode cc pc = Except.ok q := by
  rw [← Option.some.inj hq]
  refine kw_fin ?_
  unfold Jvm.ClassFile.Decoder.instr
  exact (kw_bo (kw_op h hk)).trans rfl
theorem kw_o47 {cc : ByteArray} {pc : Nat} {x : UInt8} {r : List UInt8} (h : cc.data.toList.drop pc = x :: r) (hk : x.toNat = 47) {q : Jvm.ClassFile.Instr × Nat} (hq : some (Jvm.ClassFile.Instr.laload, 1) = some q) : Jvm.ClassFile.decode cc pc = Except.ok q := by
  rw [← Option.some.inj hq]
  refine kw_fin ?_
  unfold Jvm.ClassFile.Decoder.instr
  exact (kw_bo (kw_op h hk)).trans rfl
theorem kw_o50 {cc : ByteArray} {pc : Nat} {x : UInt8} {r : List UInt8} (h : cc.data.toList.drop pc = x :: r) (hk : x.toNat = 50) {q : Jvm.ClassFile.Instr × Nat} (hq : some (Jvm.ClassFile.Instr.aaload, 1) = some q) : Jvm.ClassFile.decode cc pc = Except.ok q := by
  rw [← Option.some.inj hq]
  refine kw_fin ?_
  unfold Jvm.ClassFile.Decoder.instr
  exact (kw_bo (kw_op h hk)).trans rfl
theorem kw_o51 {cc : ByteArray} {pc : Nat} {x : UInt8} {r : List UInt8} (h : cc.data.toList.drop pc = x :: r) (hk : x.toNat = 51) {q : Jvm.ClassFile.Instr × Nat} (hq : some (Jvm.ClassFile.Instr.baload, 1) = some q) : Jvm.ClassFile.decode cc pc = Except.ok q := by
  rw [← Option.some.inj hq]
  refine kw_fin ?_
  unfold Jvm.ClassFile.Decoder.instr
  exact (kw_bo (kw_op h hk)).trans rfl
theorem kw_o53 {cc : ByteArray} {pc : Nat} {x : UInt8} {r : List UInt8} (h : cc.data.toList.drop pc = x :: r) (hk : x.toNat = 53) {q : Jvm.ClassFile.Instr × Nat} (hq : some (Jvm.ClassFile.Instr.saload, 1) = some q) : Jvm.ClassFile.decode cc pc = Except.ok q := by
  rw [← Option.some.inj hq]
  refine kw_fin ?_
  unfold Jvm.ClassFile.Decoder.instr
  exact (kw_bo (kw_op h hk)).trans rfl
theorem kw_o54 {cc : ByteArray} {pc : Nat} {x : UInt8} {r : List UInt8} (h : cc.data.toList.drop pc = x :: r) (hk : x.toNat = 54) {q : Jvm.ClassFile.Instr × Nat} (hq : (kw_m1 (fun a => Jvm.ClassFile.Instr.istore a) r) = some q) : Jvm.ClassFile.decode cc pc = Except.ok q := by
  cases r with
  | nil => cases hq
  | cons a r =>
    rw [← Option.some.inj hq]
    refine kw_fin ?_
    unfold Jvm.ClassFile.Decoder.instr
    refine (kw_bo (kw_op h hk)).trans ?_
    show (bind (Jvm.ClassFile.Reader.u1 : Jvm.ClassFile.Decoder Nat) (fun z => pure (Jvm.ClassFile.Instr.istore z)) : Jvm.ClassFile.Decoder Jvm.ClassFile.Instr) cc (pc + 1) = _
    exact (kw_bo (kw_u1 (kw_drop h))).trans rfl
theorem kw_o55 {cc : ByteArray} {pc : Nat} {x : UInt8} {r : List UInt8} (h : cc.data.toList.drop pc = x :: r) (hk : x.toNat = 55) {q : Jvm.ClassFile.Instr × Nat} (hq : (kw_m1 (fun a => Jvm.ClassFile.Instr.lstore a) r) = some q) : Jvm.ClassFile.decode cc pc = Except.ok q := by
  cases r with
  | nil => cases hq
  | cons a r =>
    rw [← Option.some.inj hq]
    refine kw_fin ?_
    unfold Jvm.ClassFile.Decoder.instr
    refine (kw_bo (kw_op h hk)).trans ?_
    show (bind (Jvm.ClassFile.Reader.u1 : Jvm.ClassFile.Decoder Nat) (fun z => pure (Jvm.ClassFile.Instr.lstore z)) : Jvm.ClassFile.Decoder Jvm.ClassFile.Instr) cc (pc + 1) = _
    exact (kw_bo (kw_u1 (kw_drop h))).trans rfl
theorem kw_o58 {cc : ByteArray} {pc : Nat} {x : UInt8} {r : List UInt8} (h : cc.data.toList.drop pc = x :: r) (hk : x.toNat = 58) {q : Jvm.ClassFile.Instr × Nat} (hq : (kw_m1 (fun a => Jvm.ClassFile.Instr.astore a) r) = some q) : Jvm.ClassFile.decode cc pc = Except.ok q := by
  cases r with
  | nil => cases hq
  | cons a r =>
    rw [← Option.some.inj hq]
    refine kw_fin ?_
    unfold Jvm.ClassFile.Decoder.instr
    refine (kw_bo (kw_op h hk)).trans ?_
    show (bind (Jvm.ClassFile.Reader.u1 : Jvm.ClassFile.Decoder Nat) (fun z => pure (Jvm.ClassFile.Instr.astore z)) : Jvm.ClassFile.Decoder Jvm.ClassFile.Instr) cc (pc + 1) = _
    exact (kw_bo (kw_u1 (kw_drop h))).trans rfl
theorem kw_o59 {cc : ByteArray} {pc : Nat} {x : UInt8} {r : List UInt8} (h : cc.data.toList.drop pc = x :: r) (hk : x.toNat = 59) {q : Jvm.ClassFile.Instr × Nat} (hq : some (Jvm.ClassFile.Instr.istore_n 0, 1) = some q) : Jvm.ClassFile.decode cc pc = Except.ok q := by
  rw [← Option.some.inj hq]
  refine kw_fin ?_
  unfold Jvm.ClassFile.Decoder.instr
  exact (kw_bo (kw_op h hk)).trans rfl
theorem kw_o60 {cc : ByteArray} {pc : Nat} {x : UInt8} {r : List UInt8} (h : cc.data.toList.drop pc = x :: r) (hk : x.toNat = 60) {q : Jvm.ClassFile.Instr × Nat} (hq : some (Jvm.ClassFile.Instr.istore_n 1, 1) = some q) : Jvm.ClassFile.decode cc pc = Except.ok q := by
  rw [← Option.some.inj hq]
  refine kw_fin ?_
  unfold Jvm.ClassFile.Decoder.instr
  exact (kw_bo (kw_op h hk)).trans rfl
theorem kw_o61 {cc : ByteArray} {pc : Nat} {x : UInt8} {r : List UInt8} (h : cc.data.toList.drop pc = x :: r) (hk : x.toNat = 61) {q : Jvm.ClassFile.Instr × Nat} (hq : some (Jvm.ClassFile.Instr.istore_n 2, 1) = some q) : Jvm.ClassFile.decode cc pc = Except.ok q := by
  rw [← Option.some.inj hq]
  refine kw_fin ?_
  unfold Jvm.ClassFile.Decoder.instr
  exact (kw_bo (kw_op h hk)).trans rfl
theorem kw_o62 {cc : ByteArray} {pc : Nat} {x : UInt8} {r : List UInt8} (h : cc.data.toList.drop pc = x :: r) (hk : x.toNat = 62) {q : Jvm.ClassFile.Instr × Nat} (hq : some (Jvm.ClassFile.Instr.istore_n 3, 1) = some q) : Jvm.ClassFile.decode cc pc = Except.ok q := by
  rw [← Option.some.inj hq]
  refine kw_fin ?_
  unfold Jvm.ClassFile.Decoder.instr
  exact (kw_bo (kw_op h hk)).trans rfl
theorem kw_o63 {cc : ByteArray} {pc : Nat} {x : UInt8} {r : List UInt8} (h : cc.data.toList.drop pc = x :: r) (hk : x.toNat = 63) {q : Jvm.ClassFile.Instr × Nat} (hq : some (Jvm.ClassFile.Instr.lstore_n 0, 1) = some q) : Jvm.ClassFile.decode cc pc = Except.ok q := by
  rw [← Option.some.inj hq]
  refine kw_fin ?_
  unfold Jvm.ClassFile.Decoder.instr
  exact (kw_bo (kw_op h hk)).trans rfl
theorem kw_o64 {cc : ByteArray} {pc : Nat} {x : UInt8} {r : List UInt8} (h : cc.data.toList.drop pc = x :: r) (hk : x.toNat = 64) {q : Jvm.ClassFile.Instr × Nat} (hq : some (Jvm.ClassFile.Instr.lstore_n 1, 1) = some q) : Jvm.ClassFile.decode cc pc = Except.ok q := by
  rw [← Option.some.inj hq]
  refine kw_fin ?_
  unfold Jvm.ClassFile.Decoder.instr
  exact (kw_bo (kw_op h hk)).trans rfl
theorem kw_o65 {cc : ByteArray} {pc : Nat} {x : UInt8} {r : List UInt8} (h : cc.data.toList.drop pc = x :: r) (hk : x.toNat = 65) {q : Jvm.ClassFile.Instr × Nat} (hq : some (Jvm.ClassFile.Instr.lstore_n 2, 1) = some q) : Jvm.ClassFile.decode cc pc = Except.ok q := by
  rw [← Option.some.inj hq]
  refine kw_fin ?_
  unfold Jvm.ClassFile.Decoder.instr
  exact (kw_bo (kw_op h hk)).trans rfl
theorem kw_o66 {cc : ByteArray} {pc : Nat} {x : UInt8} {r : List UInt8} (h : cc.data.toList.drop pc = x :: r) (hk : x.toNat = 66) {q : Jvm.ClassFile.Instr × Nat} (hq : some (Jvm.ClassFile.Instr.lstore_n 3, 1) = some q) : Jvm.ClassFile.decode cc pc = Except.ok q := by
  rw [← Option.some.inj hq]
  refine kw_fin ?_
  unfold Jvm.ClassFile.Decoder.instr
  exact (kw_bo (kw_op h hk)).trans rfl
theorem kw_o75 {cc : ByteArray} {pc : Nat} {x : UInt8} {r : List UInt8} (h : cc.data.toList.drop pc = x :: r) (hk : x.toNat = 75) {q : Jvm.ClassFile.Instr × Nat} (hq : some (Jvm.ClassFile.Instr.astore_n 0, 1) = some q) : Jvm.ClassFile.decode cc pc = Except.ok q := by
  rw [← Option.some.inj hq]
  refine kw_fin ?_
  unfold Jvm.ClassFile.Decoder.instr
  exact (kw_bo (kw_op h hk)).trans rfl
theorem kw_o76 {cc : ByteArray} {pc : Nat} {x : UInt8} {r : List UInt8} (h : cc.data.toList.drop pc = x :: r) (hk : x.toNat = 76) {q : Jvm.ClassFile.Instr × Nat} (hq : some (Jvm.ClassFile.Instr.astore_n 1, 1) = some q) : Jvm.ClassFile.decode cc pc = Except.ok q := by
  rw [← Option.some.inj hq]
  refine kw_fin ?_
  unfold Jvm.ClassFile.Decoder.instr
  exact (kw_bo (kw_op h hk)).trans rfl
theorem kw_o77 {cc : ByteArray} {pc : Nat} {x : UInt8} {r : List UInt8} (h : cc.data.toList.drop pc = x :: r) (hk : x.toNat = 77) {q : Jvm.ClassFile.Instr × Nat} (hq : some (Jvm.ClassFile.Instr.astore_n 2, 1) = some q) : Jvm.ClassFile.decode cc pc = Except.ok q := by
  rw [← Option.some.inj hq]
  refine kw_fin ?_
  unfold Jvm.ClassFile.Decoder.instr
  exact (kw_bo (kw_op h hk)).trans rfl
theorem kw_o78 {cc : ByteArray} {pc : Nat} {x : UInt8} {r : List UInt8} (h : cc.data.toList.drop pc = x :: r) (hk : x.toNat = 78) {q : Jvm.ClassFile.Instr × Nat} (hq : some (Jvm.ClassFile.Instr.astore_n 3, 1) = some q) : Jvm.ClassFile.decode cc pc = Except.ok q := by
  rw [← Option.some.inj hq]
  refine kw_fin ?_
  unfold Jvm.ClassFile.Decoder.instr
  exact (kw_bo (kw_op h hk)).trans rfl
theorem kw_o79 {cc : ByteArray} {pc : Nat} {x : UInt8} {r : List UInt8} (h : cc.data.toList.drop pc = x :: r) (hk : x.toNat = 79) {q : Jvm.ClassFile.Instr × Nat} (hq : some (Jvm.ClassFile.Instr.iastore, 1) = some q) : Jvm.ClassFile.decode cc pc = Except.ok q := by
  rw [← Option.some.inj hq]
  refine kw_fin ?_
  unfold Jvm.ClassFile.Decoder.instr
  exact (kw_bo (kw_op h hk)).trans rfl
theorem kw_o80 {cc : ByteArray} {pc : Nat} {x : UInt8} {r : List UInt8} (h : cc.data.toList.drop pc = x :: r) (hk : x.toNat = 80) {q : Jvm.ClassFile.Instr × Nat} (hq : some (Jvm.ClassFile.Instr.lastore, 1) = some q) : Jvm.ClassFile.decode cc pc = Except.ok q := by
  rw [← Option.some.inj hq]
  refine kw_fin ?_
  unfold Jvm.ClassFile.Decoder.instr
  exact (kw_bo (kw_op h hk)).trans rfl
theorem kw_o83 {cc : ByteArray} {pc : Nat} {x : UInt8} {r : List UInt8} (h : cc.data.toList.drop pc = x :: r) (hk : x.toNat = 83) {q : Jvm.ClassFile.Instr × Nat} (hq : some (Jvm.ClassFile.Instr.aastore, 1) = some q) : Jvm.ClassFile.decode cc pc = Except.ok q := by
  rw [← Option.some.inj hq]
  refine kw_fin ?_
  unfold Jvm.ClassFile.Decoder.instr
  exact (kw_bo (kw_op h hk)).trans rfl
theorem kw_o84 {cc : ByteArray} {pc : Nat} {x : UInt8} {r : List UInt8} (h : cc.data.toList.drop pc = x :: r) (hk : x.toNat = 84) {q : Jvm.ClassFile.Instr × Nat} (hq : some (Jvm.ClassFile.Instr.bastore, 1) = some q) : Jvm.ClassFile.decode cc pc = Except.ok q := by
  rw [← Option.some.inj hq]
  refine kw_fin ?_
  unfold Jvm.ClassFile.Decoder.instr
  exact (kw_bo (kw_op h hk)).trans rfl
theorem kw_o86 {cc : ByteArray} {pc : Nat} {x : UInt8} {r : List UInt8} (h : cc.data.toList.drop pc = x :: r) (hk : x.toNat = 86) {q : Jvm.ClassFile.Instr × Nat} (hq : some (Jvm.ClassFile.Instr.sastore, 1) = some q) : Jvm.ClassFile.decode cc pc = Except.ok q := by
  rw [← Option.some.inj hq]
  refine kw_fin ?_
  unfold Jvm.ClassFile.Decoder.instr
  exact (kw_bo (kw_op h hk)).trans rfl
theorem kw_o87 {cc : ByteArray} {pc : Nat} {x : UInt8} {r : List UInt8} (h : cc.data.toList.drop pc = x :: r) (hk : x.toNat = 87) {q : Jvm.ClassFile.Instr × Nat} (hq : some (Jvm.ClassFile.Instr.pop, 1) = some q) : Jvm.ClassFile.decode cc pc = Except.ok q := by
  rw [← Option.some.inj hq]
  refine kw_fin ?_
  unfold Jvm.ClassFile.Decoder.instr
  exact (kw_bo (kw_op h hk)).trans rfl
theorem kw_o88 {cc : ByteArray} {pc : Nat} {x : UInt8} {r : List UInt8} (h : cc.data.toList.drop pc = x :: r) (hk : x.toNat = 88) {q : Jvm.ClassFile.Instr × Nat} (hq : some (Jvm.ClassFile.Instr.pop2, 1) = some q) : Jvm.ClassFile.decode cc pc = Except.ok q := by
  rw [← Option.some.inj hq]
  refine kw_fin ?_
  unfold Jvm.ClassFile.Decoder.instr
  exact (kw_bo (kw_op h hk)).trans rfl
theorem kw_o89 {cc : ByteArray} {pc : Nat} {x : UInt8} {r : List UInt8} (h : cc.data.toList.drop pc = x :: r) (hk : x.toNat = 89) {q : Jvm.ClassFile.Instr × Nat} (hq : some (Jvm.ClassFile.Instr.dup, 1) = some q) : Jvm.ClassFile.decode cc pc = Except.ok q := by
  rw [← Option.some.inj hq]
  refine kw_fin ?_
  unfold Jvm.ClassFile.Decoder.instr
  exact (kw_bo (kw_op h hk)).trans rfl
theorem kw_o92 {cc : ByteArray} {pc : Nat} {x : UInt8} {r : List UInt8} (h : cc.data.toList.drop pc = x :: r) (hk : x.toNat = 92) {q : Jvm.ClassFile.Instr × Nat} (hq : some (Jvm.ClassFile.Instr.dup2, 1) = some q) : Jvm.ClassFile.decode cc pc = Except.ok q := by
  rw [← Option.some.inj hq]
  refine kw_fin ?_
  unfold Jvm.ClassFile.Decoder.instr
  exact (kw_bo (kw_op h hk)).trans rfl
theorem kw_o96 {cc : ByteArray} {pc : Nat} {x : UInt8} {r : List UInt8} (h : cc.data.toList.drop pc = x :: r) (hk : x.toNat = 96) {q : Jvm.ClassFile.Instr × Nat} (hq : some (Jvm.ClassFile.Instr.iadd, 1) = some q) : Jvm.ClassFile.decode cc pc = Except.ok q := by
  rw [← Option.some.inj hq]
  refine kw_fin ?_
  unfold Jvm.ClassFile.Decoder.instr
  exact (kw_bo (kw_op h hk)).trans rfl
theorem kw_o97 {cc : ByteArray} {pc : Nat} {x : UInt8} {r : List UInt8} (h : cc.data.toList.drop pc = x :: r) (hk : x.toNat = 97) {q : Jvm.ClassFile.Instr × Nat} (hq : some (Jvm.ClassFile.Instr.ladd, 1) = some q) : Jvm.ClassFile.decode cc pc = Except.ok q := by
  rw [← Option.some.inj hq]
  refine kw_fin ?_
  unfold Jvm.ClassFile.Decoder.instr
  exact (kw_bo (kw_op h hk)).trans rfl
theorem kw_o100 {cc : ByteArray} {pc : Nat} {x : UInt8} {r : List UInt8} (h : cc.data.toList.drop pc = x :: r) (hk : x.toNat = 100) {q : Jvm.ClassFile.Instr × Nat} (hq : some (Jvm.ClassFile.Instr.isub, 1) = some q) : Jvm.ClassFile.decode cc pc = Except.ok q := by
  rw [← Option.some.inj hq]
  refine kw_fin ?_
  unfold Jvm.ClassFile.Decoder.instr
  exact (kw_bo (kw_op h hk)).trans rfl
theorem kw_o101 {cc : ByteArray} {pc : Nat} {x : UInt8} {r : List UInt8} (h : cc.data.toList.drop pc = x :: r) (hk : x.toNat = 101) {q : Jvm.ClassFile.Instr × Nat} (hq : some (Jvm.ClassFile.Instr.lsub, 1) = some q) : Jvm.ClassFile.decode cc pc = Except.ok q := by
  rw [← Option.some.inj hq]
  refine kw_fin ?_
  unfold Jvm.ClassFile.Decoder.instr
  exact (kw_bo (kw_op h hk)).trans rfl
theorem kw_o104 {cc : ByteArray} {pc : Nat} {x : UInt8} {r : List UInt8} (h : cc.data.toList.drop pc = x :: r) (hk : x.toNat = 104) {q : Jvm.ClassFile.Instr × Nat} (hq : some (Jvm.ClassFile.Instr.imul, 1) = some q) : Jvm.ClassFile.decode cc pc = Except.ok q := by
  rw [← Option.some.inj hq]
  refine kw_fin ?_
  unfold Jvm.ClassFile.Decoder.instr
  exact (kw_bo (kw_op h hk)).trans rfl
theorem kw_o108 {cc : ByteArray} {pc : Nat} {x : UInt8} {r : List UInt8} (h : cc.data.toList.drop pc = x :: r) (hk : x.toNat = 108) {q : Jvm.ClassFile.Instr × Nat} (hq : some (Jvm.ClassFile.Instr.idiv, 1) = some q) : Jvm.ClassFile.decode cc pc = Except.ok q := by
  rw [← Option.some.inj hq]
  refine kw_fin ?_
  unfold Jvm.ClassFile.Decoder.instr
  exact (kw_bo (kw_op h hk)).trans rfl
theorem kw_o112 {cc : ByteArray} {pc : Nat} {x : UInt8} {r : List UInt8} (h : cc.data.toList.drop pc = x :: r) (hk : x.toNat = 112) {q : Jvm.ClassFile.Instr × Nat} (hq : some (Jvm.ClassFile.Instr.irem, 1) = some q) : Jvm.ClassFile.decode cc pc = Except.ok q := by
  rw [← Option.some.inj hq]
  refine kw_fin ?_
  unfold Jvm.ClassFile.Decoder.instr
  exact (kw_bo (kw_op h hk)).trans rfl
theorem kw_o116 {cc : ByteArray} {pc : Nat} {x : UInt8} {r : List UInt8} (h : cc.data.toList.drop pc = x :: r) (hk : x.toNat = 116) {q : Jvm.ClassFile.Instr × Nat} (hq : some (Jvm.ClassFile.Instr.ineg, 1) = some q) : Jvm.ClassFile.decode cc pc = Except.ok q := by
  rw [← Option.some.inj hq]
  refine kw_fin ?_
  unfold Jvm.ClassFile.Decoder.instr
  exact (kw_bo (kw_op h hk)).trans rfl
theorem kw_o120 {cc : ByteArray} {pc : Nat} {x : UInt8} {r : List UInt8} (h : cc.data.toList.drop pc = x :: r) (hk : x.toNat = 120) {q : Jvm.ClassFile.Instr × Nat} (hq : some (Jvm.ClassFile.Instr.ishl, 1) = some q) : Jvm.ClassFile.decode cc pc = Except.ok q := by
  rw [← Option.some.inj hq]
  refine kw_fin ?_
  unfold Jvm.ClassFile.Decoder.instr
  exact (kw_bo (kw_op h hk)).trans rfl
theorem kw_o121 {cc : ByteArray} {pc : Nat} {x : UInt8} {r : List UInt8} (h : cc.data.toList.drop pc = x :: r) (hk : x.toNat = 121) {q : Jvm.ClassFile.Instr × Nat} (hq : some (Jvm.ClassFile.Instr.lshl, 1) = some q) : Jvm.ClassFile.decode cc pc = Except.ok q := by
  rw [← Option.some.inj hq]
  refine kw_fin ?_
  unfold Jvm.ClassFile.Decoder.instr
  exact (kw_bo (kw_op h hk)).trans rfl
theorem kw_o122 {cc : ByteArray} {pc : Nat} {x : UInt8} {r : List UInt8} (h : cc.data.toList.drop pc = x :: r) (hk : x.toNat = 122) {q : Jvm.ClassFile.Instr × Nat} (hq : some (Jvm.ClassFile.Instr.ishr, 1) = some q) : Jvm.ClassFile.decode cc pc = Except.ok q := by
  rw [← Option.some.inj hq]
  refine kw_fin ?_
  unfold Jvm.ClassFile.Decoder.instr
  exact (kw_bo (kw_op h hk)).trans rfl
theorem kw_o124 {cc : ByteArray} {pc : Nat} {x : UInt8} {r : List UInt8} (h : cc.data.toList.drop pc = x :: r) (hk : x.toNat = 124) {q : Jvm.ClassFile.Instr × Nat} (hq : some (Jvm.ClassFile.Instr.iushr, 1) = some q) : Jvm.ClassFile.decode cc pc = Except.ok q := by
  rw [← Option.some.inj hq]
  refine kw_fin ?_
  unfold Jvm.ClassFile.Decoder.instr
  exact (kw_bo (kw_op h hk)).trans rfl
theorem kw_o125 {cc : ByteArray} {pc : Nat} {x : UInt8} {r : List UInt8} (h : cc.data.toList.drop pc = x :: r) (hk : x.toNat = 125) {q : Jvm.ClassFile.Instr × Nat} (hq : some (Jvm.ClassFile.Instr.lushr, 1) = some q) : Jvm.ClassFile.decode cc pc = Except.ok q := by
  rw [← Option.some.inj hq]
  refine kw_fin ?_
  unfold Jvm.ClassFile.Decoder.instr
  exact (kw_bo (kw_op h hk)).trans rfl
theorem kw_o126 {cc : ByteArray} {pc : Nat} {x : UInt8} {r : List UInt8} (h : cc.data.toList.drop pc = x :: r) (hk : x.toNat = 126) {q : Jvm.ClassFile.Instr × Nat} (hq : some (Jvm.ClassFile.Instr.iand, 1) = some q) : Jvm.ClassFile.decode cc pc = Except.ok q := by
  rw [← Option.some.inj hq]
  refine kw_fin ?_
  unfold Jvm.ClassFile.Decoder.instr
  exact (kw_bo (kw_op h hk)).trans rfl
theorem kw_o127 {cc : ByteArray} {pc : Nat} {x : UInt8} {r : List UInt8} (h : cc.data.toList.drop pc = x :: r) (hk : x.toNat = 127) {q : Jvm.ClassFile.Instr × Nat} (hq : some (Jvm.ClassFile.Instr.land, 1) = some q) : Jvm.ClassFile.decode cc pc = Except.ok q := by
  rw [← Option.some.inj hq]
  refine kw_fin ?_
  unfold Jvm.ClassFile.Decoder.instr
  exact (kw_bo (kw_op h hk)).trans rfl
theorem kw_o128 {cc : ByteArray} {pc : Nat} {x : UInt8} {r : List UInt8} (h : cc.data.toList.drop pc = x :: r) (hk : x.toNat = 128) {q : Jvm.ClassFile.Instr × Nat} (hq : some (Jvm.ClassFile.Instr.ior, 1) = some q) : Jvm.ClassFile.decode cc pc = Except.ok q := by
  rw [← Option.some.inj hq]
  refine kw_fin ?_
  unfold Jvm.ClassFile.Decoder.instr
  exact (kw_bo (kw_op h hk)).trans rfl
theorem kw_o129 {cc : ByteArray} {pc : Nat} {x : UInt8} {r : List UInt8} (h : cc.data.toList.drop pc = x :: r) (hk : x.toNat = 129) {q : Jvm.ClassFile.Instr × Nat} (hq : some (Jvm.ClassFile.Instr.lor, 1) = some q) : Jvm.ClassFile.decode cc pc = Except.ok q := by
  rw [← Option.some.inj hq]
  refine kw_fin ?_
  unfold Jvm.ClassFile.Decoder.instr
  exact (kw_bo (kw_op h hk)).trans rfl
theorem kw_o130 {cc : ByteArray} {pc : Nat} {x : UInt8} {r : List UInt8} (h : cc.data.toList.drop pc = x :: r) (hk : x.toNat = 130) {q : Jvm.ClassFile.Instr × Nat} (hq : some (Jvm.ClassFile.Instr.ixor, 1) = some q) : Jvm.ClassFile.decode cc pc = Except.ok q := by
  rw [← Option.some.inj hq]
  refine kw_fin ?_
  unfold Jvm.ClassFile.Decoder.instr
  exact (kw_bo (kw_op h hk)).trans rfl
theorem kw_o132 {cc : ByteArray} {pc : Nat} {x : UInt8} {r : List UInt8} (h : cc.data.toList.drop pc = x :: r) (hk : x.toNat = 132) {q : Jvm.ClassFile.Instr × Nat} (hq : (kw_m2 (fun a b => Jvm.ClassFile.Instr.iinc a (Jvm.ClassFile.Reader.signed 8 b)) r) = some q) : Jvm.ClassFile.decode cc pc = Except.ok q := by
  cases r with
  | nil => cases hq
  | cons a r =>
    cases r with
    | nil => cases hq
    | cons b r =>
      rw [← Option.some.inj hq]
      refine kw_fin ?_
      unfold Jvm.ClassFile.Decoder.instr
      refine (kw_bo (kw_op h hk)).trans ?_
      show (bind (Jvm.ClassFile.Reader.u1 : Jvm.ClassFile.Decoder Nat) (fun z => bind (Jvm.ClassFile.Reader.s1 : Jvm.ClassFile.Decoder Int) (fun y => pure (Jvm.ClassFile.Instr.iinc z y))) : Jvm.ClassFile.Decoder Jvm.ClassFile.Instr) cc (pc + 1) = _
      exact (kw_bo (kw_u1 (kw_drop h))).trans ((kw_bo (kw_s1 (kw_drop (kw_drop h)))).trans rfl)
theorem kw_o133 {cc : ByteArray} {pc : Nat} {x : UInt8} {r : List UInt8} (h : cc.data.toList.drop pc = x :: r) (hk : x.toNat = 133) {q : Jvm.ClassFile.Instr × Nat} (hq : some (Jvm.ClassFile.Instr.i2l, 1) = some q) : Jvm.ClassFile.decode cc pc = Except.ok q := by
  rw [← Option.some.inj hq]
  refine kw_fin ?_
  unfold Jvm.ClassFile.Decoder.instr
  exact (kw_bo (kw_op h hk)).trans rfl
theorem kw_o136 {cc : ByteArray} {pc : Nat} {x : UInt8} {r : List UInt8} (h : cc.data.toList.drop pc = x :: r) (hk : x.toNat = 136) {q : Jvm.ClassFile.Instr × Nat} (hq : some (Jvm.ClassFile.Instr.l2i, 1) = some q) : Jvm.ClassFile.decode cc pc = Except.ok q := by
  rw [← Option.some.inj hq]
  refine kw_fin ?_
  unfold Jvm.ClassFile.Decoder.instr
  exact (kw_bo (kw_op h hk)).trans rfl
theorem kw_o145 {cc : ByteArray} {pc : Nat} {x : UInt8} {r : List UInt8} (h : cc.data.toList.drop pc = x :: r) (hk : x.toNat = 145) {q : Jvm.ClassFile.Instr × Nat} (hq : some (Jvm.ClassFile.Instr.i2b, 1) = some q) : Jvm.ClassFile.decode cc pc = Except.ok q := by
  rw [← Option.some.inj hq]
  refine kw_fin ?_
  unfold Jvm.ClassFile.Decoder.instr
  exact (kw_bo (kw_op h hk)).trans rfl
theorem kw_o147 {cc : ByteArray} {pc : Nat} {x : UInt8} {r : List UInt8} (h : cc.data.toList.drop pc = x :: r) (hk : x.toNat = 147) {q : Jvm.ClassFile.Instr × Nat} (hq : some (Jvm.ClassFile.Instr.i2s, 1) = some q) : Jvm.ClassFile.decode cc pc = Except.ok q := by
  rw [← Option.some.inj hq]
  refine kw_fin ?_
  unfold Jvm.ClassFile.Decoder.instr
  exact (kw_bo (kw_op h hk)).trans rfl
theorem kw_o148 {cc : ByteArray} {pc : Nat} {x : UInt8} {r : List UInt8} (h : cc.data.toList.drop pc = x :: r) (hk : x.toNat = 148) {q : Jvm.ClassFile.Instr × Nat} (hq : some (Jvm.ClassFile.Instr.lcmp, 1) = some q) : Jvm.ClassFile.decode cc pc = Except.ok q := by
  rw [← Option.some.inj hq]
  refine kw_fin ?_
  unfold Jvm.ClassFile.Decoder.instr
  exact (kw_bo (kw_op h hk)).trans rfl
theorem kw_o153 {cc : ByteArray} {pc : Nat} {x : UInt8} {r : List UInt8} (h : cc.data.toList.drop pc = x :: r) (hk : x.toNat = 153) {q : Jvm.ClassFile.Instr × Nat} (hq : (kw_m2 (fun a b => Jvm.ClassFile.Instr.ifCond .eq (Jvm.ClassFile.Reader.signed 16 (a * 256 + b))) r) = some q) : Jvm.ClassFile.decode cc pc = Except.ok q := by
  cases r with
  | nil => cases hq
  | cons a r =>
    cases r with
    | nil => cases hq
    | cons b r =>
      rw [← Option.some.inj hq]
      refine kw_fin ?_
      unfold Jvm.ClassFile.Decoder.instr
      refine (kw_bo (kw_op h hk)).trans ?_
      show (bind (Jvm.ClassFile.Reader.s2 : Jvm.ClassFile.Decoder Int) (fun z => pure (Jvm.ClassFile.Instr.ifCond .eq z)) : Jvm.ClassFile.Decoder Jvm.ClassFile.Instr) cc (pc + 1) = _
      exact (kw_bo (kw_s2 (kw_drop h))).trans rfl
theorem kw_o154 {cc : ByteArray} {pc : Nat} {x : UInt8} {r : List UInt8} (h : cc.data.toList.drop pc = x :: r) (hk : x.toNat = 154) {q : Jvm.ClassFile.Instr × Nat} (hq : (kw_m2 (fun a b => Jvm.ClassFile.Instr.ifCond .ne (Jvm.ClassFile.Reader.signed 16 (a * 256 + b))) r) = some q) : Jvm.ClassFile.decode cc pc = Except.ok q := by
  cases r with
  | nil => cases hq
  | cons a r =>
    cases r with
    | nil => cases hq
    | cons b r =>
      rw [← Option.some.inj hq]
      refine kw_fin ?_
      unfold Jvm.ClassFile.Decoder.instr
      refine (kw_bo (kw_op h hk)).trans ?_
      show (bind (Jvm.ClassFile.Reader.s2 : Jvm.ClassFile.Decoder Int) (fun z => pure (Jvm.ClassFile.Instr.ifCond .ne z)) : Jvm.ClassFile.Decoder Jvm.ClassFile.Instr) cc (pc + 1) = _
      exact (kw_bo (kw_s2 (kw_drop h))).trans rfl
theorem kw_o155 {cc : ByteArray} {pc : Nat} {x : UInt8} {r : List UInt8} (h : cc.data.toList.drop pc = x :: r) (hk : x.toNat = 155) {q : Jvm.ClassFile.Instr × Nat} (hq : (kw_m2 (fun a b => Jvm.ClassFile.Instr.ifCond .lt (Jvm.ClassFile.Reader.signed 16 (a * 256 + b))) r) = some q) : Jvm.ClassFile.decode cc pc = Except.ok q := by
  cases r with
  | nil => cases hq
  | cons a r =>
    cases r with
    | nil => cases hq
    | cons b r =>
      rw [← Option.some.inj hq]
      refine kw_fin ?_
      unfold Jvm.ClassFile.Decoder.instr
      refine (kw_bo (kw_op h hk)).trans ?_
      show (bind (Jvm.ClassFile.Reader.s2 : Jvm.ClassFile.Decoder Int) (fun z => pure (Jvm.ClassFile.Instr.ifCond .lt z)) : Jvm.ClassFile.Decoder Jvm.ClassFile.Instr) cc (pc + 1) = _
      exact (kw_bo (kw_s2 (kw_drop h))).trans rfl
theorem kw_o156 {cc : ByteArray} {pc : Nat} {x : UInt8} {r : List UInt8} (h : cc.data.toList.drop pc = x :: r) (hk : x.toNat = 156) {q : Jvm.ClassFile.Instr × Nat} (hq : (kw_m2 (fun a b => Jvm.ClassFile.Instr.ifCond .ge (Jvm.ClassFile.Reader.signed 16 (a * 256 + b))) r) = some q) : Jvm.ClassFile.decode cc pc = Except.ok q := by
  cases r with
  | nil => cases hq
  | cons a r =>
    cases r with
    | nil => cases hq
    | cons b r =>
      rw [← Option.some.inj hq]
      refine kw_fin ?_
      unfold Jvm.ClassFile.Decoder.instr
      refine (kw_bo (kw_op h hk)).trans ?_
      show (bind (Jvm.ClassFile.Reader.s2 : Jvm.ClassFile.Decoder Int) (fun z => pure (Jvm.ClassFile.Instr.ifCond .ge z)) : Jvm.ClassFile.Decoder Jvm.ClassFile.Instr) cc (pc + 1) = _
      exact (kw_bo (kw_s2 (kw_drop h))).trans rfl
theorem kw_o157 {cc : ByteArray} {pc : Nat} {x : UInt8} {r : List UInt8} (h : cc.data.toList.drop pc = x :: r) (hk : x.toNat = 157) {q : Jvm.ClassFile.Instr × Nat} (hq : (kw_m2 (fun a b => Jvm.ClassFile.Instr.ifCond .gt (Jvm.ClassFile.Reader.signed 16 (a * 256 + b))) r) = some q) : Jvm.ClassFile.decode cc pc = Except.ok q := by
  cases r with
  | nil => cases hq
  | cons a r =>
    cases r with
    | nil => cases hq
    | cons b r =>
      rw [← Option.some.inj hq]
      refine kw_fin ?_
      unfold Jvm.ClassFile.Decoder.instr
      refine (kw_bo (kw_op h hk)).trans ?_
      show (bind (Jvm.ClassFile.Reader.s2 : Jvm.ClassFile.Decoder Int) (fun z => pure (Jvm.ClassFile.Instr.ifCond .gt z)) : Jvm.ClassFile.Decoder Jvm.ClassFile.Instr) cc (pc + 1) = _
      exact (kw_bo (kw_s2 (kw_drop h))).trans rfl
theorem kw_o158 {cc : ByteArray} {pc : Nat} {x : UInt8} {r : List UInt8} (h : cc.data.toList.drop pc = x :: r) (hk : x.toNat = 158) {q : Jvm.ClassFile.Instr × Nat} (hq : (kw_m2 (fun a b => Jvm.ClassFile.Instr.ifCond .le (Jvm.ClassFile.Reader.signed 16 (a * 256 + b))) r) = some q) : Jvm.ClassFile.decode cc pc = Except.ok q := by
  cases r with
  | nil => cases hq
  | cons a r =>
    cases r with
    | nil => cases hq
    | cons b r =>
      rw [← Option.some.inj hq]
      refine kw_fin ?_
      unfold Jvm.ClassFile.Decoder.instr
      refine (kw_bo (kw_op h hk)).trans ?_
      show (bind (Jvm.ClassFile.Reader.s2 : Jvm.ClassFile.Decoder Int) (fun z => pure (Jvm.ClassFile.Instr.ifCond .le z)) : Jvm.ClassFile.Decoder Jvm.ClassFile.Instr) cc (pc + 1) = _
      exact (kw_bo (kw_s2 (kw_drop h))).trans rfl
theorem kw_o159 {cc : ByteArray} {pc : Nat} {x : UInt8} {r : List UInt8} (h : cc.data.toList.drop pc = x :: r) (hk : x.toNat = 159) {q : Jvm.ClassFile.Instr × Nat} (hq : (kw_m2 (fun a b => Jvm.ClassFile.Instr.if_icmp .eq (Jvm.ClassFile.Reader.signed 16 (a * 256 + b))) r) = some q) : Jvm.ClassFile.decode cc pc = Except.ok q := by
  cases r with
  | nil => cases hq
  | cons a r =>
    cases r with
    | nil => cases hq
    | cons b r =>
      rw [← Option.some.inj hq]
      refine kw_fin ?_
      unfold Jvm.ClassFile.Decoder.instr
      refine (kw_bo (kw_op h hk)).trans ?_
      show (bind (Jvm.ClassFile.Reader.s2 : Jvm.ClassFile.Decoder Int) (fun z => pure (Jvm.ClassFile.Instr.if_icmp .eq z)) : Jvm.ClassFile.Decoder Jvm.ClassFile.Instr) cc (pc + 1) = _
      exact (kw_bo (kw_s2 (kw_drop h))).trans rfl
theorem kw_o160 {cc : ByteArray} {pc : Nat} {x : UInt8} {r : List UInt8} (h : cc.data.toList.drop pc = x :: r) (hk : x.toNat = 160) {q : Jvm.ClassFile.Instr × Nat} (hq : (kw_m2 (fun a b => Jvm.ClassFile.Instr.if_icmp .ne (Jvm.ClassFile.Reader.signed 16 (a * 256 + b))) r) = some q) : Jvm.ClassFile.decode cc pc = Except.ok q := by
  cases r with
  | nil => cases hq
  | cons a r =>
    cases r with
    | nil => cases hq
    | cons b r =>
      rw [← Option.some.inj hq]
      refine kw_fin ?_
      unfold Jvm.ClassFile.Decoder.instr
      refine (kw_bo (kw_op h hk)).trans ?_
      show (bind (Jvm.ClassFile.Reader.s2 : Jvm.ClassFile.Decoder Int) (fun z => pure (Jvm.ClassFile.Instr.if_icmp .ne z)) : Jvm.ClassFile.Decoder Jvm.ClassFile.Instr) cc (pc + 1) = _
      exact (kw_bo (kw_s2 (kw_drop h))).trans rfl
theorem kw_o161 {cc : ByteArray} {pc : Nat} {x : UInt8} {r : List UInt8} (h : cc.data.toList.drop pc = x :: r) (hk : x.toNat = 161) {q : Jvm.ClassFile.Instr × Nat} (hq : (kw_m2 (fun a b => Jvm.ClassFile.Instr.if_icmp .lt (Jvm.ClassFile.Reader.signed 16 (a * 256 + b))) r) = some q) : Jvm.ClassFile.decode cc pc = Except.ok q := by
  cases r with
  | nil => cases hq
  | cons a r =>
    cases r with
    | nil => cases hq
    | cons b r =>
      rw [← Option.some.inj hq]
      refine kw_fin ?_
      unfold Jvm.ClassFile.Decoder.instr
      refine (kw_bo (kw_op h hk)).trans ?_
      show (bind (Jvm.ClassFile.Reader.s2 : Jvm.ClassFile.Decoder Int) (fun z => pure (Jvm.ClassFile.Instr.if_icmp .lt z)) : Jvm.ClassFile.Decoder Jvm.ClassFile.Instr) cc (pc + 1) = _
      exact (kw_bo (kw_s2 (kw_drop h))).trans rfl
theorem kw_o162 {cc : ByteArray} {pc : Nat} {x : UInt8} {r : List UInt8} (h : cc.data.toList.drop pc = x :: r) (hk : x.toNat = 162) {q : Jvm.ClassFile.Instr × Nat} (hq : (kw_m2 (fun a b => Jvm.ClassFile.Instr.if_icmp .ge (Jvm.ClassFile.Reader.signed 16 (a * 256 + b))) r) = some q) : Jvm.ClassFile.decode cc pc = Except.ok q := by
  cases r with
  | nil => cases hq
  | cons a r =>
    cases r with
    | nil => cases hq
    | cons b r =>
      rw [← Option.some.inj hq]
      refine kw_fin ?_
      unfold Jvm.ClassFile.Decoder.instr
      refine (kw_bo (kw_op h hk)).trans ?_
      show (bind (Jvm.ClassFile.Reader.s2 : Jvm.ClassFile.Decoder Int) (fun z => pure (Jvm.ClassFile.Instr.if_icmp .ge z)) : Jvm.ClassFile.Decoder Jvm.ClassFile.Instr) cc (pc + 1) = _
      exact (kw_bo (kw_s2 (kw_drop h))).trans rfl
theorem kw_o163 {cc : ByteArray} {pc : Nat} {x : UInt8} {r : List UInt8} (h : cc.data.toList.drop pc = x :: r) (hk : x.toNat = 163) {q : Jvm.ClassFile.Instr × Nat} (hq : (kw_m2 (fun a b => Jvm.ClassFile.Instr.if_icmp .gt (Jvm.ClassFile.Reader.signed 16 (a * 256 + b))) r) = some q) : Jvm.ClassFile.decode cc pc = Except.ok q := by
  cases r with
  | nil => cases hq
  | cons a r =>
    cases r with
    | nil => cases hq
    | cons b r =>
      rw [← Option.some.inj hq]
      refine kw_fin ?_
      unfold Jvm.ClassFile.Decoder.instr
      refine (kw_bo (kw_op h hk)).trans ?_
      show (bind (Jvm.ClassFile.Reader.s2 : Jvm.ClassFile.Decoder Int) (fun z => pure (Jvm.ClassFile.Instr.if_icmp .gt z)) : Jvm.ClassFile.Decoder Jvm.ClassFile.Instr) cc (pc + 1) = _
      exact (kw_bo (kw_s2 (kw_drop h))).trans rfl
theorem kw_o164 {cc : ByteArray} {pc : Nat} {x : UInt8} {r : List UInt8} (h : cc.data.toList.drop pc = x :: r) (hk : x.toNat = 164) {q : Jvm.ClassFile.Instr × Nat} (hq : (kw_m2 (fun a b => Jvm.ClassFile.Instr.if_icmp .le (Jvm.ClassFile.Reader.signed 16 (a * 256 + b))) r) = some q) : Jvm.ClassFile.decode cc pc = Except.ok q := by
  cases r with
  | nil => cases hq
  | cons a r =>
    cases r with
    | nil => cases hq
    | cons b r =>
      rw [← Option.some.inj hq]
      refine kw_fin ?_
      unfold Jvm.ClassFile.Decoder.instr
      refine (kw_bo (kw_op h hk)).trans ?_
      show (bind (Jvm.ClassFile.Reader.s2 : Jvm.ClassFile.Decoder Int) (fun z => pure (Jvm.ClassFile.Instr.if_icmp .le z)) : Jvm.ClassFile.Decoder Jvm.ClassFile.Instr) cc (pc + 1) = _
      exact (kw_bo (kw_s2 (kw_drop h))).trans rfl
theorem kw_o167 {cc : ByteArray} {pc : Nat} {x : UInt8} {r : List UInt8} (h : cc.data.toList.drop pc = x :: r) (hk : x.toNat = 167) {q : Jvm.ClassFile.Instr × Nat} (hq : (kw_m2 (fun a b => Jvm.ClassFile.Instr.goto (Jvm.ClassFile.Reader.signed 16 (a * 256 + b))) r) = some q) : Jvm.ClassFile.decode cc pc = Except.ok q := by
  cases r with
  | nil => cases hq
  | cons a r =>
    cases r with
    | nil => cases hq
    | cons b r =>
      rw [← Option.some.inj hq]
      refine kw_fin ?_
      unfold Jvm.ClassFile.Decoder.instr
      refine (kw_bo (kw_op h hk)).trans ?_
      show (bind (Jvm.ClassFile.Reader.s2 : Jvm.ClassFile.Decoder Int) (fun z => pure (Jvm.ClassFile.Instr.goto z)) : Jvm.ClassFile.Decoder Jvm.ClassFile.Instr) cc (pc + 1) = _
      exact (kw_bo (kw_s2 (kw_drop h))).trans rfl
theorem kw_o172 {cc : ByteArray} {pc : Nat} {x : UInt8} {r : List UInt8} (h : cc.data.toList.drop pc = x :: r) (hk : x.toNat = 172) {q : Jvm.ClassFile.Instr × Nat} (hq : some (Jvm.ClassFile.Instr.ireturn, 1) = some q) : Jvm.ClassFile.decode cc pc = Except.ok q := by
  rw [← Option.some.inj hq]
  refine kw_fin ?_
  unfold Jvm.ClassFile.Decoder.instr
  exact (kw_bo (kw_op h hk)).trans rfl
theorem kw_o173 {cc : ByteArray} {pc : Nat} {x : UInt8} {r : List UInt8} (h : cc.data.toList.drop pc = x :: r) (hk : x.toNat = 173) {q : Jvm.ClassFile.Instr × Nat} (hq : some (Jvm.ClassFile.Instr.lreturn, 1) = some q) : Jvm.ClassFile.decode cc pc = Except.ok q := by
  rw [← Option.some.inj hq]
  refine kw_fin ?_
  unfold Jvm.ClassFile.Decoder.instr
  exact (kw_bo (kw_op h hk)).trans rfl
theorem kw_o176 {cc : ByteArray} {pc : Nat} {x : UInt8} {r : List UInt8} (h : cc.data.toList.drop pc = x :: r) (hk : x.toNat = 176) {q : Jvm.ClassFile.Instr × Nat} (hq : some (Jvm.ClassFile.Instr.areturn, 1) = some q) : Jvm.ClassFile.decode cc pc = Except.ok q := by
  rw [← Option.some.inj hq]
  refine kw_fin ?_
  unfold Jvm.ClassFile.Decoder.instr
  exact (kw_bo (kw_op h hk)).trans rfl
theorem kw_o177 {cc : ByteArray} {pc : Nat} {x : UInt8} {r : List UInt8} (h : cc.data.toList.drop pc = x :: r) (hk : x.toNat = 177) {q : Jvm.ClassFile.Instr × Nat} (hq : some (Jvm.ClassFile.Instr.return_, 1) = some q) : Jvm.ClassFile.decode cc pc = Except.ok q := by
  rw [← Option.some.inj hq]
  refine kw_fin ?_
  unfold Jvm.ClassFile.Decoder.instr
  exact (kw_bo (kw_op h hk)).trans rfl
theorem kw_o178 {cc : ByteArray} {pc : Nat} {x : UInt8} {r : List UInt8} (h : cc.data.toList.drop pc = x :: r) (hk : x.toNat = 178) {q : Jvm.ClassFile.Instr × Nat} (hq : (kw_m2 (fun a b => Jvm.ClassFile.Instr.getstatic (a * 256 + b)) r) = some q) : Jvm.ClassFile.decode cc pc = Except.ok q := by
  cases r with
  | nil => cases hq
  | cons a r =>
    cases r with
    | nil => cases hq
    | cons b r =>
      rw [← Option.some.inj hq]
      refine kw_fin ?_
      unfold Jvm.ClassFile.Decoder.instr
      refine (kw_bo (kw_op h hk)).trans ?_
      show (bind (Jvm.ClassFile.Reader.u2 : Jvm.ClassFile.Decoder Nat) (fun z => pure (Jvm.ClassFile.Instr.getstatic z)) : Jvm.ClassFile.Decoder Jvm.ClassFile.Instr) cc (pc + 1) = _
      exact (kw_bo (kw_u2 (kw_drop h))).trans rfl
theorem kw_o179 {cc : ByteArray} {pc : Nat} {x : UInt8} {r : List UInt8} (h : cc.data.toList.drop pc = x :: r) (hk : x.toNat = 179) {q : Jvm.ClassFile.Instr × Nat} (hq : (kw_m2 (fun a b => Jvm.ClassFile.Instr.putstatic (a * 256 + b)) r) = some q) : Jvm.ClassFile.decode cc pc = Except.ok q := by
  cases r with
  | nil => cases hq
  | cons a r =>
    cases r with
    | nil => cases hq
    | cons b r =>
      rw [← Option.some.inj hq]
      refine kw_fin ?_
      unfold Jvm.ClassFile.Decoder.instr
      refine (kw_bo (kw_op h hk)).trans ?_
      show (bind (Jvm.ClassFile.Reader.u2 : Jvm.ClassFile.Decoder Nat) (fun z => pure (Jvm.ClassFile.Instr.putstatic z)) : Jvm.ClassFile.Decoder Jvm.ClassFile.Instr) cc (pc + 1) = _
      exact (kw_bo (kw_u2 (kw_drop h))).trans rfl
theorem kw_o180 {cc : ByteArray} {pc : Nat} {x : UInt8} {r : List UInt8} (h : cc.data.toList.drop pc = x :: r) (hk : x.toNat = 180) {q : Jvm.ClassFile.Instr × Nat} (hq : (kw_m2 (fun a b => Jvm.ClassFile.Instr.getfield (a * 256 + b)) r) = some q) : Jvm.ClassFile.decode cc pc = Except.ok q := by
  cases r with
  | nil => cases hq
  | cons a r =>
    cases r with
    | nil => cases hq
    | cons b r =>
      rw [← Option.some.inj hq]
      refine kw_fin ?_
      unfold Jvm.ClassFile.Decoder.instr
      refine (kw_bo (kw_op h hk)).trans ?_
      show (bind (Jvm.ClassFile.Reader.u2 : Jvm.ClassFile.Decoder Nat) (fun z => pure (Jvm.ClassFile.Instr.getfield z)) : Jvm.ClassFile.Decoder Jvm.ClassFile.Instr) cc (pc + 1) = _
      exact (kw_bo (kw_u2 (kw_drop h))).trans rfl
theorem kw_o181 {cc : ByteArray} {pc : Nat} {x : UInt8} {r : List UInt8} (h : cc.data.toList.drop pc = x :: r) (hk : x.toNat = 181) {q : Jvm.ClassFile.Instr × Nat} (hq : (kw_m2 (fun a b => Jvm.ClassFile.Instr.putfield (a * 256 + b)) r) = some q) : Jvm.ClassFile.decode cc pc = Except.ok q := by
  cases r with
  | nil => cases hq
  | cons a r =>
    cases r with
    | nil => cases hq
    | cons b r =>
      rw [← Option.some.inj hq]
      refine kw_fin ?_
      unfold Jvm.ClassFile.Decoder.instr
      refine (kw_bo (kw_op h hk)).trans ?_
      show (bind (Jvm.ClassFile.Reader.u2 : Jvm.ClassFile.Decoder Nat) (fun z => pure (Jvm.ClassFile.Instr.putfield z)) : Jvm.ClassFile.Decoder Jvm.ClassFile.Instr) cc (pc + 1) = _
      exact (kw_bo (kw_u2 (kw_drop h))).trans rfl
theorem kw_o182 {cc : ByteArray} {pc : Nat} {x : UInt8} {r : List UInt8} (h : cc.data.toList.drop pc = x :: r) (hk : x.toNat = 182) {q : Jvm.ClassFile.Instr × Nat} (hq : (kw_m2 (fun a b => Jvm.ClassFile.Instr.invokevirtual (a * 256 + b)) r) = some q) : Jvm.ClassFile.decode cc pc = Except.ok q := by
  cases r with
  | nil => cases hq
  | cons a r =>
    cases r with
    | nil => cases hq
    | cons b r =>
      rw [← Option.some.inj hq]
      refine kw_fin ?_
      unfold Jvm.ClassFile.Decoder.instr
      refine (kw_bo (kw_op h hk)).trans ?_
      show (bind (Jvm.ClassFile.Reader.u2 : Jvm.ClassFile.Decoder Nat) (fun z => pure (Jvm.ClassFile.Instr.invokevirtual z)) : Jvm.ClassFile.Decoder Jvm.ClassFile.Instr) cc (pc + 1) = _
      exact (kw_bo (kw_u2 (kw_drop h))).trans rfl
theorem kw_o183 {cc : ByteArray} {pc : Nat} {x : UInt8} {r : List UInt8} (h : cc.data.toList.drop pc = x :: r) (hk : x.toNat = 183) {q : Jvm.ClassFile.Instr × Nat} (hq : (kw_m2 (fun a b => Jvm.ClassFile.Instr.invokespecial (a * 256 + b)) r) = some q) : Jvm.ClassFile.decode cc pc = Except.ok q := by
  cases r with
  | nil => cases hq
  | cons a r =>
    cases r with
    | nil => cases hq
    | cons b r =>
      rw [← Option.some.inj hq]
      refine kw_fin ?_
      unfold Jvm.ClassFile.Decoder.instr
      refine (kw_bo (kw_op h hk)).trans ?_
      show (bind (Jvm.ClassFile.Reader.u2 : Jvm.ClassFile.Decoder Nat) (fun z => pure (Jvm.ClassFile.Instr.invokespecial z)) : Jvm.ClassFile.Decoder Jvm.ClassFile.Instr) cc (pc + 1) = _
      exact (kw_bo (kw_u2 (kw_drop h))).trans rfl
theorem kw_o184 {cc : ByteArray} {pc : Nat} {x : UInt8} {r : List UInt8} (h : cc.data.toList.drop pc = x :: r) (hk : x.toNat = 184) {q : Jvm.ClassFile.Instr × Nat} (hq : (kw_m2 (fun a b => Jvm.ClassFile.Instr.invokestatic (a * 256 + b)) r) = some q) : Jvm.ClassFile.decode cc pc = Except.ok q := by
  cases r with
  | nil => cases hq
  | cons a r =>
    cases r with
    | nil => cases hq
    | cons b r =>
      rw [← Option.some.inj hq]
      refine kw_fin ?_
      unfold Jvm.ClassFile.Decoder.instr
      refine (kw_bo (kw_op h hk)).trans ?_
      show (bind (Jvm.ClassFile.Reader.u2 : Jvm.ClassFile.Decoder Nat) (fun z => pure (Jvm.ClassFile.Instr.invokestatic z)) : Jvm.ClassFile.Decoder Jvm.ClassFile.Instr) cc (pc + 1) = _
      exact (kw_bo (kw_u2 (kw_drop h))).trans rfl
theorem kw_o187 {cc : ByteArray} {pc : Nat} {x : UInt8} {r : List UInt8} (h : cc.data.toList.drop pc = x :: r) (hk : x.toNat = 187) {q : Jvm.ClassFile.Instr × Nat} (hq : (kw_m2 (fun a b => Jvm.ClassFile.Instr.new (a * 256 + b)) r) = some q) : Jvm.ClassFile.decode cc pc = Except.ok q := by
  cases r with
  | nil => cases hq
  | cons a r =>
    cases r with
    | nil => cases hq
    | cons b r =>
      rw [← Option.some.inj hq]
      refine kw_fin ?_
      unfold Jvm.ClassFile.Decoder.instr
      refine (kw_bo (kw_op h hk)).trans ?_
      show (bind (Jvm.ClassFile.Reader.u2 : Jvm.ClassFile.Decoder Nat) (fun z => pure (Jvm.ClassFile.Instr.new z)) : Jvm.ClassFile.Decoder Jvm.ClassFile.Instr) cc (pc + 1) = _
      exact (kw_bo (kw_u2 (kw_drop h))).trans rfl
theorem kw_o189 {cc : ByteArray} {pc : Nat} {x : UInt8} {r : List UInt8} (h : cc.data.toList.drop pc = x :: r) (hk : x.toNat = 189) {q : Jvm.ClassFile.Instr × Nat} (hq : (kw_m2 (fun a b => Jvm.ClassFile.Instr.anewarray (a * 256 + b)) r) = some q) : Jvm.ClassFile.decode cc pc = Except.ok q := by
  cases r with
  | nil => cases hq
  | cons a r =>
    cases r with
    | nil => cases hq
    | cons b r =>
      rw [← Option.some.inj hq]
      refine kw_fin ?_
      unfold Jvm.ClassFile.Decoder.instr
      refine (kw_bo (kw_op h hk)).trans ?_
      show (bind (Jvm.ClassFile.Reader.u2 : Jvm.ClassFile.Decoder Nat) (fun z => pure (Jvm.ClassFile.Instr.anewarray z)) : Jvm.ClassFile.Decoder Jvm.ClassFile.Instr) cc (pc + 1) = _
      exact (kw_bo (kw_u2 (kw_drop h))).trans rfl
theorem kw_o190 {cc : ByteArray} {pc : Nat} {x : UInt8} {r : List UInt8} (h : cc.data.toList.drop pc = x :: r) (hk : x.toNat = 190) {q : Jvm.ClassFile.Instr × Nat} (hq : some (Jvm.ClassFile.Instr.arraylength, 1) = some q) : Jvm.ClassFile.decode cc pc = Except.ok q := by
  rw [← Option.some.inj hq]
  refine kw_fin ?_
  unfold Jvm.ClassFile.Decoder.instr
  exact (kw_bo (kw_op h hk)).trans rfl
theorem kw_o198 {cc : ByteArray} {pc : Nat} {x : UInt8} {r : List UInt8} (h : cc.data.toList.drop pc = x :: r) (hk : x.toNat = 198) {q : Jvm.ClassFile.Instr × Nat} (hq : (kw_m2 (fun a b => Jvm.ClassFile.Instr.ifnull (Jvm.ClassFile.Reader.signed 16 (a * 256 + b))) r) = some q) : Jvm.ClassFile.decode cc pc = Except.ok q := by
  cases r with
  | nil => cases hq
  | cons a r =>
    cases r with
    | nil => cases hq
    | cons b r =>
      rw [← Option.some.inj hq]
      refine kw_fin ?_
      unfold Jvm.ClassFile.Decoder.instr
      refine (kw_bo (kw_op h hk)).trans ?_
      show (bind (Jvm.ClassFile.Reader.s2 : Jvm.ClassFile.Decoder Int) (fun z => pure (Jvm.ClassFile.Instr.ifnull z)) : Jvm.ClassFile.Decoder Jvm.ClassFile.Instr) cc (pc + 1) = _
      exact (kw_bo (kw_s2 (kw_drop h))).trans rfl
theorem kw_o199 {cc : ByteArray} {pc : Nat} {x : UInt8} {r : List UInt8} (h : cc.data.toList.drop pc = x :: r) (hk : x.toNat = 199) {q : Jvm.ClassFile.Instr × Nat} (hq : (kw_m2 (fun a b => Jvm.ClassFile.Instr.ifnonnull (Jvm.ClassFile.Reader.signed 16 (a * 256 + b))) r) = some q) : Jvm.ClassFile.decode cc pc = Except.ok q := by
  cases r with
  | nil => cases hq
  | cons a r =>
    cases r with
    | nil => cases hq
    | cons b r =>
      rw [← Option.some.inj hq]
      refine kw_fin ?_
      unfold Jvm.ClassFile.Decoder.instr
      refine (kw_bo (kw_op h hk)).trans ?_
      show (bind (Jvm.ClassFile.Reader.s2 : Jvm.ClassFile.Decoder Int) (fun z => pure (Jvm.ClassFile.Instr.ifnonnull z)) : Jvm.ClassFile.Decoder Jvm.ClassFile.Instr) cc (pc + 1) = _
      exact (kw_bo (kw_s2 (kw_drop h))).trans rfl
def kw_d1 (op : Nat) (r : List UInt8) : Option (Jvm.ClassFile.Instr × Nat) := (if op < 88 then (if op < 44 then (if op < 20 then (if op < 8 then (if op < 4 then (if op < 2 then (if op = 1 then some (Jvm.ClassFile.Instr.aconst_null, 1) else none) else (if op < 3 then (if op = 2 then some (Jvm.ClassFile.Instr.iconst (-1), 1) else none) else (if op = 3 then some (Jvm.ClassFile.Instr.iconst (0), 1) else none))) else (if op < 6 then (if op < 5 then (if op = 4 then some (Jvm.ClassFile.Instr.iconst (1), 1) else none) else (if op = 5 then some (Jvm.ClassFile.Instr.iconst (2), 1) else none)) else (if op < 7 then (if op = 6 then some (Jvm.ClassFile.Instr.iconst (3), 1) else none) else (if op = 7 then some (Jvm.ClassFile.Instr.iconst (4), 1) else none)))) else (if op < 16 then (if op < 9 then (if op = 8 then some (Jvm.ClassFile.Instr.iconst (5), 1) else none) else (if op < 10 then (if op = 9 then some (Jvm.ClassFile.Instr.lconst 0, 1) else none) else (if op = 10 then some (Jvm.ClassFile.Instr.lconst 1, 1) else none))) else (if op < 18 then (if op < 17 then (if op = 16 then (kw_m1 (fun a => Jvm.ClassFile.Instr.bipush (Jvm.ClassFile.Reader.signed 8 a)) r) else none) else (if op = 17 then (kw_m2 (fun a b => Jvm.ClassFile.Instr.sipush (Jvm.ClassFile.Reader.signed 16 (a * 256 + b))) r) else none)) else (if op < 19 then (if op = 18 then (kw_m1 (fun a => Jvm.ClassFile.Instr.ldc a) r) else none) else (if op = 19 then (kw_m2 (fun a b => Jvm.ClassFile.Instr.ldc_w (a * 256 + b)) r) else none))))) else (if op < 29 then (if op < 25 then (if op < 21 then (if op = 20 then (kw_m2 (fun a b => Jvm.ClassFile.Instr.ldc2_w (a * 256 + b)) r) else none) else (if op < 22 then (if op = 21 then (kw_m1 (fun a => Jvm.ClassFile.Instr.iload a) r) else none) else (if op = 22 then (kw_m1 (fun a => Jvm.ClassFile.Instr.lload a) r) else none))) else (if op < 27 then (if op < 26 then (if op = 25 then (kw_m1 (fun a => Jvm.ClassFile.Instr.aload a) r) else none) else (if op = 26 then some (Jvm.ClassFile.Instr.iload_n 0, 1) else none)) else (if op < 28 then (if op = 27 then some (Jvm.ClassFile.Instr.iload_n 1, 1) else none) else (if op = 28 then some (Jvm.ClassFile.Instr.iload_n 2, 1) else none)))) else (if op < 32 then (if op < 30 then (if op = 29 then some (Jvm.ClassFile.Instr.iload_n 3, 1) else none) else (if op < 31 then (if op = 30 then some (Jvm.ClassFile.Instr.lload_n 0, 1) else none) else (if op = 31 then some (Jvm.ClassFile.Instr.lload_n 1, 1) else none))) else (if op < 42 then (if op < 33 then (if op = 32 then some (Jvm.ClassFile.Instr.lload_n 2, 1) else none) else (if op = 33 then some (Jvm.ClassFile.Instr.lload_n 3, 1) else none)) else (if op < 43 then (if op = 42 then some (Jvm.ClassFile.Instr.aload_n 0, 1) else none) else (if op = 43 then some (Jvm.ClassFile.Instr.aload_n 1, 1) else none)))))) else (if op < 63 then (if op < 54 then (if op < 47 then (if op < 45 then (if op = 44 then some (Jvm.ClassFile.Instr.aload_n 2, 1) else none) else (if op < 46 then (if op = 45 then some (Jvm.ClassFile.Instr.aload_n 3, 1) else none) else (if op = 46 then some (Jvm.ClassFile.Instr.iaload, 1) else none))) else (if op < 51 then (if op < 50 then (if op = 47 then some (Jvm.ClassFile.Instr.laload, 1) else none) else (if op = 50 then some (Jvm.ClassFile.Instr.aaload, 1) else none)) else (if op < 53 then (if op = 51 then some (Jvm.ClassFile.Instr.baload, 1) else none) else (if op = 53 then some (Jvm.ClassFile.Instr.saload, 1) else none)))) else (if op < 59 then (if op < 55 then (if op = 54 then (kw_m1 (fun a => Jvm.ClassFile.Instr.istore a) r) else none) else (if op < 58 then (if op = 55 then (kw_m1 (fun a => Jvm.ClassFile.Instr.lstore a) r) else none) else (if op = 58 then (kw_m1 (fun a => Jvm.ClassFile.Instr.astore a) r) else none))) else (if op < 61 then (if op < 60 then (if op = 59 then some (Jvm.ClassFile.Instr.istore_n 0, 1) else none) else (if op = 60 then some (Jvm.ClassFile.Instr.istore_n 1, 1) else none)) else (if op < 62 then (if op = 61 then some (Jvm.ClassFile.Instr.istore_n 2, 1) else none) else (if op = 62 then some (Jvm.ClassFile.Instr.istore_n 3, 1) else none))))) else (if op < 78 then (if op < 66 then (if op < 64 then (if op = 63 then some (Jvm.ClassFile.Instr.lstore_n 0, 1) else none) else (if op < 65 then (if op = 64 then some (Jvm.ClassFile.Instr.lstore_n 1, 1) else none) else (if op = 65 then some (Jvm.ClassFile.Instr.lstore_n 2, 1) else none))) else (if op < 76 then (if op < 75 then (if op = 66 then some (Jvm.ClassFile.Instr.lstore_n 3, 1) else none) else (if op = 75 then some (Jvm.ClassFile.Instr.astore_n 0, 1) else none)) else (if op < 77 then (if op = 76 then some (Jvm.ClassFile.Instr.astore_n 1, 1) else none) else (if op = 77 then some (Jvm.ClassFile.Instr.astore_n 2, 1) else none)))) else (if op < 83 then (if op < 79 then (if op = 78 then some (Jvm.ClassFile.Instr.astore_n 3, 1) else none) else (if op < 80 then (if op = 79 then some (Jvm.ClassFile.Instr.iastore, 1) else none) else (if op = 80 then some (Jvm.ClassFile.Instr.lastore, 1) else none))) else (if op < 86 then (if op < 84 then (if op = 83 then some (Jvm.ClassFile.Instr.aastore, 1) else none) else (if op = 84 then some (Jvm.ClassFile.Instr.bastore, 1) else none)) else (if op < 87 then (if op = 86 then some (Jvm.ClassFile.Instr.sastore, 1) else none) else (if op = 87 then some (Jvm.ClassFile.Instr.pop, 1) else none))))))) else (if op < 154 then (if op < 124 then (if op < 104 then (if op < 96 then (if op < 89 then (if op = 88 then some (Jvm.ClassFile.Instr.pop2, 1) else none) else (if op < 92 then (if op = 89 then some (Jvm.ClassFile.Instr.dup, 1) else none) else (if op = 92 then some (Jvm.ClassFile.Instr.dup2, 1) else none))) else (if op < 100 then (if op < 97 then (if op = 96 then some (Jvm.ClassFile.Instr.iadd, 1) else none) else (if op = 97 then some (Jvm.ClassFile.Instr.ladd, 1) else none)) else (if op < 101 then (if op = 100 then some (Jvm.ClassFile.Instr.isub, 1) else none) else (if op = 101 then some (Jvm.ClassFile.Instr.lsub, 1) else none)))) else (if op < 116 then (if op < 108 then (if op = 104 then some (Jvm.ClassFile.Instr.imul, 1) else none) else (if op < 112 then (if op = 108 then some (Jvm.ClassFile.Instr.idiv, 1) else none) else (if op = 112 then some (Jvm.ClassFile.Instr.irem, 1) else none))) else (if op < 121 then (if op < 120 then (if op = 116 then some (Jvm.ClassFile.Instr.ineg, 1) else none) else (if op = 120 then some (Jvm.ClassFile.Instr.ishl, 1) else none)) else (if op < 122 then (if op = 121 then some (Jvm.ClassFile.Instr.lshl, 1) else none) else (if op = 122 then some (Jvm.ClassFile.Instr.ishr, 1) else none))))) else (if op < 132 then (if op < 127 then (if op < 125 then (if op = 124 then some (Jvm.ClassFile.Instr.iushr, 1) else none) else (if op < 126 then (if op = 125 then some (Jvm.ClassFile.Instr.lushr, 1) else none) else (if op = 126 then some (Jvm.ClassFile.Instr.iand, 1) else none))) else (if op < 129 then (if op < 128 then (if op = 127 then some (Jvm.ClassFile.Instr.land, 1) else none) else (if op = 128 then some (Jvm.ClassFile.Instr.ior, 1) else none)) else (if op < 130 then (if op = 129 then some (Jvm.ClassFile.Instr.lor, 1) else none) else (if op = 130 then some (Jvm.ClassFile.Instr.ixor, 1) else none)))) else (if op < 145 then (if op < 133 then (if op = 132 then (kw_m2 (fun a b => Jvm.ClassFile.Instr.iinc a (Jvm.ClassFile.Reader.signed 8 b)) r) else none) else (if op < 136 then (if op = 133 then some (Jvm.ClassFile.Instr.i2l, 1) else none) else (if op = 136 then some (Jvm.ClassFile.Instr.l2i, 1) else none))) else (if op < 148 then (if op < 147 then (if op = 145 then some (Jvm.ClassFile.Instr.i2b, 1) else none) else (if op = 147 then some (Jvm.ClassFile.Instr.i2s, 1) else none)) else (if op < 153 then (if op = 148 then some (Jvm.ClassFile.Instr.lcmp, 1) else none) else (if op = 153 then (kw_m2 (fun a b => Jvm.ClassFile.Instr.ifCond .eq (Jvm.ClassFile.Reader.signed 16 (a * 256 + b))) r) else none)))))) else (if op < 176 then (if op < 161 then (if op < 157 then (if op < 155 then (if op = 154 then (kw_m2 (fun a b => Jvm.ClassFile.Instr.ifCond .ne (Jvm.ClassFile.Reader.signed 16 (a * 256 + b))) r) else none) else (if op < 156 then (if op = 155 then (kw_m2 (fun a b => Jvm.ClassFile.Instr.ifCond .lt (Jvm.ClassFile.Reader.signed 16 (a * 256 + b))) r) else none) else (if op = 156 then (kw_m2 (fun a b => Jvm.ClassFile.Instr.ifCond .ge (Jvm.ClassFile.Reader.signed 16 (a * 256 + b))) r) else none))) else (if op < 159 then (if op < 158 then (if op = 157 then (kw_m2 (fun a b => Jvm.ClassFile.Instr.ifCond .gt (Jvm.ClassFile.Reader.signed 16 (a * 256 + b))) r) else none) else (if op = 158 then (kw_m2 (fun a b => Jvm.ClassFile.Instr.ifCond .le (Jvm.ClassFile.Reader.signed 16 (a * 256 + b))) r) else none)) else (if op < 160 then (if op = 159 then (kw_m2 (fun a b => Jvm.ClassFile.Instr.if_icmp .eq (Jvm.ClassFile.Reader.signed 16 (a * 256 + b))) r) else none) else (if op = 160 then (kw_m2 (fun a b => Jvm.ClassFile.Instr.if_icmp .ne (Jvm.ClassFile.Reader.signed 16 (a * 256 + b))) r) else none)))) else (if op < 164 then (if op < 162 then (if op = 161 then (kw_m2 (fun a b => Jvm.ClassFile.Instr.if_icmp .lt (Jvm.ClassFile.Reader.signed 16 (a * 256 + b))) r) else none) else (if op < 163 then (if op = 162 then (kw_m2 (fun a b => Jvm.ClassFile.Instr.if_icmp .ge (Jvm.ClassFile.Reader.signed 16 (a * 256 + b))) r) else none) else (if op = 163 then (kw_m2 (fun a b => Jvm.ClassFile.Instr.if_icmp .gt (Jvm.ClassFile.Reader.signed 16 (a * 256 + b))) r) else none))) else (if op < 172 then (if op < 167 then (if op = 164 then (kw_m2 (fun a b => Jvm.ClassFile.Instr.if_icmp .le (Jvm.ClassFile.Reader.signed 16 (a * 256 + b))) r) else none) else (if op = 167 then (kw_m2 (fun a b => Jvm.ClassFile.Instr.goto (Jvm.ClassFile.Reader.signed 16 (a * 256 + b))) r) else none)) else (if op < 173 then (if op = 172 then some (Jvm.ClassFile.Instr.ireturn, 1) else none) else (if op = 173 then some (Jvm.ClassFile.Instr.lreturn, 1) else none))))) else (if op < 183 then (if op < 179 then (if op < 177 then (if op = 176 then some (Jvm.ClassFile.Instr.areturn, 1) else none) else (if op < 178 then (if op = 177 then some (Jvm.ClassFile.Instr.return_, 1) else none) else (if op = 178 then (kw_m2 (fun a b => Jvm.ClassFile.Instr.getstatic (a * 256 + b)) r) else none))) else (if op < 181 then (if op < 180 then (if op = 179 then (kw_m2 (fun a b => Jvm.ClassFile.Instr.putstatic (a * 256 + b)) r) else none) else (if op = 180 then (kw_m2 (fun a b => Jvm.ClassFile.Instr.getfield (a * 256 + b)) r) else none)) else (if op < 182 then (if op = 181 then (kw_m2 (fun a b => Jvm.ClassFile.Instr.putfield (a * 256 + b)) r) else none) else (if op = 182 then (kw_m2 (fun a b => Jvm.ClassFile.Instr.invokevirtual (a * 256 + b)) r) else none)))) else (if op < 189 then (if op < 184 then (if op = 183 then (kw_m2 (fun a b => Jvm.ClassFile.Instr.invokespecial (a * 256 + b)) r) else none) else (if op < 187 then (if op = 184 then (kw_m2 (fun a b => Jvm.ClassFile.Instr.invokestatic (a * 256 + b)) r) else none) else (if op = 187 then (kw_m2 (fun a b => Jvm.ClassFile.Instr.new (a * 256 + b)) r) else none))) else (if op < 198 then (if op < 190 then (if op = 189 then (kw_m2 (fun a b => Jvm.ClassFile.Instr.anewarray (a * 256 + b)) r) else none) else (if op = 190 then some (Jvm.ClassFile.Instr.arraylength, 1) else none)) else (if op < 199 then (if op = 198 then (kw_m2 (fun a b => Jvm.ClassFile.Instr.ifnull (Jvm.ClassFile.Reader.signed 16 (a * 256 + b))) r) else none) else (if op = 199 then (kw_m2 (fun a b => Jvm.ClassFile.Instr.ifnonnull (Jvm.ClassFile.Reader.signed 16 (a * 256 + b))) r) else none))))))))
theorem kw_d1_ok {cc : ByteArray} {pc : Nat} {x : UInt8} {r : List UInt8} (h : cc.data.toList.drop pc = x :: r) {q : Jvm.ClassFile.Instr × Nat} (hq : kw_d1 x.toNat r = some q) : Jvm.ClassFile.decode cc pc = Except.ok q := by
  unfold kw_d1 at hq
  by_cases c : x.toNat < 88
  · rw [if_pos c] at hq
    by_cases c : x.toNat < 44
    · rw [if_pos c] at hq
      by_cases c : x.toNat < 20
      · rw [if_pos c] at hq
        by_cases c : x.toNat < 8
        · rw [if_pos c] at hq
          by_cases c : x.toNat < 4
          · rw [if_pos c] at hq
            by_cases c : x.toNat < 2
            · rw [if_pos c] at hq
              by_cases c : x.toNat = 1
              · rw [if_pos c] at hq; exact kw_o1 h c hq
              · rw [if_neg c] at hq; cases hq
            · rw [if_neg c] at hq
              by_cases c : x.toNat < 3
              · rw [if_pos c] at hq
                by_cases c : x.toNat = 2
                · rw [if_pos c] at hq; exact kw_o2 h c hq
                · rw [if_neg c] at hq; cases hq
              · rw [if_neg c] at hq
                by_cases c : x.toNat = 3
                · rw [if_pos c] at hq; exact kw_o3 h c hq
                · rw [if_neg c] at hq; cases hq
          · rw [if_neg c] at hq
            by_cases c : x.toNat < 6
            · rw [if_pos c] at hq
              by_cases c : x.toNat < 5
              · rw [if_pos c] at hq
                by_cases c : x.toNat = 4
                · rw [if_pos c] at hq; exact kw_o4 h c hq
                · rw [if_neg c] at hq; cases hq
              · rw [if_neg c] at hq
                by_cases c : x.toNat = 5
                · rw [if_pos c] at hq; exact kw_o5 h c hq
                · rw [if_neg c] at hq; cases hq
            · rw [if_neg c] at hq
              by_cases c : x.toNat < 7
              · rw [if_pos c] at hq
                by_cases c : x.toNat = 6
                · rw [if_pos c] at hq; exact kw_o6 h c hq
                · rw [if_neg c] at hq; cases hq
              · rw [if_neg c] at hq
                by_cases c : x.toNat = 7
                · rw [if_pos c] at hq; exact kw_o7 h c hq
                · rw [if_neg c] at hq; cases hq
        · rw [if_neg c] at hq
          by_cases c : x.toNat < 16
          · rw [if_pos c] at hq
            by_cases c : x.toNat < 9
            · rw [if_pos c] at hq
              by_cases c : x.toNat = 8
              · rw [if_pos c] at hq; exact kw_o8 h c hq
              · rw [if_neg c] at hq; cases hq
            · rw [if_neg c] at hq
              by_cases c : x.toNat < 10
              · rw [if_pos c] at hq
                by_cases c : x.toNat = 9
                · rw [if_pos c] at hq; exact kw_o9 h c hq
                · rw [if_neg c] at hq; cases hq
              · rw [if_neg c] at hq
                by_cases c : x.toNat = 10
                · rw [if_pos c] at hq; exact kw_o10 h c hq
                · rw [if_neg c] at hq; cases hq
          · rw [if_neg c] at hq
            by_cases c : x.toNat < 18
            · rw [if_pos c] at hq
              by_cases c : x.toNat < 17
              · rw [if_pos c] at hq
                by_cases c : x.toNat = 16
                · rw [if_pos c] at hq; exact kw_o16 h c hq
                · rw [if_neg c] at hq; cases hq
              · rw [if_neg c] at hq
                by_cases c : x.toNat = 17
                · rw [if_pos c] at hq; exact kw_o17 h c hq
                · rw [if_neg c] at hq; cases hq
            · rw [if_neg c] at hq
              by_cases c : x.toNat < 19
              · rw [if_pos c] at hq
                by_cases c : x.toNat = 18
                · rw [if_pos c] at hq; exact kw_o18 h c hq
                · rw [if_neg c] at hq; cases hq
              · rw [if_neg c] at hq
                by_cases c : x.toNat = 19
                · rw [if_pos c] at hq; exact kw_o19 h c hq
                · rw [if_neg c] at hq; cases hq
      · rw [if_neg c] at hq
        by_cases c : x.toNat < 29
        · rw [if_pos c] at hq
          by_cases c : x.toNat < 25
          · rw [if_pos c] at hq
            by_cases c : x.toNat < 21
            · rw [if_pos c] at hq
              by_cases c : x.toNat = 20
              · rw [if_pos c] at hq; exact kw_o20 h c hq
              · rw [if_neg c] at hq; cases hq
            · rw [if_neg c] at hq
              by_cases c : x.toNat < 22
              · rw [if_pos c] at hq
                by_cases c : x.toNat = 21
                · rw [if_pos c] at hq; exact kw_o21 h c hq
                · rw [if_neg c] at hq; cases hq
              · rw [if_neg c] at hq
                by_cases c : x.toNat = 22
                · rw [if_pos c] at hq; exact kw_o22 h c hq
                · rw [if_neg c] at hq; cases hq
          · rw [if_neg c] at hq
            by_cases c : x.toNat < 27
            · rw [if_pos c] at hq
              by_cases c : x.toNat < 26
              · rw [if_pos c] at hq
                by_cases c : x.toNat = 25
                · rw [if_pos c] at hq; exact kw_o25 h c hq
                · rw [if_neg c] at hq; cases hq
              · rw [if_neg c] at hq
                by_cases c : x.toNat = 26
                · rw [if_pos c] at hq; exact kw_o26 h c hq
                · rw [if_neg c] at hq; cases hq
            · rw [if_neg c] at hq
              by_cases c : x.toNat < 28
              · rw [if_pos c] at hq
                by_cases c : x.toNat = 27
                · rw [if_pos c] at hq; exact kw_o27 h c hq
                · rw [if_neg c] at hq; cases hq
              · rw [if_neg c] at hq
                by_cases c : x.toNat = 28
                · rw [if_pos c] at hq; exact kw_o28 h c hq
                · rw [if_neg c] at hq; cases hq
        · rw [if_neg c] at hq
          by_cases c : x.toNat < 32
          · rw [if_pos c] at hq
            by_cases c : x.toNat < 30
            · rw [if_pos c] at hq
              by_cases c : x.toNat = 29
              · rw [if_pos c] at hq; exact kw_o29 h c hq
              · rw [if_neg c] at hq; cases hq
            · rw [if_neg c] at hq
              by_cases c : x.toNat < 31
              · rw [if_pos c] at hq
                by_cases c : x.toNat = 30
                · rw [if_pos c] at hq; exact kw_o30 h c hq
                · rw [if_neg c] at hq; cases hq
              · rw [if_neg c] at hq
                by_cases c : x.toNat = 31
                · rw [if_pos c] at hq; exact kw_o31 h c hq
                · rw [if_neg c] at hq; cases hq
          · rw [if_neg c] at hq
            by_cases c : x.toNat < 42
            · rw [if_pos c] at hq
              by_cases c : x.toNat < 33
              · rw [if_pos c] at hq
                by_cases c : x.toNat = 32
                · rw [if_pos c] at hq; exact kw_o32 h c hq
                · rw [if_neg c] at hq; cases hq
              · rw [if_neg c] at hq
                by_cases c : x.toNat = 33
                · rw [if_pos c] at hq; exact kw_o33 h c hq
                · rw [if_neg c] at hq; cases hq
            · rw [if_neg c] at hq
              by_cases c : x.toNat < 43
              · rw [if_pos c] at hq
                by_cases c : x.toNat = 42
                · rw [if_pos c] at hq; exact kw_o42 h c hq
                · rw [if_neg c] at hq; cases hq
              · rw [if_neg c] at hq
                by_cases c : x.toNat = 43
                · rw [if_pos c] at hq; exact kw_o43 h c hq
                · rw [if_neg c] at hq; cases hq
    · rw [if_neg c] at hq
      by_cases c : x.toNat < 63
      · rw [if_pos c] at hq
        by_cases c : x.toNat < 54
        · rw [if_pos c] at hq
          by_cases c : x.toNat < 47
          · rw [if_pos c] at hq
            by_cases c : x.toNat < 45
            · rw [if_pos c] at hq
              by_cases c : x.toNat = 44
              · rw [if_pos c] at hq; exact kw_o44 h c hq
              · rw [if_neg c] at hq; cases hq
            · rw [if_neg c] at hq
              by_cases c : x.toNat < 46
              · rw [if_pos c] at hq
                by_cases c : x.toNat = 45
                · rw [if_pos c] at hq; exact kw_o45 h c hq
                · rw [if_neg c] at hq; cases hq
              · rw [if_neg c] at hq
                by_cases c : x.toNat = 46
                · rw [if_pos c] at hq; exact kw_o46 h c hq
                · rw [if_neg c] at hq; cases hq
          · rw [if_neg c] at hq
            by_cases c : x.toNat < 51
            · rw [if_pos c] at hq
              by_cases c : x.toNat < 50
              · rw [if_pos c] at hq
                by_cases c : x.toNat = 47
                · rw [if_pos c] at hq; exact kw_o47 h c hq
                · rw [if_neg c] at hq; cases hq
              · rw [if_neg c] at hq
                by_cases c : x.toNat = 50
                · rw [if_pos c] at hq; exact kw_o50 h c hq
                · rw [if_neg c] at hq; cases hq
            · rw [if_neg c] at hq
              by_cases c : x.toNat < 53
              · rw [if_pos c] at hq
                by_cases c : x.toNat = 51
                · rw [if_pos c] at hq; exact kw_o51 h c hq
                · rw [if_neg c] at hq; cases hq
              · rw [if_neg c] at hq
                by_cases c : x.toNat = 53
                · rw [if_pos c] at hq; exact kw_o53 h c hq
                · rw [if_neg c] at hq; cases hq
        · rw [if_neg c] at hq
          by_cases c : x.toNat < 59
          · rw [if_pos c] at hq
            by_cases c : x.toNat < 55
            · rw [if_pos c] at hq
              by_cases c : x.toNat = 54
              · rw [if_pos c] at hq; exact kw_o54 h c hq
              · rw [if_neg c] at hq; cases hq
            · rw [if_neg c] at hq
              by_cases c : x.toNat < 58
              · rw [if_pos c] at hq
                by_cases c : x.toNat = 55
                · rw [if_pos c] at hq; exact kw_o55 h c hq
                · rw [if_neg c] at hq; cases hq
              · rw [if_neg c] at hq
                by_cases c : x.toNat = 58
                · rw [if_pos c] at hq; exact kw_o58 h c hq
                · rw [if_neg c] at hq; cases hq
          · rw [if_neg c] at hq
            by_cases c : x.toNat < 61
            · rw [if_pos c] at hq
              by_cases c : x.toNat < 60
              · rw [if_pos c] at hq
                by_cases c : x.toNat = 59
                · rw [if_pos c] at hq; exact kw_o59 h c hq
                · rw [if_neg c] at hq; cases hq
              · rw [if_neg c] at hq
                by_cases c : x.toNat = 60
                · rw [if_pos c] at hq; exact kw_o60 h c hq
                · rw [if_neg c] at hq; cases hq
            · rw [if_neg c] at hq
              by_cases c : x.toNat < 62
              · rw [if_pos c] at hq
                by_cases c : x.toNat = 61
                · rw [if_pos c] at hq; exact kw_o61 h c hq
                · rw [if_neg c] at hq; cases hq
              · rw [if_neg c] at hq
                by_cases c : x.toNat = 62
                · rw [if_pos c] at hq; exact kw_o62 h c hq
                · rw [if_neg c] at hq; cases hq
      · rw [if_neg c] at hq
        by_cases c : x.toNat < 78
        · rw [if_pos c] at hq
          by_cases c : x.toNat < 66
          · rw [if_pos c] at hq
            by_cases c : x.toNat < 64
            · rw [if_pos c] at hq
              by_cases c : x.toNat = 63
              · rw [if_pos c] at hq; exact kw_o63 h c hq
              · rw [if_neg c] at hq; cases hq
            · rw [if_neg c] at hq
              by_cases c : x.toNat < 65
              · rw [if_pos c] at hq
                by_cases c : x.toNat = 64
                · rw [if_pos c] at hq; exact kw_o64 h c hq
                · rw [if_neg c] at hq; cases hq
              · rw [if_neg c] at hq
                by_cases c : x.toNat = 65
                · rw [if_pos c] at hq; exact kw_o65 h c hq
                · rw [if_neg c] at hq; cases hq
          · rw [if_neg c] at hq
            by_cases c : x.toNat < 76
            · rw [if_pos c] at hq
              by_cases c : x.toNat < 75
              · rw [if_pos c] at hq
                by_cases c : x.toNat = 66
                · rw [if_pos c] at hq; exact kw_o66 h c hq
                · rw [if_neg c] at hq; cases hq
              · rw [if_neg c] at hq
                by_cases c : x.toNat = 75
                · rw [if_pos c] at hq; exact kw_o75 h c hq
                · rw [if_neg c] at hq; cases hq
            · rw [if_neg c] at hq
              by_cases c : x.toNat < 77
              · rw [if_pos c] at hq
                by_cases c : x.toNat = 76
                · rw [if_pos c] at hq; exact kw_o76 h c hq
                · rw [if_neg c] at hq; cases hq
              · rw [if_neg c] at hq
                by_cases c : x.toNat = 77
                · rw [if_pos c] at hq; exact kw_o77 h c hq
                · rw [if_neg c] at hq; cases hq
        · rw [if_neg c] at hq
          by_cases c : x.toNat < 83
          · rw [if_pos c] at hq
            by_cases c : x.toNat < 79
            · rw [if_pos c] at hq
              by_cases c : x.toNat = 78
              · rw [if_pos c] at hq; exact kw_o78 h c hq
              · rw [if_neg c] at hq; cases hq
            · rw [if_neg c] at hq
              by_cases c : x.toNat < 80
              · rw [if_pos c] at hq
                by_cases c : x.toNat = 79
                · rw [if_pos c] at hq; exact kw_o79 h c hq
                · rw [if_neg c] at hq; cases hq
              · rw [if_neg c] at hq
                by_cases c : x.toNat = 80
                · rw [if_pos c] at hq; exact kw_o80 h c hq
                · rw [if_neg c] at hq; cases hq
          · rw [if_neg c] at hq
            by_cases c : x.toNat < 86
            · rw [if_pos c] at hq
              by_cases c : x.toNat < 84
              · rw [if_pos c] at hq
                by_cases c : x.toNat = 83
                · rw [if_pos c] at hq; exact kw_o83 h c hq
                · rw [if_neg c] at hq; cases hq
              · rw [if_neg c] at hq
                by_cases c : x.toNat = 84
                · rw [if_pos c] at hq; exact kw_o84 h c hq
                · rw [if_neg c] at hq; cases hq
            · rw [if_neg c] at hq
              by_cases c : x.toNat < 87
              · rw [if_pos c] at hq
                by_cases c : x.toNat = 86
                · rw [if_pos c] at hq; exact kw_o86 h c hq
                · rw [if_neg c] at hq; cases hq
              · rw [if_neg c] at hq
                by_cases c : x.toNat = 87
                · rw [if_pos c] at hq; exact kw_o87 h c hq
                · rw [if_neg c] at hq; cases hq
  · rw [if_neg c] at hq
    by_cases c : x.toNat < 154
    · rw [if_pos c] at hq
      by_cases c : x.toNat < 124
      · rw [if_pos c] at hq
        by_cases c : x.toNat < 104
        · rw [if_pos c] at hq
          by_cases c : x.toNat < 96
          · rw [if_pos c] at hq
            by_cases c : x.toNat < 89
            · rw [if_pos c] at hq
              by_cases c : x.toNat = 88
              · rw [if_pos c] at hq; exact kw_o88 h c hq
              · rw [if_neg c] at hq; cases hq
            · rw [if_neg c] at hq
              by_cases c : x.toNat < 92
              · rw [if_pos c] at hq
                by_cases c : x.toNat = 89
                · rw [if_pos c] at hq; exact kw_o89 h c hq
                · rw [if_neg c] at hq; cases hq
              · rw [if_neg c] at hq
                by_cases c : x.toNat = 92
                · rw [if_pos c] at hq; exact kw_o92 h c hq
                · rw [if_neg c] at hq; cases hq
          · rw [if_neg c] at hq
            by_cases c : x.toNat < 100
            · rw [if_pos c] at hq
              by_cases c : x.toNat < 97
              · rw [if_pos c] at hq
                by_cases c : x.toNat = 96
                · rw [if_pos c] at hq; exact kw_o96 h c hq
                · rw [if_neg c] at hq; cases hq
              · rw [if_neg c] at hq
                by_cases c : x.toNat = 97
                · rw [if_pos c] at hq; exact kw_o97 h c hq
                · rw [if_neg c] at hq; cases hq
            · rw [if_neg c] at hq
              by_cases c : x.toNat < 101
              · rw [if_pos c] at hq
                by_cases c : x.toNat = 100
                · rw [if_pos c] at hq; exact kw_o100 h c hq
                · rw [if_neg c] at hq; cases hq
              · rw [if_neg c] at hq
                by_cases c : x.toNat = 101
                · rw [if_pos c] at hq; exact kw_o101 h c hq
                · rw [if_neg c] at hq; cases hq
        · rw [if_neg c] at hq
          by_cases c : x.toNat < 116
          · rw [if_pos c] at hq
            by_cases c : x.toNat < 108
            · rw [if_pos c] at hq
              by_cases c : x.toNat = 104
              · rw [if_pos c] at hq; exact kw_o104 h c hq
              · rw [if_neg c] at hq; cases hq
            · rw [if_neg c] at hq
              by_cases c : x.toNat < 112
              · rw [if_pos c] at hq
                by_cases c : x.toNat = 108
                · rw [if_pos c] at hq; exact kw_o108 h c hq
                · rw [if_neg c] at hq; cases hq
              · rw [if_neg c] at hq
                by_cases c : x.toNat = 112
                · rw [if_pos c] at hq; exact kw_o112 h c hq
                · rw [if_neg c] at hq; cases hq
          · rw [if_neg c] at hq
            by_cases c : x.toNat < 121
            · rw [if_pos c] at hq
              by_cases c : x.toNat < 120
              · rw [if_pos c] at hq
                by_cases c : x.toNat = 116
                · rw [if_pos c] at hq; exact kw_o116 h c hq
                · rw [if_neg c] at hq; cases hq
              · rw [if_neg c] at hq
                by_cases c : x.toNat = 120
                · rw [if_pos c] at hq; exact kw_o120 h c hq
                · rw [if_neg c] at hq; cases hq
            · rw [if_neg c] at hq
              by_cases c : x.toNat < 122
              · rw [if_pos c] at hq
                by_cases c : x.toNat = 121
                · rw [if_pos c] at hq; exact kw_o121 h c hq
                · rw [if_neg c] at hq; cases hq
              · rw [if_neg c] at hq
                by_cases c : x.toNat = 122
                · rw [if_pos c] at hq; exact kw_o122 h c hq
                · rw [if_neg c] at hq; cases hq
      · rw [if_neg c] at hq
        by_cases c : x.toNat < 132
        · rw [if_pos c] at hq
          by_cases c : x.toNat < 127
          · rw [if_pos c] at hq
            by_cases c : x.toNat < 125
            · rw [if_pos c] at hq
              by_cases c : x.toNat = 124
              · rw [if_pos c] at hq; exact kw_o124 h c hq
              · rw [if_neg c] at hq; cases hq
            · rw [if_neg c] at hq
              by_cases c : x.toNat < 126
              · rw [if_pos c] at hq
                by_cases c : x.toNat = 125
                · rw [if_pos c] at hq; exact kw_o125 h c hq
                · rw [if_neg c] at hq; cases hq
              · rw [if_neg c] at hq
                by_cases c : x.toNat = 126
                · rw [if_pos c] at hq; exact kw_o126 h c hq
                · rw [if_neg c] at hq; cases hq
          · rw [if_neg c] at hq
            by_cases c : x.toNat < 129
            · rw [if_pos c] at hq
              by_cases c : x.toNat < 128
              · rw [if_pos c] at hq
                by_cases c : x.toNat = 127
                · rw [if_pos c] at hq; exact kw_o127 h c hq
                · rw [if_neg c] at hq; cases hq
              · rw [if_neg c] at hq
                by_cases c : x.toNat = 128
                · rw [if_pos c] at hq; exact kw_o128 h c hq
                · rw [if_neg c] at hq; cases hq
            · rw [if_neg c] at hq
              by_cases c : x.toNat < 130
              · rw [if_pos c] at hq
                by_cases c : x.toNat = 129
                · rw [if_pos c] at hq; exact kw_o129 h c hq
                · rw [if_neg c] at hq; cases hq
              · rw [if_neg c] at hq
                by_cases c : x.toNat = 130
                · rw [if_pos c] at hq; exact kw_o130 h c hq
                · rw [if_neg c] at hq; cases hq
        · rw [if_neg c] at hq
          by_cases c : x.toNat < 145
          · rw [if_pos c] at hq
            by_cases c : x.toNat < 133
            · rw [if_pos c] at hq
              by_cases c : x.toNat = 132
              · rw [if_pos c] at hq; exact kw_o132 h c hq
              · rw [if_neg c] at hq; cases hq
            · rw [if_neg c] at hq
              by_cases c : x.toNat < 136
              · rw [if_pos c] at hq
                by_cases c : x.toNat = 133
                · rw [if_pos c] at hq; exact kw_o133 h c hq
                · rw [if_neg c] at hq; cases hq
              · rw [if_neg c] at hq
                by_cases c : x.toNat = 136
                · rw [if_pos c] at hq; exact kw_o136 h c hq
                · rw [if_neg c] at hq; cases hq
          · rw [if_neg c] at hq
            by_cases c : x.toNat < 148
            · rw [if_pos c] at hq
              by_cases c : x.toNat < 147
              · rw [if_pos c] at hq
                by_cases c : x.toNat = 145
                · rw [if_pos c] at hq; exact kw_o145 h c hq
                · rw [if_neg c] at hq; cases hq
              · rw [if_neg c] at hq
                by_cases c : x.toNat = 147
                · rw [if_pos c] at hq; exact kw_o147 h c hq
                · rw [if_neg c] at hq; cases hq
            · rw [if_neg c] at hq
              by_cases c : x.toNat < 153
              · rw [if_pos c] at hq
                by_cases c : x.toNat = 148
                · rw [if_pos c] at hq; exact kw_o148 h c hq
                · rw [if_neg c] at hq; cases hq
              · rw [if_neg c] at hq
                by_cases c : x.toNat = 153
                · rw [if_pos c] at hq; exact kw_o153 h c hq
                · rw [if_neg c] at hq; cases hq
    · rw [if_neg c] at hq
      by_cases c : x.toNat < 176
      · rw [if_pos c] at hq
        by_cases c : x.toNat < 161
        · rw [if_pos c] at hq
          by_cases c : x.toNat < 157
          · rw [if_pos c] at hq
            by_cases c : x.toNat < 155
            · rw [if_pos c] at hq
              by_cases c : x.toNat = 154
              · rw [if_pos c] at hq; exact kw_o154 h c hq
              · rw [if_neg c] at hq; cases hq
            · rw [if_neg c] at hq
              by_cases c : x.toNat < 156
              · rw [if_pos c] at hq
                by_cases c : x.toNat = 155
                · rw [if_pos c] at hq; exact kw_o155 h c hq
                · rw [if_neg c] at hq; cases hq
              · rw [if_neg c] at hq
                by_cases c : x.toNat = 156
                · rw [if_pos c] at hq; exact kw_o156 h c hq
                · rw [if_neg c] at hq; cases hq
          · rw [if_neg c] at hq
            by_cases c : x.toNat < 159
            · rw [if_pos c] at hq
              by_cases c : x.toNat < 158
              · rw [if_pos c] at hq
                by_cases c : x.toNat = 157
                · rw [if_pos c] at hq; exact kw_o157 h c hq
                · rw [if_neg c] at hq; cases hq
              · rw [if_neg c] at hq
                by_cases c : x.toNat = 158
                · rw [if_pos c] at hq; exact kw_o158 h c hq
                · rw [if_neg c] at hq; cases hq
            · rw [if_neg c] at hq
              by_cases c : x.toNat < 160
              · rw [if_pos c] at hq
                by_cases c : x.toNat = 159
                · rw [if_pos c] at hq; exact kw_o159 h c hq
                · rw [if_neg c] at hq; cases hq
              · rw [if_neg c] at hq
                by_cases c : x.toNat = 160
                · rw [if_pos c] at hq; exact kw_o160 h c hq
                · rw [if_neg c] at hq; cases hq
        · rw [if_neg c] at hq
          by_cases c : x.toNat < 164
          · rw [if_pos c] at hq
            by_cases c : x.toNat < 162
            · rw [if_pos c] at hq
              by_cases c : x.toNat = 161
              · rw [if_pos c] at hq; exact kw_o161 h c hq
              · rw [if_neg c] at hq; cases hq
            · rw [if_neg c] at hq
              by_cases c : x.toNat < 163
              · rw [if_pos c] at hq
                by_cases c : x.toNat = 162
                · rw [if_pos c] at hq; exact kw_o162 h c hq
                · rw [if_neg c] at hq; cases hq
              · rw [if_neg c] at hq
                by_cases c : x.toNat = 163
                · rw [if_pos c] at hq; exact kw_o163 h c hq
                · rw [if_neg c] at hq; cases hq
          · rw [if_neg c] at hq
            by_cases c : x.toNat < 172
            · rw [if_pos c] at hq
              by_cases c : x.toNat < 167
              · rw [if_pos c] at hq
                by_cases c : x.toNat = 164
                · rw [if_pos c] at hq; exact kw_o164 h c hq
                · rw [if_neg c] at hq; cases hq
              · rw [if_neg c] at hq
                by_cases c : x.toNat = 167
                · rw [if_pos c] at hq; exact kw_o167 h c hq
                · rw [if_neg c] at hq; cases hq
            · rw [if_neg c] at hq
              by_cases c : x.toNat < 173
              · rw [if_pos c] at hq
                by_cases c : x.toNat = 172
                · rw [if_pos c] at hq; exact kw_o172 h c hq
                · rw [if_neg c] at hq; cases hq
              · rw [if_neg c] at hq
                by_cases c : x.toNat = 173
                · rw [if_pos c] at hq; exact kw_o173 h c hq
                · rw [if_neg c] at hq; cases hq
      · rw [if_neg c] at hq
        by_cases c : x.toNat < 183
        · rw [if_pos c] at hq
          by_cases c : x.toNat < 179
          · rw [if_pos c] at hq
            by_cases c : x.toNat < 177
            · rw [if_pos c] at hq
              by_cases c : x.toNat = 176
              · rw [if_pos c] at hq; exact kw_o176 h c hq
              · rw [if_neg c] at hq; cases hq
            · rw [if_neg c] at hq
              by_cases c : x.toNat < 178
              · rw [if_pos c] at hq
                by_cases c : x.toNat = 177
                · rw [if_pos c] at hq; exact kw_o177 h c hq
                · rw [if_neg c] at hq; cases hq
              · rw [if_neg c] at hq
                by_cases c : x.toNat = 178
                · rw [if_pos c] at hq; exact kw_o178 h c hq
                · rw [if_neg c] at hq; cases hq
          · rw [if_neg c] at hq
            by_cases c : x.toNat < 181
            · rw [if_pos c] at hq
              by_cases c : x.toNat < 180
              · rw [if_pos c] at hq
                by_cases c : x.toNat = 179
                · rw [if_pos c] at hq; exact kw_o179 h c hq
                · rw [if_neg c] at hq; cases hq
              · rw [if_neg c] at hq
                by_cases c : x.toNat = 180
                · rw [if_pos c] at hq; exact kw_o180 h c hq
                · rw [if_neg c] at hq; cases hq
            · rw [if_neg c] at hq
              by_cases c : x.toNat < 182
              · rw [if_pos c] at hq
                by_cases c : x.toNat = 181
                · rw [if_pos c] at hq; exact kw_o181 h c hq
                · rw [if_neg c] at hq; cases hq
              · rw [if_neg c] at hq
                by_cases c : x.toNat = 182
                · rw [if_pos c] at hq; exact kw_o182 h c hq
                · rw [if_neg c] at hq; cases hq
        · rw [if_neg c] at hq
          by_cases c : x.toNat < 189
          · rw [if_pos c] at hq
            by_cases c : x.toNat < 184
            · rw [if_pos c] at hq
              by_cases c : x.toNat = 183
              · rw [if_pos c] at hq; exact kw_o183 h c hq
              · rw [if_neg c] at hq; cases hq
            · rw [if_neg c] at hq
              by_cases c : x.toNat < 187
              · rw [if_pos c] at hq
                by_cases c : x.toNat = 184
                · rw [if_pos c] at hq; exact kw_o184 h c hq
                · rw [if_neg c] at hq; cases hq
              · rw [if_neg c] at hq
                by_cases c : x.toNat = 187
                · rw [if_pos c] at hq; exact kw_o187 h c hq
                · rw [if_neg c] at hq; cases hq
          · rw [if_neg c] at hq
            by_cases c : x.toNat < 198
            · rw [if_pos c] at hq
              by_cases c : x.toNat < 190
              · rw [if_pos c] at hq
                by_cases c : x.toNat = 189
                · rw [if_pos c] at hq; exact kw_o189 h c hq
                · rw [if_neg c] at hq; cases hq
              · rw [if_neg c] at hq
                by_cases c : x.toNat = 190
                · rw [if_pos c] at hq; exact kw_o190 h c hq
                · rw [if_neg c] at hq; cases hq
            · rw [if_neg c] at hq
              by_cases c : x.toNat < 199
              · rw [if_pos c] at hq
                by_cases c : x.toNat = 198
                · rw [if_pos c] at hq; exact kw_o198 h c hq
                · rw [if_neg c] at hq; cases hq
              · rw [if_neg c] at hq
                by_cases c : x.toNat = 199
                · rw [if_pos c] at hq; exact kw_o199 h c hq
                · rw [if_neg c] at hq; cases hq
def kw_at (o : Nat) (ini : Bool) (i : sI) (q : Jvm.ClassFile.Instr × Nat) : Bool := decide (q.2 = i.2) && decide (s_res o ini q.1 = some i.1)
/-- one row by 'decode' itself -/
def kw_sl (o : Nat) (ini : Bool) (cc : ByteArray) (pc : Nat) (i : sI) : Bool := match Jvm.ClassFile.decode cc pc with
  | .ok r => kw_at o ini i r
  | _ => false
def kw_one (o : Nat) (ini : Bool) (cc : ByteArray) (pc : Nat) (i : sI) (bs : List UInt8) : Bool := match bs with
  | x :: r => (match kw_d1 x.toNat r with
    | some q => kw_at o ini i q
    | none => kw_sl o ini cc pc i)
  | [] => false
def kw_wk (o : Nat) (ini : Bool) (cc : ByteArray) : List (Option sI) → List UInt8 → Nat → Bool
  | [], _, _ => true
  | none :: l, bs, pc => kw_wk o ini cc l bs.tail (pc + 1)
  | some i :: l, bs, pc => kw_one o ini cc pc i bs && kw_wk o ini cc l bs.tail (pc + 1)
theorem kw_one_ok {o : Nat} {ini : Bool} {cc : ByteArray} {pc : Nat} {i : sI} {bs : List UInt8} (hb : cc.data.toList.drop pc = bs) (h : kw_one o ini cc pc i bs = true) : kw_sl o ini cc pc i = true := by
  unfold kw_one at h
  cases bs with
  | nil => cases h
  | cons x r =>
    dsimp only at h
    cases hd : kw_d1 x.toNat r with
    | none => rw [hd] at h; exact h
    | some q =>
      rw [hd] at h
      unfold kw_sl
      rw [kw_d1_ok hb hd]
      exact h
theorem kw_tail {cc : ByteArray} {pc : Nat} {bs : List UInt8} (hb : cc.data.toList.drop pc = bs) : cc.data.toList.drop (pc + 1) = bs.tail := by
  rw [← hb, List.tail_drop]
theorem kw_wk_ok {o : Nat} {ini : Bool} {cc : ByteArray} : ∀ (l : List (Option sI)) (bs : List UInt8) (pc : Nat), cc.data.toList.drop pc = bs → kw_wk o ini cc l bs pc = true → ∀ (j : Nat) (i : sI), l[j]? = some (some i) → kw_sl o ini cc (pc + j) i = true
  | [], _, _, _, _, j, i, h => by cases h
  | none :: l, bs, pc, hb, h, 0, i, hj => by cases hj
  | none :: l, bs, pc, hb, h, j + 1, i, hj => by
    rw [show pc + (j + 1) = pc + 1 + j by omega]
    exact kw_wk_ok l bs.tail (pc + 1) (kw_tail hb) h j i hj
  | some x :: l, bs, pc, hb, h, 0, i, hj => by
    have h2 : (kw_one o ini cc pc x bs && kw_wk o ini cc l bs.tail (pc + 1)) = true := h
    have e : x = i := Option.some.inj (Option.some.inj hj)
    rw [← e]
    exact kw_one_ok hb (Bool.and_eq_true_iff.mp h2).1
  | some x :: l, bs, pc, hb, h, j + 1, i, hj => by
    have h2 : (kw_one o ini cc pc x bs && kw_wk o ini cc l bs.tail (pc + 1)) = true := h
    rw [show pc + (j + 1) = pc + 1 + j by omega]
    exact kw_wk_ok l bs.tail (pc + 1) (kw_tail hb) (Bool.and_eq_true_iff.mp h2).2 j i hj
def kw_w2 (o : Nat) (ini : Bool) (cc : ByteArray) : sCode → List UInt8 → Nat → Bool
  | [], _, _ => true
  | c :: l, bs, pc => kw_wk o ini cc c bs pc && kw_w2 o ini cc l (bs.drop 16) (pc + 16)
theorem kw_w2_ok {o : Nat} {ini : Bool} {cc : ByteArray} : ∀ (l : sCode) (bs : List UInt8) (pc : Nat), cc.data.toList.drop pc = bs → kw_w2 o ini cc l bs pc = true → ∀ (k : Nat) (c : List (Option sI)), l[k]? = some c → ∀ (j : Nat) (i : sI), c[j]? = some (some i) → kw_sl o ini cc (pc + 16 * k + j) i = true
  | [], _, _, _, _, k, c, h => by cases h
  | x :: l, bs, pc, hb, h, 0, c, hk => by
    have h2 : (kw_wk o ini cc x bs pc && kw_w2 o ini cc l (bs.drop 16) (pc + 16)) = true := h
    have e : x = c := Option.some.inj hk
    rw [← e]
    exact kw_wk_ok x bs pc hb (Bool.and_eq_true_iff.mp h2).1
  | x :: l, bs, pc, hb, h, k + 1, c, hk => by
    have h2 : (kw_wk o ini cc x bs pc && kw_w2 o ini cc l (bs.drop 16) (pc + 16)) = true := h
    intro j i hj
    rw [show pc + 16 * (k + 1) + j = pc + 16 + 16 * k + j by omega]
    exact kw_w2_ok l (bs.drop 16) (pc + 16) (by rw [← hb, List.drop_drop]) (Bool.and_eq_true_iff.mp h2).2 k c hk j i hj
theorem kw_fetch {cd : sCode} {pc : Nat} {i : sI} (h : s_fetch cd pc = some i) : ∃ l, cd[pc / 16]? = some l ∧ l[pc % 16]? = some (some i) := by
  unfold s_fetch at h
  cases h1 : cd[pc / 16]? with
  | none => rw [h1] at h; cases h
  | some l =>
    rw [h1] at h
    dsimp only at h
    cases h2 : l[pc % 16]? with
    | none => rw [h2] at h; cases h
    | some q => rw [h2] at h; exact ⟨l, rfl, by rw [h2]; exact congrArg some h⟩
theorem kw_chk1 {o : Nat} {ini : Bool} {cc : ByteArray} {cd : sCode} {pc : Nat} (h : ∀ i, s_fetch cd pc = some i → kw_sl o ini cc pc i = true) : s_chk1 o ini cc cd pc = true := by
  unfold s_chk1
  cases hf : s_fetch cd pc with
  | none => rfl
  | some i => exact h i hf
theorem kw_chk {o : Nat} {ini : Bool} {cc : ByteArray} {cd : sCode} (h : kw_w2 o ini cc cd cc.data.toList 0 = true) : s_chk o ini cc cd = true := by
  unfold s_chk
  refine List.all_eq_true.mpr (fun pc _ => kw_chk1 (fun i hf => ?_))
  obtain ⟨l, h1, h2⟩ := kw_fetch hf
  have h3 := kw_w2_ok cd cc.data.toList 0 (by rw [List.drop_zero]) h (pc / 16) l h1 (pc % 16) i h2
  rwa [show 0 + 16 * (pc / 16) + pc % 16 = pc by omega] at h3
/-- a stretch of a method: n rows of 16 from the lo-th on -/
def kw_wR (o : Nat) (ini : Bool) (cc : ByteArray) (cd : sCode) (lo n : Nat) : Bool := kw_w2 o ini cc ((cd.drop lo).take n) (cc.data.toList.drop (16 * lo)) (16 * lo)
theorem kw_wR_at {o : Nat} {ini : Bool} {cc : ByteArray} {cd : sCode} {lo n pc : Nat} (h : kw_wR o ini cc cd lo n = true) (h1 : 16 * lo ≤ pc) (h2 : pc < 16 * lo + 16 * n) : s_chk1 o ini cc cd pc = true := by
  refine kw_chk1 (fun i hf => ?_)
  obtain ⟨l, g1, g2⟩ := kw_fetch hf
  have e : ((cd.drop lo).take n)[pc / 16 - lo]? = some l := by
    rw [List.getElem?_take, if_pos (by omega), List.getElem?_drop, show lo + (pc / 16 - lo) = pc / 16 by omega]
    exact g1
  have h3 := kw_w2_ok _ _ (16 * lo) rfl h (pc / 16 - lo) l e (pc % 16) i g2
  rwa [show 16 * lo + 16 * (pc / 16 - lo) + pc % 16 = pc by omega] at h3
def kw_mok (e : sMeth × sMT) : Bool := kw_w2 e.2.2.1.1 e.2.2.1.2.1 e.2.1.2 e.1.2.2.2 e.2.1.2.data.toList 0 && (
  plainName e.2.1.1.cls && (decide (lw_tbl[e.2.2.2.1]? = some (.code e.2.1.1 e.2.1.2 e.1.1 e.1.2.1)) && (true && (decide ((parseMethodDescriptor e.2.1.1.desc).map (fun d => d.parameters.length) = some e.2.2.1.2.2.2) &&
  (decide (e.2.1.1.cls = s_cn e.2.2.1.1) && (decide (e.2.1.1.cls ≠ "java/lang/invoke/MethodHandle" ∧ e.2.1.1.cls ≠ "java/lang/invoke/VarHandle") && (decide (lw_tbl[e.2.2.2.2.2.2]? = some (.initialized e.2.1.1.cls)) &&
  ((bif e.2.2.1.2.2.1 then decide (lw_tbl[e.2.2.2.2.2.1]? = some (.static e.2.1.1)) else decide (lw_tbl[e.2.2.2.2.2.1]? = some (.instanceMethod e.2.1.1))) &&
  ((e.2.2.1.2.2.1 || (e.2.2.1.2.1 || (decide (lw_tbl[e.2.2.2.2.1]? = some (.selects e.2.1.1.cls e.2.1.1 e.2.1.1)) && decide (e.2.2.1.1 = e.1.2.2.1 ∧ e.1.2.2.1 < 12)))) &&
  ((!e.2.2.1.2.1 || (decide (e.2.1.1.name = "<init>" ∧ e.1.2.1 = none) && !e.2.2.1.2.2.1))))))))))))
theorem kw_mok_ok {e : sMeth × sMT} (h : kw_mok e = true) : s_mok e = true := by
  unfold kw_mok at h
  unfold s_mok
  obtain ⟨h1, h2⟩ := Bool.and_eq_true_iff.mp h
  rw [kw_chk h1]
  exact h2
theorem kw_mok2 {e : sMeth × sMT} (h1 : lw_tbl[e.2.2.2.1]? = some (.code e.2.1.1 e.2.1.2 e.1.1 e.1.2.1)) (h2 : lw_tbl[e.2.2.2.2.2.2]? = some (.initialized e.2.1.1.cls)) (h3 : (bif e.2.2.1.2.2.1 then decide (lw_tbl[e.2.2.2.2.2.1]? = some (.static e.2.1.1)) else decide (lw_tbl[e.2.2.2.2.2.1]? = some (.instanceMethod e.2.1.1))) = true) (h4 : (e.2.2.1.2.2.1 || (e.2.2.1.2.1 || (decide (lw_tbl[e.2.2.2.2.1]? = some (.selects e.2.1.1.cls e.2.1.1 e.2.1.1)) && decide (e.2.2.1.1 = e.1.2.2.1 ∧ e.1.2.2.1 < 12)))) = true) (h : (kw_w2 e.2.2.1.1 e.2.2.1.2.1 e.2.1.2 e.1.2.2.2 e.2.1.2.data.toList 0 && (plainName e.2.1.1.cls && (decide ((parseMethodDescriptor e.2.1.1.desc).map (fun d => d.parameters.length) = some e.2.2.1.2.2.2) && (decide (e.2.1.1.cls = s_cn e.2.2.1.1) && (decide (e.2.1.1.cls ≠ "java/lang/invoke/MethodHandle" ∧ e.2.1.1.cls ≠ "java/lang/invoke/VarHandle") && (!e.2.2.1.2.1 || (decide (e.2.1.1.name = "<init>" ∧ e.1.2.1 = none) && !e.2.2.1.2.2.1))))))) = true) : s_mok e = true := by
  obtain ⟨a1, a2⟩ := Bool.and_eq_true_iff.mp h
  obtain ⟨b1, b2⟩ := Bool.and_eq_true_iff.mp a2
  obtain ⟨c1, c2⟩ := Bool.and_eq_true_iff.mp b2
  obtain ⟨d1, d2⟩ := Bool.and_eq_true_iff.mp c2
  obtain ⟨g1, g2⟩ := Bool.and_eq_true_iff.mp d2
  unfold s_mok
  rw [b1, decide_eq_true h1, kw_chk a1, c1, d1, g1, decide_eq_true h2, h3, h4]
  exact g2
theorem kw_mS {e : sMeth × sMT} (hs : e.2.2.1.2.2.1 = true) (h1 : lw_tbl[e.2.2.2.1]? = some (.code e.2.1.1 e.2.1.2 e.1.1 e.1.2.1)) (h2 : lw_tbl[e.2.2.2.2.2.2]? = some (.initialized e.2.1.1.cls)) (h3 : lw_tbl[e.2.2.2.2.2.1]? = some (.static e.2.1.1)) (h : (kw_w2 e.2.2.1.1 e.2.2.1.2.1 e.2.1.2 e.1.2.2.2 e.2.1.2.data.toList 0 && (plainName e.2.1.1.cls && (decide ((parseMethodDescriptor e.2.1.1.desc).map (fun d => d.parameters.length) = some e.2.2.1.2.2.2) && (decide (e.2.1.1.cls = s_cn e.2.2.1.1) && (decide (e.2.1.1.cls ≠ "java/lang/invoke/MethodHandle" ∧ e.2.1.1.cls ≠ "java/lang/invoke/VarHandle") && (!e.2.2.1.2.1 || (decide (e.2.1.1.name = "<init>" ∧ e.1.2.1 = none) && !e.2.2.1.2.2.1))))))) = true) : s_mok e = true :=
  kw_mok2 h1 h2 (by rw [hs, decide_eq_true h3]; rfl) (by rw [hs]; rfl) h
theorem kw_mI {e : sMeth × sMT} (hs : e.2.2.1.2.2.1 = false) (hi : e.2.2.1.2.1 = true) (h1 : lw_tbl[e.2.2.2.1]? = some (.code e.2.1.1 e.2.1.2 e.1.1 e.1.2.1)) (h2 : lw_tbl[e.2.2.2.2.2.2]? = some (.initialized e.2.1.1.cls)) (h3 : lw_tbl[e.2.2.2.2.2.1]? = some (.instanceMethod e.2.1.1)) (h : (kw_w2 e.2.2.1.1 e.2.2.1.2.1 e.2.1.2 e.1.2.2.2 e.2.1.2.data.toList 0 && (plainName e.2.1.1.cls && (decide ((parseMethodDescriptor e.2.1.1.desc).map (fun d => d.parameters.length) = some e.2.2.1.2.2.2) && (decide (e.2.1.1.cls = s_cn e.2.2.1.1) && (decide (e.2.1.1.cls ≠ "java/lang/invoke/MethodHandle" ∧ e.2.1.1.cls ≠ "java/lang/invoke/VarHandle") && (!e.2.2.1.2.1 || (decide (e.2.1.1.name = "<init>" ∧ e.1.2.1 = none) && !e.2.2.1.2.2.1))))))) = true) : s_mok e = true :=
  kw_mok2 h1 h2 (by rw [hs, decide_eq_true h3]; rfl) (by rw [hs, hi]; rfl) h
theorem kw_mV {e : sMeth × sMT} (hs : e.2.2.1.2.2.1 = false) (h1 : lw_tbl[e.2.2.2.1]? = some (.code e.2.1.1 e.2.1.2 e.1.1 e.1.2.1)) (h2 : lw_tbl[e.2.2.2.2.2.2]? = some (.initialized e.2.1.1.cls)) (h3 : lw_tbl[e.2.2.2.2.2.1]? = some (.instanceMethod e.2.1.1)) (h4 : lw_tbl[e.2.2.2.2.1]? = some (.selects e.2.1.1.cls e.2.1.1 e.2.1.1)) (h5 : decide (e.2.2.1.1 = e.1.2.2.1 ∧ e.1.2.2.1 < 12) = true) (h : (kw_w2 e.2.2.1.1 e.2.2.1.2.1 e.2.1.2 e.1.2.2.2 e.2.1.2.data.toList 0 && (plainName e.2.1.1.cls && (decide ((parseMethodDescriptor e.2.1.1.desc).map (fun d => d.parameters.length) = some e.2.2.1.2.2.2) && (decide (e.2.1.1.cls = s_cn e.2.2.1.1) && (decide (e.2.1.1.cls ≠ "java/lang/invoke/MethodHandle" ∧ e.2.1.1.cls ≠ "java/lang/invoke/VarHandle") && (!e.2.2.1.2.1 || (decide (e.2.1.1.name = "<init>" ∧ e.1.2.1 = none) && !e.2.2.1.2.2.1))))))) = true) : s_mok e = true :=
  kw_mok2 h1 h2 (by rw [hs, decide_eq_true h3]; rfl) (by rw [decide_eq_true h4, h5, hs]; cases e.2.2.1.2.1 <;> rfl) h
