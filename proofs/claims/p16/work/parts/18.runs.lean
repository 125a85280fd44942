/-! RUNS: more fuel and more read-only rows change nothing; a run, step by step -/
def s_El (E E' : sE) : Prop := (E 3).1 ≤ (E' 3).1 ∧ ∀ j, j < (E 3).1 → E' j = E j
theorem s_El.rf {E : sE} : s_El E E := ⟨Nat.le_refl _, fun _ _ => rfl⟩
set_option maxHeartbeats 4000000 in
theorem s_pure_E {E E' : sE} (hE : s_El E E') {mx pc p : Nat} {i : Jvm.ClassFile.Instr} {ls : sL} {st : List Value} {M : sM} {x : Nat × (sL × List Value)} (h : s_pure E mx i pc p ls st M = some x) : s_pure E' mx i pc p ls st M = some x := by
  cases i
  case iaload =>
    replace h : s_ia E p ls st M = some x := h
    show s_ia E' p ls st M = some x
    unfold s_ia at h ⊢
    split at h
    · exact h
    · rename_i i j r
      cases hz : (!decide (i < 0) && (Nat.blt i.toNatClampNeg (E j).1 && Nat.blt j (E 3).1)) with
      | true =>
        rw [hz] at h
        simp only [Bool.and_eq_true] at hz
        have hj : j < (E 3).1 := Nat.le_of_ble_eq_true hz.2.2
        have e1 := hE.2 j hj
        have hj2 : Nat.blt j (E' 3).1 = true := Nat.ble_eq_true_of_le (Nat.lt_of_lt_of_le hj hE.1)
        try dsimp only
        rw [e1, hj2, hz.1, hz.2.1]
        exact h
      | false => rw [hz] at h; cases h
    · cases h
  case arraylength =>
    replace h : s_len E p ls st M = some x := h
    show s_len E' p ls st M = some x
    unfold s_len at h ⊢
    split at h
    · exact h
    · rename_i j r
      cases hz : Nat.blt j (E 3).1 with
      | true =>
        rw [hz] at h
        have hj : j < (E 3).1 := Nat.le_of_ble_eq_true hz
        have e1 := hE.2 j hj
        have hj2 : Nat.blt j (E' 3).1 = true := Nat.ble_eq_true_of_le (Nat.lt_of_lt_of_le hj hE.1)
        try dsimp only
        rw [e1, hj2]
        exact h
      | false => rw [hz] at h; cases h
    · cases h
  all_goals exact h
def s_le (f g : Nat → sMeth → Nat → sL → List Value → sM → sR) : Prop := ∀ d μ pc ls st M r, f d μ pc ls st M = some r → g d μ pc ls st M = some r
theorem s_call_mono {f g : Nat → sMeth → Nat → sL → List Value → sM → sR} (hl : s_le f g) {d : Nat} {μ ν : sMeth} {p : Nat} {ls : sL} {as r : List Value} {M : sM} {x : Option Value × sM} (h : s_call f d μ ν p ls as r M = some x) : s_call g d μ ν p ls as r M = some x := by
  obtain ⟨o, M'⟩ := x
  obtain ⟨d', v, M2, rfl, h1, h2, h3⟩ := s_call_sp h
  unfold s_call
  dsimp only
  rw [h1, cond_true, hl _ _ _ _ _ _ _ h2]
  cases v with
  | none => exact hl _ _ _ _ _ _ _ h3
  | some v => exact hl _ _ _ _ _ _ _ h3
set_option maxHeartbeats 8000000 in
theorem s_step_mono {prog : Nat → Option sMeth} {fty : Nat → Nat → FieldType} {ft : List (Nat × (Nat → FieldType))} {E E' : sE} (hE : s_El E E') {f g : Nat → sMeth → Nat → sL → List Value → sM → sR} (hl : s_le f g) : s_le (s_step prog fty ft E f) (s_step prog fty ft E' g) := by
  intro d μ pc ls st M r h
  unfold s_step at h ⊢
  cases hf : s_fetch μ.2.2.2 pc with
  | none => rw [hf] at h; cases h
  | some q =>
    rw [hf] at h
    obtain ⟨i, len⟩ := q
    dsimp only at h ⊢
    cases i
    case invokevirtual w =>
      dsimp only at h ⊢
      cases hs : s_split (w % 8) [] st with
      | none => rw [hs] at h; cases h
      | some t =>
        rw [hs] at h
        obtain ⟨as, r2⟩ := t
        cases r2 with
        | nil => cases h
        | cons v r2 =>
          cases v
          case ref a =>
            dsimp only at h ⊢
            cases hp : prog (w / 8) with
            | none => rw [hp] at h; cases h
            | some ν =>
              rw [hp] at h
              dsimp only at h ⊢
              cases hz : Nat.beq (s_kd M a) ν.2.2.1 with
              | true => rw [hz, cond_true] at h; exact s_call_mono hl h
              | false => rw [hz] at h; cases h
          all_goals cases h
    case invokespecial w =>
      dsimp only at h ⊢
      cases hw : Nat.beq w 0 with
      | true =>
        rw [hw, cond_true] at h
        rw [cond_true]
        split at h
        · rename_i d' a r2
          try dsimp only
          cases hz : Nat.ble (r2.map fun v => v.category).sum 8 with
          | true => rw [hz, cond_true] at h; exact hl _ _ _ _ _ _ _ h
          | false => rw [hz] at h; cases h
        · cases h
      | false =>
        rw [hw, cond_false] at h
        rw [cond_false]
        cases hs : s_split (w % 8) [] st with
        | none => rw [hs] at h; cases h
        | some t =>
          rw [hs] at h
          obtain ⟨as, r2⟩ := t
          cases r2 with
          | nil => cases h
          | cons v r2 =>
            cases v
            case ref a =>
              dsimp only at h ⊢
              cases hp : prog (w / 8) with
              | none => rw [hp] at h; cases h
              | some ν => rw [hp] at h; exact s_call_mono hl h
            all_goals cases h
    case invokestatic w =>
      dsimp only at h ⊢
      cases hs : s_split (w % 8) [] st with
      | none => rw [hs] at h; cases h
      | some t =>
        rw [hs] at h
        dsimp only at h ⊢
        cases hp : prog (w / 8) with
        | none => rw [hp] at h; cases h
        | some ν => rw [hp] at h; exact s_call_mono hl h
    case invokeinterface w k =>
      dsimp only at h ⊢
      cases hs : s_split (w % 8) [] st with
      | none => rw [hs] at h; cases h
      | some t =>
        rw [hs] at h
        dsimp only at h ⊢
        cases hp : prog (w / 8) with
        | none => rw [hp] at h; cases h
        | some ν => rw [hp] at h; exact s_call_mono hl h
    case invokedynamic w =>
      dsimp only at h ⊢
      cases d with
      | zero => cases h
      | succ d =>
        dsimp only at h ⊢
        cases hw : Nat.beq w 0 with
        | true =>
          rw [hw, cond_true] at h
          rw [cond_true]
          cases hs : s_ac st M with
          | none => rw [hs] at h; cases h
          | some t => rw [hs] at h; exact hl _ _ _ _ _ _ _ h
        | false =>
          rw [hw, cond_false] at h
          rw [cond_false]
          split at h
          · rename_i y x r2
            try dsimp only
            cases hz : Nat.ble (r2.map fun v => v.category).sum 8 with
            | true => rw [hz, cond_true] at h; exact hl _ _ _ _ _ _ _ h
            | false => rw [hz] at h; cases h
          · cases h
    case ireturn => exact h
    case lreturn => exact h
    case areturn => exact h
    case return_ => exact h
    all_goals first
      | (dsimp only at h ⊢
         cases hp : s_pure E μ.1 _ pc (pc + len) ls st M with
         | none => rw [hp] at h; cases h
         | some t =>
           rw [s_pure_E hE hp]
           rw [hp] at h
           exact hl _ _ _ _ _ _ _ h)
      | (dsimp only at h ⊢
         cases hp : s_wr fty _ st M with
         | none => rw [hp] at h; cases h
         | some t =>
           rw [hp] at h
           exact hl _ _ _ _ _ _ _ h)
      | (dsimp only at h ⊢
         cases hp : s_al ft _ st M with
         | none => rw [hp] at h; cases h
         | some t =>
           rw [hp] at h
           exact hl _ _ _ _ _ _ _ h)
theorem s_x_mono {prog : Nat → Option sMeth} {fty : Nat → Nat → FieldType} {ft : List (Nat × (Nat → FieldType))} {E E' : sE} (hE : s_El E E') : ∀ n n', n ≤ n' → s_le (s_x prog fty ft E n) (s_x prog fty ft E' n')
  | 0, _, _ => fun d μ pc ls st M r h => by cases h
  | n + 1, 0, h => absurd h (Nat.not_succ_le_zero n)
  | n + 1, k + 1, h => s_step_mono hE (s_x_mono hE n k (Nat.le_of_succ_le_succ h))
/-- from here the run comes to an end that Q describes -/
def s_Ev (E : sE) (d : Nat) (μ : sMeth) (pc : Nat) (ls : sL) (st : List Value) (M : sM) (Q : Option Value → sM → Prop) : Prop := ∃ n o M', s_x s_prog s_fty s_ft E n d μ pc ls st M = some (o, M') ∧ Q o M'
/-- a run that was worked out -/
theorem s_ev_run {E0 E : sE} (hE : s_El E0 E) {n d : Nat} {μ : sMeth} {pc : Nat} {ls : sL} {st : List Value} {M M' : sM} {o : Option Value} {Q : Option Value → sM → Prop} (h : s_x s_prog s_fty s_ft E0 n d μ pc ls st M = some (o, M')) (hQ : Q o M') : s_Ev E d μ pc ls st M Q := ⟨n, o, M', s_x_mono hE n n (Nat.le_refl n) _ _ _ _ _ _ _ h, hQ⟩
/-- more depth changes nothing: not needed where the depth is one number throughout -/
theorem s_ev_mono {E : sE} {d : Nat} {μ : sMeth} {pc : Nat} {ls : sL} {st : List Value} {M : sM} {Q Q' : Option Value → sM → Prop} (h : s_Ev E d μ pc ls st M Q) (hQ : ∀ o M', Q o M' → Q' o M') : s_Ev E d μ pc ls st M Q' := by
  obtain ⟨n, o, M', h1, h2⟩ := h
  exact ⟨n, o, M', h1, hQ _ _ h2⟩
theorem s_step_pure {prog : Nat → Option sMeth} {fty : Nat → Nat → FieldType} {ft : List (Nat × (Nat → FieldType))} {E : sE} {rec : Nat → sMeth → Nat → sL → List Value → sM → sR} {d : Nat} {μ : sMeth} {pc len P : Nat} {ls ls' : sL} {st st' : List Value} {M : sM} {i : Jvm.ClassFile.Instr} (hf : s_fetch μ.2.2.2 pc = some (i, len)) (hp : s_pure E μ.1 i pc (pc + len) ls st M = some (P, ls', st')) : s_step prog fty ft E rec d μ pc ls st M = rec d μ P ls' st' M := by
  unfold s_step
  rw [hf]
  dsimp only
  cases i
  all_goals first
    | exact nomatch (show none = some _ from hp)
    | (dsimp only
       rw [hp])
theorem s_step_wr {prog : Nat → Option sMeth} {fty : Nat → Nat → FieldType} {ft : List (Nat × (Nat → FieldType))} {E : sE} {rec : Nat → sMeth → Nat → sL → List Value → sM → sR} {d : Nat} {μ : sMeth} {pc len : Nat} {ls : sL} {st st' : List Value} {M M' : sM} {i : Jvm.ClassFile.Instr} (hf : s_fetch μ.2.2.2 pc = some (i, len)) (hp : s_wr fty i st M = some (st', M')) : s_step prog fty ft E rec d μ pc ls st M = rec d μ (pc + len) ls st' M' := by
  unfold s_step
  rw [hf]
  dsimp only
  cases i
  all_goals first
    | exact nomatch (show none = some _ from hp)
    | (dsimp only
       rw [hp])
/-- k steps that call nothing, make nothing, don't return -/
def s_bk (E : sE) (μ : sMeth) : Nat → Nat → sL → List Value → sM → Option (Nat × (sL × (List Value × sM)))
  | 0, pc, ls, st, M => some (pc, ls, st, M)
  | k + 1, pc, ls, st, M => match s_fetch μ.2.2.2 pc with
    | some i => (match s_pure E μ.1 i.1 pc (pc + i.2) ls st M with
      | some (P, ls', st') => s_bk E μ k P ls' st' M
      | none => (match s_wr s_fty i.1 st M with
        | some (st', M') => s_bk E μ k (pc + i.2) ls st' M'
        | none => none))
    | none => none
theorem s_bk_x {E : sE} {μ : sMeth} {d n : Nat} : ∀ (k pc : Nat) (ls : sL) (st : List Value) (M : sM) (P : Nat) (ls' : sL) (st' : List Value) (M' : sM), s_bk E μ k pc ls st M = some (P, ls', st', M') → s_x s_prog s_fty s_ft E (n + k) d μ pc ls st M = s_x s_prog s_fty s_ft E n d μ P ls' st' M'
  | 0, pc, ls, st, M, P, ls', st', M', h => by cases h; rfl
  | k + 1, pc, ls, st, M, P, ls', st', M', h => by
    unfold s_bk at h
    split at h
    · rename_i i hf
      obtain ⟨i, len⟩ := i
      dsimp only at h
      split at h
      · rename_i P1 l1 t1 hp
        show s_step s_prog s_fty s_ft E (s_x s_prog s_fty s_ft E (n + k)) d μ pc ls st M = _
        rw [s_step_pure hf hp]
        exact s_bk_x k _ _ _ _ _ _ _ _ h
      · split at h
        · rename_i t1 M1 hw
          show s_step s_prog s_fty s_ft E (s_x s_prog s_fty s_ft E (n + k)) d μ pc ls st M = _
          rw [s_step_wr hf hw]
          exact s_bk_x k _ _ _ _ _ _ _ _ h
        · cases h
    · cases h
theorem s_ev_bk {E : sE} {d : Nat} {μ : sMeth} {Q : Option Value → sM → Prop} (k : Nat) {pc : Nat} {ls : sL} {st : List Value} {M : sM} {P : Nat} {ls' : sL} {st' : List Value} {M' : sM} (h : s_bk E μ k pc ls st M = some (P, ls', st', M')) (kk : s_Ev E d μ P ls' st' M' Q) : s_Ev E d μ pc ls st M Q := by
  obtain ⟨n, o, M2, h1, h2⟩ := kk
  exact ⟨n + k, o, M2, by rw [s_bk_x k _ _ _ _ _ _ _ _ h]; exact h1, h2⟩
/-- a call: the callee's run, then the rest -/
theorem s_ev_call {E : sE} {d : Nat} {μ ν : sMeth} {Q : Option Value → sM → Prop} {pc P : Nat} {ls : sL} {st as r : List Value} {M : sM} (hs : ∀ rec, s_step s_prog s_fty s_ft E rec (d + 1) μ pc ls st M = s_call rec (d + 1) μ ν P ls as r M) (hr : s_room ν.1 as r = true) (kk : s_Ev E d ν 0 (lv_args 0 as) [] M (fun v M2 => s_Ev E (d + 1) μ P ls (v.toList ++ r) M2 Q)) : s_Ev E (d + 1) μ pc ls st M Q := by
  obtain ⟨n1, v, M2, h1, n2, o, M3, h2, h3⟩ := kk
  refine ⟨(n1 + n2) + 1, o, M3, ?_, h3⟩
  show s_step s_prog s_fty s_ft E (s_x s_prog s_fty s_ft E (n1 + n2)) (d + 1) μ pc ls st M = _
  rw [hs]
  unfold s_call
  dsimp only
  rw [hr, cond_true, s_x_mono s_El.rf n1 (n1 + n2) (by omega) _ _ _ _ _ _ _ h1]
  cases v with
  | none => exact s_x_mono s_El.rf n2 (n1 + n2) (by omega) _ _ _ _ _ _ _ h2
  | some v => exact s_x_mono s_El.rf n2 (n1 + n2) (by omega) _ _ _ _ _ _ _ h2
theorem s_ev_one {E : sE} {d : Nat} {μ : sMeth} {Q : Option Value → sM → Prop} {pc P : Nat} {ls ls' : sL} {st st' : List Value} {M M' : sM} (hs : ∀ rec, s_step s_prog s_fty s_ft E rec d μ pc ls st M = rec d μ P ls' st' M') (kk : s_Ev E d μ P ls' st' M' Q) : s_Ev E d μ pc ls st M Q := by
  obtain ⟨n, o, M2, h1, h2⟩ := kk
  exact ⟨n + 1, o, M2, (hs _).trans h1, h2⟩
theorem s_ev_ret {E : sE} {d : Nat} {μ : sMeth} {Q : Option Value → sM → Prop} {pc : Nat} {ls : sL} {st : List Value} {M M' : sM} {o : Option Value} (hs : ∀ rec, s_step s_prog s_fty s_ft E rec d μ pc ls st M = some (o, M')) (hq : Q o M') : s_Ev E d μ pc ls st M Q := ⟨1, o, M', hs _, hq⟩
/-- a branch -/
theorem s_ev_if1 {E : sE} {d : Nat} {μ : sMeth} {Q : Option Value → sM → Prop} {pc T : Nat} {ls : sL} {st : List Value} {M : sM} {cnd : Jvm.ClassFile.Cond} {off : Int} {x : Int32} (hf : s_fetch μ.2.2.2 pc = some (.ifCond cnd off, 3)) (ht : s_tgt pc off = some T) (k1 : s_c1 cnd x = true → s_Ev E d μ T ls st M Q) (k2 : s_c1 cnd x = false → s_Ev E d μ (pc + 3) ls st M Q) : s_Ev E d μ pc ls (.int x :: st) M Q := by
  cases hc : s_c1 cnd x with
  | true => exact s_ev_one (fun rec => s_step_pure hf (show s_jump (s_br (s_c1 cnd x) pc off) ls st = some (T, ls, st) by rw [hc]; show s_jump (s_tgt pc off) ls st = _; rw [ht]; rfl)) (k1 hc)
  | false => exact s_ev_one (fun rec => s_step_pure hf (show s_jump (s_br (s_c1 cnd x) pc off) ls st = some (pc + 3, ls, st) by rw [hc]; rfl)) (k2 hc)
theorem s_ev_if2 {E : sE} {d : Nat} {μ : sMeth} {Q : Option Value → sM → Prop} {pc T : Nat} {ls : sL} {st : List Value} {M : sM} {cnd : Jvm.ClassFile.Cond} {off : Int} {x y : Int32} (hf : s_fetch μ.2.2.2 pc = some (.if_icmp cnd off, 3)) (ht : s_tgt pc off = some T) (k1 : s_c2 cnd x y = true → s_Ev E d μ T ls st M Q) (k2 : s_c2 cnd x y = false → s_Ev E d μ (pc + 3) ls st M Q) : s_Ev E d μ pc ls (.int y :: .int x :: st) M Q := by
  cases hc : s_c2 cnd x y with
  | true => exact s_ev_one (fun rec => s_step_pure hf (show s_jump (s_br (s_c2 cnd x y) pc off) ls st = some (T, ls, st) by rw [hc]; show s_jump (s_tgt pc off) ls st = _; rw [ht]; rfl)) (k1 hc)
  | false => exact s_ev_one (fun rec => s_step_pure hf (show s_jump (s_br (s_c2 cnd x y) pc off) ls st = some (pc + 3, ls, st) by rw [hc]; rfl)) (k2 hc)
def s_keep (M M' : sM) : Prop := M'.length = M.length ∧ s_slots M' = s_slots M ∧ ∀ a, s_kd M' a = s_kd M a
theorem s_keep.rf {M : sM} : s_keep M M := ⟨rfl, rfl, fun _ => rfl⟩
theorem s_keep.tr {M M2 M' : sM} (h1 : s_keep M M2) (h2 : s_keep M2 M') : s_keep M M' := ⟨h2.1.trans h1.1, h2.2.1.trans h1.2.1, fun a => (h2.2.2 a).trans (h1.2.2 a)⟩
theorem s_kd_set {M : sM} {a k : Nat} {vs ws : List Value} (h : M[a]? = some (k, vs)) (b : Nat) : s_kd (M.set a (k, ws)) b = s_kd M b := by
  unfold s_kd
  rw [List.getElem?_set]
  by_cases hb : a = b
  · subst hb
    rw [if_pos rfl, if_pos (List.getElem?_eq_some_iff.mp h).1, h]
  · rw [if_neg hb]
theorem s_ps_keep {M M' : sM} {a : Nat} {i : Int32} {v : Value} {ok : Nat → Bool} {r r' : List Value} (h : s_ps M a i v ok r = some (r', M')) : s_keep M M' := by
  obtain ⟨k, vs, h1, -, -, -, -, rfl, rfl⟩ := s_ps_sp h
  exact ⟨List.length_set, s_slots_set h1 List.length_set, s_kd_set h1⟩
theorem s_pf_keep {k : Nat} {f : Nat → Nat → FieldType} {M M' : sM} {st r' : List Value} (h : s_pf f k st M = some (r', M')) : s_keep M M' := by
  unfold s_pf at h
  split at h
  · rename_i v a r
    split at h
    · rename_i q hq
      cases hz : (Nat.beq q.1 (k / 64) && (s_fit (f (k / 64) (k % 64)) v && Nat.blt (k % 64) q.2.length)) with
      | true =>
        rw [hz] at h
        cases h
        exact ⟨List.length_set, s_slots_set hq List.length_set, s_kd_set hq⟩
      | false => rw [hz] at h; cases h
    · cases h
  · cases h
theorem s_wr_keep {f : Nat → Nat → FieldType} {i : Jvm.ClassFile.Instr} {M M' : sM} {st r' : List Value} (h : s_wr f i st M = some (r', M')) : s_keep M M' := by
  cases i
  case putfield k => exact s_pf_keep (show s_pf f k st M = _ from h)
  case putstatic k => exact s_pf_keep (show s_pf f k st M = _ from h)
  case bastore =>
    unfold s_wr at h
    dsimp only at h
    split at h
    · rename_i x j a r
      cases hz : Nat.beq (s_kd M a) 12 with
      | true => rw [hz, cond_true] at h; exact s_ps_keep h
      | false => rw [hz, cond_false] at h; exact s_ps_keep h
    · cases h
  case iastore => (unfold s_wr at h; dsimp only at h; split at h <;> first | exact s_ps_keep h | cases h)
  case sastore => (unfold s_wr at h; dsimp only at h; split at h <;> first | exact s_ps_keep h | cases h)
  case lastore => (unfold s_wr at h; dsimp only at h; split at h <;> first | exact s_ps_keep h | cases h)
  case aastore => (unfold s_wr at h; dsimp only at h; split at h <;> first | exact s_ps_keep h | cases h)
  all_goals exact nomatch (show none = some _ from h)
theorem s_bk_keep {E : sE} {μ : sMeth} : ∀ (k pc : Nat) (ls : sL) (st : List Value) (M : sM) (P : Nat) (ls' : sL) (st' : List Value) (M' : sM), s_bk E μ k pc ls st M = some (P, ls', st', M') → s_keep M M'
  | 0, pc, ls, st, M, P, ls', st', M', h => by cases h; exact s_keep.rf
  | k + 1, pc, ls, st, M, P, ls', st', M', h => by
    unfold s_bk at h
    split at h
    · split at h
      · exact s_bk_keep k _ _ _ _ _ _ _ _ h
      · split at h
        · rename_i hw
          exact (s_wr_keep hw).tr (s_bk_keep k _ _ _ _ _ _ _ _ h)
        · cases h
    · cases h
/-- the same, and the cells keep their number and sizes -/
def s_Ek (E : sE) (d : Nat) (μ : sMeth) (pc : Nat) (ls : sL) (st : List Value) (M : sM) (Q : Option Value → sM → Prop) : Prop := s_Ev E d μ pc ls st M (fun o M' => s_keep M M' ∧ Q o M')
section EK
variable {E : sE} {d : Nat} {μ ν : sMeth} {Q : Option Value → sM → Prop} {pc P T : Nat} {ls ls' : sL} {st st' as r : List Value} {M M' : sM}
theorem s_ek_bk (k : Nat) (h : s_bk E μ k pc ls st M = some (P, ls', st', M')) (kk : s_Ek E d μ P ls' st' M' Q) : s_Ek E d μ pc ls st M Q :=
  s_ev_bk k h (s_ev_mono kk (fun _ _ q => ⟨(s_bk_keep k _ _ _ _ _ _ _ _ h).tr q.1, q.2⟩))
theorem s_ek_call (hs : ∀ rec, s_step s_prog s_fty s_ft E rec (d + 1) μ pc ls st M = s_call rec (d + 1) μ ν P ls as r M) (hr : s_room ν.1 as r = true) (kk : s_Ek E d ν 0 (lv_args 0 as) [] M (fun v M2 => s_Ek E (d + 1) μ P ls (v.toList ++ r) M2 Q)) : s_Ek E (d + 1) μ pc ls st M Q :=
  s_ev_call hs hr (s_ev_mono kk (fun _ _ q => s_ev_mono q.2 (fun _ _ q2 => ⟨q.1.tr q2.1, q2.2⟩)))
theorem s_ek_callV {w len a : Nat} {as' : List Value} (hf : s_fetch μ.2.2.2 pc = some (.invokevirtual w, len)) (hs : s_split (w % 8) [] st = some (as', .ref a :: r)) (hp : s_prog (w / 8) = some ν) (hk : s_kd M a = ν.2.2.1) (hr : s_room ν.1 (.ref a :: as') r = true) (kk : s_Ek E d ν 0 (lv_args 0 (.ref a :: as')) [] M (fun v M2 => s_Ek E (d + 1) μ (pc + 3) ls (v.toList ++ r) M2 Q)) : s_Ek E (d + 1) μ pc ls st M Q :=
  s_ek_call (fun rec => by
    unfold s_step
    rw [hf]
    dsimp only
    rw [hs]
    dsimp only
    rw [hp]
    dsimp only
    rw [hk, Nat.beq_refl, cond_true]) hr kk
theorem s_ek_ret {o : Option Value} (hs : ∀ rec, s_step s_prog s_fty s_ft E rec d μ pc ls st M = some (o, M)) (hq : Q o M) : s_Ek E d μ pc ls st M Q := s_ev_ret hs ⟨s_keep.rf, hq⟩
def s_p1 (c : Jvm.ClassFile.Cond) (x : Int32) : Prop := match c with
  | .eq => x.toInt = 0
  | .ne => ¬ x.toInt = 0
  | .lt => x.toInt < 0
  | .ge => 0 ≤ x.toInt
  | .gt => 0 < x.toInt
  | .le => x.toInt ≤ 0
def s_p2 (c : Jvm.ClassFile.Cond) (x y : Int32) : Prop := match c with
  | .eq => x.toInt = y.toInt
  | .ne => ¬ x.toInt = y.toInt
  | .lt => x.toInt < y.toInt
  | .ge => y.toInt ≤ x.toInt
  | .gt => y.toInt < x.toInt
  | .le => x.toInt ≤ y.toInt
theorem s_c1_iff {c : Jvm.ClassFile.Cond} {x : Int32} : s_c1 c x = true ↔ s_p1 c x := by
  have h0 : (0 : Int32).toInt = 0 := rfl
  cases c <;> simp only [s_c1, s_p1, decide_eq_true_eq, Bool.not_eq_true', decide_eq_false_iff_not, Int32.lt_iff_toInt_lt, Int32.le_iff_toInt_le, ← Int32.toInt_inj, h0]
theorem s_c2_iff {c : Jvm.ClassFile.Cond} {x y : Int32} : s_c2 c x y = true ↔ s_p2 c x y := by
  cases c <;> simp only [s_c2, s_p2, decide_eq_true_eq, Bool.not_eq_true', decide_eq_false_iff_not, Int32.lt_iff_toInt_lt, Int32.le_iff_toInt_le, ← Int32.toInt_inj]
theorem s_ek_if1 {cnd : Jvm.ClassFile.Cond} {off : Int} {x : Int32} (hf : s_fetch μ.2.2.2 pc = some (.ifCond cnd off, 3)) (ht : s_tgt pc off = some T) (k1 : s_p1 cnd x → s_Ek E d μ T ls st M Q) (k2 : ¬ s_p1 cnd x → s_Ek E d μ (pc + 3) ls st M Q) : s_Ek E d μ pc ls (.int x :: st) M Q :=
  s_ev_if1 hf ht (fun h => k1 (s_c1_iff.mp h)) (fun h => k2 (fun q => by rw [s_c1_iff.mpr q] at h; cases h))
theorem s_ek_if2 {cnd : Jvm.ClassFile.Cond} {off : Int} {x y : Int32} (hf : s_fetch μ.2.2.2 pc = some (.if_icmp cnd off, 3)) (ht : s_tgt pc off = some T) (k1 : s_p2 cnd x y → s_Ek E d μ T ls st M Q) (k2 : ¬ s_p2 cnd x y → s_Ek E d μ (pc + 3) ls st M Q) : s_Ek E d μ pc ls (.int y :: .int x :: st) M Q :=
  s_ev_if2 hf ht (fun h => k1 (s_c2_iff.mp h)) (fun h => k2 (fun q => by rw [s_c2_iff.mpr q] at h; cases h))
theorem s_ek_tso {dflt lo hi : Int} {os : Array Int} {len : Nat} {x : Int32} (hf : s_fetch μ.2.2.2 pc = some (.tableswitch dflt lo hi os, len)) (ht : s_tgt pc dflt = some T) (hx : x.toInt < lo ∨ hi < x.toInt) (k : s_Ek E d μ T ls st M Q) : s_Ek E d μ pc ls (.int x :: st) M Q := by
  have hb : (decide (x.toInt < lo) || decide (hi < x.toInt)) = true := by simpa using hx
  exact s_ev_one (fun rec => s_step_pure hf (show s_tsw dflt lo hi os pc ls (.int x :: st) = some (T, ls, st) by unfold s_tsw; dsimp only; rw [hb, cond_true, ht]; rfl)) k
def s_keepb (M M' : sM) : Bool := Nat.beq M'.length M.length && (Nat.beq (s_slots M') (s_slots M) && decide (M'.map (fun c => c.1) = M.map (fun c => c.1)))
theorem s_keepb_ok {M M' : sM} (h : s_keepb M M' = true) : s_keep M M' := by
  unfold s_keepb at h
  simp only [Bool.and_eq_true, decide_eq_true_eq] at h
  refine ⟨Nat.eq_of_beq_eq_true h.1, Nat.eq_of_beq_eq_true h.2.1, fun a => ?_⟩
  have h3 : (M'.map (fun c => c.1))[a]? = (M.map (fun c => c.1))[a]? := by rw [h.2.2]
  rw [List.getElem?_map, List.getElem?_map] at h3
  unfold s_kd
  cases h1 : M'[a]? with
  | none =>
    rw [h1] at h3
    cases h2 : M[a]? with
    | none => rfl
    | some c => rw [h2] at h3; cases h3
  | some c =>
    rw [h1] at h3
    cases h2 : M[a]? with
    | none => rw [h2] at h3; cases h3
    | some c2 => rw [h2] at h3; exact Option.some.inj h3
/-- a run worked out: its answer and its cells -/
def s_out (x : sR) (o : Option Value) (M M' : sM) : Bool := match x with
  | some q => decide (q.1 = o) && (decide (q.2 = M') && s_keepb M M')
  | none => false
theorem s_ek_run {E0 : sE} (hE : s_El E0 E) {n : Nat} {o : Option Value} (h : s_out (s_x s_prog s_fty s_ft E0 n d μ pc ls st M) o M M' = true) (hQ : Q o M') : s_Ek E d μ pc ls st M Q := by
  unfold s_out at h
  split at h
  · rename_i q hq
    simp only [Bool.and_eq_true, decide_eq_true_eq] at h
    obtain ⟨o1, M1⟩ := q
    obtain ⟨h1, h2, h3⟩ := h
    dsimp only at h1 h2
    subst h1; subst h2
    exact s_ev_run hE hq ⟨s_keepb_ok h3, hQ⟩
  · cases h
end EK
/-- a cell's place, written -/
def s_w (M : sM) (a i : Nat) (v : Value) : sM := match M[a]? with
  | some c => M.set a (c.1, c.2.set i v)
  | none => M
theorem s_El_rows {L : Nat} {xs : Nat → Int32} : s_El (s_rows 2 0 (fun _ => 0)) (s_rows 3 L xs) := ⟨show 2 ≤ 3 by decide, fun j hj => by
  have hj : j < 2 := hj
  rcases (show j = 0 ∨ j = 1 by omega) with rfl | rfl <;> rfl⟩
