/-! ONE STEP: an instruction that writes no cell -/
def s_pl (i : Jvm.ClassFile.Instr) : Bool := match i with
  | .getfield _ | .putfield _ | .getstatic _ | .invokevirtual _ | .invokespecial _ | .invokestatic _ | .new _ | .anewarray _ | .ldc _ | .ldc_w _ | .ldc2_w _ | .putstatic _ | .invokedynamic _ | .invokeinterface _ _ => false
  | _ => true
theorem s_res_pl {o : Nat} {ini : Bool} {r i : Jvm.ClassFile.Instr} (hp : s_pl i = true) (h : s_res o ini r = some i) : r = i := by
  unfold s_res at h
  split at h
  all_goals first
    | exact Option.some.inj h
    | (exfalso
       first
         | (rw [Option.map_eq_some_iff] at h
            obtain ⟨n, -, rfl⟩ := h
            cases hp)
         | (cases h; done)
         | (split at h
            · rename_i n hn
              cases hf : s_fin n with
              | true =>
                rw [hf] at h
                cases hg : (ini && decide (s_cn o = s_cn (n / 64))) with
                | true => rw [hg] at h; cases h; cases hp
                | false => rw [hg] at h; cases h
              | false => rw [hf] at h; cases h; cases hp
            · cases h)
         | (split at h
            · cases h; cases hp
            · split at h
              · cases h; cases hp
              · rw [Option.map_eq_some_iff] at h
                obtain ⟨n, -, rfl⟩ := h
                cases hp))
theorem s_res_getfield {o : Nat} {ini : Bool} {r : Jvm.ClassFile.Instr} {n : Nat} (h : s_res o ini r = some (.getfield n)) : ∃ x, r = .getfield x ∧ s_look s_tF o x = some n := by
  cases r
  case getfield x =>
    have h : (s_look s_tF o x).map (fun n => Jvm.ClassFile.Instr.getfield n) = some (.getfield n) := h
    rw [Option.map_eq_some_iff] at h
    obtain ⟨k, hk, e⟩ := h
    cases e
    exact ⟨x, rfl, hk⟩
  case putfield x =>
    exfalso
    unfold s_res at h
    dsimp only at h
    split at h
    · rename_i n hn
      cases hf : s_fin n with
      | true =>
        rw [hf] at h
        cases hg : (ini && decide (s_cn o = s_cn (n / 64))) with
        | true => rw [hg] at h; cases h
        | false => rw [hg] at h; cases h
      | false => rw [hf] at h; cases h
    · cases h
  case invokestatic x =>
    exfalso
    unfold s_res at h
    dsimp only at h
    split at h
    · cases h
    · split at h
      · cases h
      · rw [Option.map_eq_some_iff] at h
        obtain ⟨n, -, e⟩ := h
        cases e
  all_goals first
    | (exfalso; exact nomatch (show some _ = some (Jvm.ClassFile.Instr.getfield n) from h))
    | (exfalso; exact nomatch (show none = some (Jvm.ClassFile.Instr.getfield n) from h))
    | (exfalso
       unfold s_res at h
       dsimp only at h
       rw [Option.map_eq_some_iff] at h
       obtain ⟨k, hk, e⟩ := h
       cases e)
theorem s_res_getstatic {o : Nat} {ini : Bool} {r : Jvm.ClassFile.Instr} {n : Nat} (h : s_res o ini r = some (.getstatic n)) : ∃ x, r = .getstatic x ∧ s_look s_tS o x = some n := by
  cases r
  case getstatic x =>
    have h : (s_look s_tS o x).map (fun n => Jvm.ClassFile.Instr.getstatic n) = some (.getstatic n) := h
    rw [Option.map_eq_some_iff] at h
    obtain ⟨k, hk, e⟩ := h
    cases e
    exact ⟨x, rfl, hk⟩
  case putfield x =>
    exfalso
    unfold s_res at h
    dsimp only at h
    split at h
    · rename_i n hn
      cases hf : s_fin n with
      | true =>
        rw [hf] at h
        cases hg : (ini && decide (s_cn o = s_cn (n / 64))) with
        | true => rw [hg] at h; cases h
        | false => rw [hg] at h; cases h
      | false => rw [hf] at h; cases h
    · cases h
  case invokestatic x =>
    exfalso
    unfold s_res at h
    dsimp only at h
    split at h
    · cases h
    · split at h
      · cases h
      · rw [Option.map_eq_some_iff] at h
        obtain ⟨n, -, e⟩ := h
        cases e
  all_goals first
    | (exfalso; exact nomatch (show some _ = some (Jvm.ClassFile.Instr.getstatic n) from h))
    | (exfalso; exact nomatch (show none = some (Jvm.ClassFile.Instr.getstatic n) from h))
    | (exfalso
       unfold s_res at h
       dsimp only at h
       rw [Option.map_eq_some_iff] at h
       obtain ⟨k, hk, e⟩ := h
       cases e)
theorem s_res_invokevirtual {o : Nat} {ini : Bool} {r : Jvm.ClassFile.Instr} {n : Nat} (h : s_res o ini r = some (.invokevirtual n)) : ∃ x, r = .invokevirtual x ∧ s_look s_tV o x = some n := by
  cases r
  case invokevirtual x =>
    have h : (s_look s_tV o x).map (fun n => Jvm.ClassFile.Instr.invokevirtual n) = some (.invokevirtual n) := h
    rw [Option.map_eq_some_iff] at h
    obtain ⟨k, hk, e⟩ := h
    cases e
    exact ⟨x, rfl, hk⟩
  case putfield x =>
    exfalso
    unfold s_res at h
    dsimp only at h
    split at h
    · rename_i n hn
      cases hf : s_fin n with
      | true =>
        rw [hf] at h
        cases hg : (ini && decide (s_cn o = s_cn (n / 64))) with
        | true => rw [hg] at h; cases h
        | false => rw [hg] at h; cases h
      | false => rw [hf] at h; cases h
    · cases h
  case invokestatic x =>
    exfalso
    unfold s_res at h
    dsimp only at h
    split at h
    · cases h
    · split at h
      · cases h
      · rw [Option.map_eq_some_iff] at h
        obtain ⟨n, -, e⟩ := h
        cases e
  all_goals first
    | (exfalso; exact nomatch (show some _ = some (Jvm.ClassFile.Instr.invokevirtual n) from h))
    | (exfalso; exact nomatch (show none = some (Jvm.ClassFile.Instr.invokevirtual n) from h))
    | (exfalso
       unfold s_res at h
       dsimp only at h
       rw [Option.map_eq_some_iff] at h
       obtain ⟨k, hk, e⟩ := h
       cases e)
theorem s_res_invokespecial {o : Nat} {ini : Bool} {r : Jvm.ClassFile.Instr} {n : Nat} (h : s_res o ini r = some (.invokespecial n)) : ∃ x, r = .invokespecial x ∧ s_look s_tI o x = some n := by
  cases r
  case invokespecial x =>
    have h : (s_look s_tI o x).map (fun n => Jvm.ClassFile.Instr.invokespecial n) = some (.invokespecial n) := h
    rw [Option.map_eq_some_iff] at h
    obtain ⟨k, hk, e⟩ := h
    cases e
    exact ⟨x, rfl, hk⟩
  case putfield x =>
    exfalso
    unfold s_res at h
    dsimp only at h
    split at h
    · rename_i n hn
      cases hf : s_fin n with
      | true =>
        rw [hf] at h
        cases hg : (ini && decide (s_cn o = s_cn (n / 64))) with
        | true => rw [hg] at h; cases h
        | false => rw [hg] at h; cases h
      | false => rw [hf] at h; cases h
    · cases h
  case invokestatic x =>
    exfalso
    unfold s_res at h
    dsimp only at h
    split at h
    · cases h
    · split at h
      · cases h
      · rw [Option.map_eq_some_iff] at h
        obtain ⟨n, -, e⟩ := h
        cases e
  all_goals first
    | (exfalso; exact nomatch (show some _ = some (Jvm.ClassFile.Instr.invokespecial n) from h))
    | (exfalso; exact nomatch (show none = some (Jvm.ClassFile.Instr.invokespecial n) from h))
    | (exfalso
       unfold s_res at h
       dsimp only at h
       rw [Option.map_eq_some_iff] at h
       obtain ⟨k, hk, e⟩ := h
       cases e)
theorem s_res_new {o : Nat} {ini : Bool} {r : Jvm.ClassFile.Instr} {n : Nat} (h : s_res o ini r = some (.new n)) : ∃ x, r = .new x ∧ s_look s_tC o x = some n := by
  cases r
  case new x =>
    have h : (s_look s_tC o x).map (fun n => Jvm.ClassFile.Instr.new n) = some (.new n) := h
    rw [Option.map_eq_some_iff] at h
    obtain ⟨k, hk, e⟩ := h
    cases e
    exact ⟨x, rfl, hk⟩
  case putfield x =>
    exfalso
    unfold s_res at h
    dsimp only at h
    split at h
    · rename_i n hn
      cases hf : s_fin n with
      | true =>
        rw [hf] at h
        cases hg : (ini && decide (s_cn o = s_cn (n / 64))) with
        | true => rw [hg] at h; cases h
        | false => rw [hg] at h; cases h
      | false => rw [hf] at h; cases h
    · cases h
  case invokestatic x =>
    exfalso
    unfold s_res at h
    dsimp only at h
    split at h
    · cases h
    · split at h
      · cases h
      · rw [Option.map_eq_some_iff] at h
        obtain ⟨n, -, e⟩ := h
        cases e
  all_goals first
    | (exfalso; exact nomatch (show some _ = some (Jvm.ClassFile.Instr.new n) from h))
    | (exfalso; exact nomatch (show none = some (Jvm.ClassFile.Instr.new n) from h))
    | (exfalso
       unfold s_res at h
       dsimp only at h
       rw [Option.map_eq_some_iff] at h
       obtain ⟨k, hk, e⟩ := h
       cases e)
theorem s_res_anewarray {o : Nat} {ini : Bool} {r : Jvm.ClassFile.Instr} {n : Nat} (h : s_res o ini r = some (.anewarray n)) : ∃ x, r = .anewarray x ∧ s_look s_tA o x = some n := by
  cases r
  case anewarray x =>
    have h : (s_look s_tA o x).map (fun n => Jvm.ClassFile.Instr.anewarray n) = some (.anewarray n) := h
    rw [Option.map_eq_some_iff] at h
    obtain ⟨k, hk, e⟩ := h
    cases e
    exact ⟨x, rfl, hk⟩
  case putfield x =>
    exfalso
    unfold s_res at h
    dsimp only at h
    split at h
    · rename_i n hn
      cases hf : s_fin n with
      | true =>
        rw [hf] at h
        cases hg : (ini && decide (s_cn o = s_cn (n / 64))) with
        | true => rw [hg] at h; cases h
        | false => rw [hg] at h; cases h
      | false => rw [hf] at h; cases h
    · cases h
  case invokestatic x =>
    exfalso
    unfold s_res at h
    dsimp only at h
    split at h
    · cases h
    · split at h
      · cases h
      · rw [Option.map_eq_some_iff] at h
        obtain ⟨n, -, e⟩ := h
        cases e
  all_goals first
    | (exfalso; exact nomatch (show some _ = some (Jvm.ClassFile.Instr.anewarray n) from h))
    | (exfalso; exact nomatch (show none = some (Jvm.ClassFile.Instr.anewarray n) from h))
    | (exfalso
       unfold s_res at h
       dsimp only at h
       rw [Option.map_eq_some_iff] at h
       obtain ⟨k, hk, e⟩ := h
       cases e)
theorem s_res_ldc {o : Nat} {ini : Bool} {r : Jvm.ClassFile.Instr} {n : Nat} (h : s_res o ini r = some (.ldc n)) : ∃ x, r = .ldc x ∧ s_look s_tK o x = some n := by
  cases r
  case ldc x =>
    have h : (s_look s_tK o x).map (fun n => Jvm.ClassFile.Instr.ldc n) = some (.ldc n) := h
    rw [Option.map_eq_some_iff] at h
    obtain ⟨k, hk, e⟩ := h
    cases e
    exact ⟨x, rfl, hk⟩
  case putfield x =>
    exfalso
    unfold s_res at h
    dsimp only at h
    split at h
    · rename_i n hn
      cases hf : s_fin n with
      | true =>
        rw [hf] at h
        cases hg : (ini && decide (s_cn o = s_cn (n / 64))) with
        | true => rw [hg] at h; cases h
        | false => rw [hg] at h; cases h
      | false => rw [hf] at h; cases h
    · cases h
  case invokestatic x =>
    exfalso
    unfold s_res at h
    dsimp only at h
    split at h
    · cases h
    · split at h
      · cases h
      · rw [Option.map_eq_some_iff] at h
        obtain ⟨n, -, e⟩ := h
        cases e
  all_goals first
    | (exfalso; exact nomatch (show some _ = some (Jvm.ClassFile.Instr.ldc n) from h))
    | (exfalso; exact nomatch (show none = some (Jvm.ClassFile.Instr.ldc n) from h))
    | (exfalso
       unfold s_res at h
       dsimp only at h
       rw [Option.map_eq_some_iff] at h
       obtain ⟨k, hk, e⟩ := h
       cases e)
theorem s_res_ldc_w {o : Nat} {ini : Bool} {r : Jvm.ClassFile.Instr} {n : Nat} (h : s_res o ini r = some (.ldc_w n)) : ∃ x, r = .ldc_w x ∧ s_look s_tK o x = some n := by
  cases r
  case ldc_w x =>
    have h : (s_look s_tK o x).map (fun n => Jvm.ClassFile.Instr.ldc_w n) = some (.ldc_w n) := h
    rw [Option.map_eq_some_iff] at h
    obtain ⟨k, hk, e⟩ := h
    cases e
    exact ⟨x, rfl, hk⟩
  case putfield x =>
    exfalso
    unfold s_res at h
    dsimp only at h
    split at h
    · rename_i n hn
      cases hf : s_fin n with
      | true =>
        rw [hf] at h
        cases hg : (ini && decide (s_cn o = s_cn (n / 64))) with
        | true => rw [hg] at h; cases h
        | false => rw [hg] at h; cases h
      | false => rw [hf] at h; cases h
    · cases h
  case invokestatic x =>
    exfalso
    unfold s_res at h
    dsimp only at h
    split at h
    · cases h
    · split at h
      · cases h
      · rw [Option.map_eq_some_iff] at h
        obtain ⟨n, -, e⟩ := h
        cases e
  all_goals first
    | (exfalso; exact nomatch (show some _ = some (Jvm.ClassFile.Instr.ldc_w n) from h))
    | (exfalso; exact nomatch (show none = some (Jvm.ClassFile.Instr.ldc_w n) from h))
    | (exfalso
       unfold s_res at h
       dsimp only at h
       rw [Option.map_eq_some_iff] at h
       obtain ⟨k, hk, e⟩ := h
       cases e)
theorem s_res_ldc2_w {o : Nat} {ini : Bool} {r : Jvm.ClassFile.Instr} {n : Nat} (h : s_res o ini r = some (.ldc2_w n)) : ∃ x, r = .ldc2_w x ∧ s_look s_tL o x = some n := by
  cases r
  case ldc2_w x =>
    have h : (s_look s_tL o x).map (fun n => Jvm.ClassFile.Instr.ldc2_w n) = some (.ldc2_w n) := h
    rw [Option.map_eq_some_iff] at h
    obtain ⟨k, hk, e⟩ := h
    cases e
    exact ⟨x, rfl, hk⟩
  case putfield x =>
    exfalso
    unfold s_res at h
    dsimp only at h
    split at h
    · rename_i n hn
      cases hf : s_fin n with
      | true =>
        rw [hf] at h
        cases hg : (ini && decide (s_cn o = s_cn (n / 64))) with
        | true => rw [hg] at h; cases h
        | false => rw [hg] at h; cases h
      | false => rw [hf] at h; cases h
    · cases h
  case invokestatic x =>
    exfalso
    unfold s_res at h
    dsimp only at h
    split at h
    · cases h
    · split at h
      · cases h
      · rw [Option.map_eq_some_iff] at h
        obtain ⟨n, -, e⟩ := h
        cases e
  all_goals first
    | (exfalso; exact nomatch (show some _ = some (Jvm.ClassFile.Instr.ldc2_w n) from h))
    | (exfalso; exact nomatch (show none = some (Jvm.ClassFile.Instr.ldc2_w n) from h))
    | (exfalso
       unfold s_res at h
       dsimp only at h
       rw [Option.map_eq_some_iff] at h
       obtain ⟨k, hk, e⟩ := h
       cases e)
def s_ln (i : Jvm.ClassFile.Instr) : Nat := match i with
  | .iload _ | .istore _ | .aload _ | .astore _ | .lload _ | .lstore _ | .bipush _ | .ldc _ | .newarray _ => 2
  | .iinc _ _ | .sipush _ | .ldc_w _ | .ldc2_w _ | .goto _ | .ifCond _ _ | .if_icmp _ _ | .ifnull _ | .ifnonnull _ | .getfield _ | .putfield _ | .getstatic _ | .putstatic _ | .invokevirtual _ | .invokespecial _ | .invokestatic _ | .invokedynamic _ | .invokeinterface _ _ | .new _ | .anewarray _ => 3
  | _ => 1
def s_ln2 (i : Jvm.ClassFile.Instr) (len : Nat) : Bool := match i with
  | .lookupswitch _ _ | .tableswitch _ _ _ _ => true
  | j => decide (s_ln j = len)
theorem s_get_mem {l : sL} {k : Nat} {v : Value} (h : s_get l k = some v) : (k, v) ∈ l := by
  induction l with
  | nil => cases h
  | cons q r ih =>
    unfold s_get at h
    cases hb : Nat.beq q.1 k with
    | true =>
      rw [hb] at h
      have e1 := Nat.eq_of_beq_eq_true hb
      obtain ⟨a, b⟩ := q
      cases h
      cases e1
      exact List.mem_cons_self
    | false =>
      rw [hb] at h
      exact List.mem_cons_of_mem _ (ih h)
theorem s_trl_mem {tt α : Nat → Nat} {l : sL} {k : Nat} {v : Value} (h : (k, v) ∈ l) : (k, s_tr tt α v) ∈ s_trl tt α l := List.mem_map.mpr ⟨(k, v), h, rfl⟩
theorem s_at_l {lsR : Array Slot} {mx : Nat} {tt α : Nat → Nat} {ls : sL} {k : Nat} {v : Value} (hl : lv_has lsR mx (s_trl tt α ls)) (h : s_get ls k = some v) : lsR[k]? = some (.val (s_tr tt α v)) := hl.2.2 _ (s_trl_mem (s_get_mem h))
theorem s_set_l {tt α : Nat → Nat} {ls : sL} {k : Nat} {v : Value} : (k, s_tr tt α v) :: (s_trl tt α ls).filter (fun q => !(q.1 == k) && !(q.1 + 1 == k && q.2.category == 2)) = s_trl tt α (s_set ls k v) := by
  unfold s_trl s_set
  rw [List.map_cons, List.filter_map]
  refine congrArg (fun z => (k, s_tr tt α v) :: z) (congrArg _ (List.filter_congr fun q _ => ?_))
  simp only [Function.comp, s_tr_cat]
theorem s_setL_l {tt α : Nat → Nat} {ls : sL} {k : Nat} {v : Value} : (k, s_tr tt α v) :: (s_trl tt α ls).filter (fun q => !(q.1 == k) && (!(q.1 == k + 1) && !(q.1 + 1 == k && q.2.category == 2))) = s_trl tt α (s_setL ls k v) := by
  unfold s_trl s_setL
  rw [List.map_cons, List.filter_map]
  refine congrArg (fun z => (k, s_tr tt α v) :: z) (congrArg _ (List.filter_congr fun q _ => ?_))
  simp only [Function.comp, s_tr_cat]
theorem s_mem_at {l : List (Nat × Value)} {q : Nat × Value} (h : q ∈ l) : ∃ k : Nat, l[k]? = some q := List.getElem?_of_mem h
theorem s_tgt_eq {pc : Nat} {off : Int} {t : Nat} (h : s_tgt pc off = some t) : (pc : Int) + off = (t : Int) := by
  unfold s_tgt at h
  split at h
  · rename_i t' ht
    cases h
    exact ht
  · cases h
theorem s_fld_at {M : sM} {a n : Nat} {v : Value} (h : s_fld M a n = some v) : ∃ fs, M[a]? = some (n / 64, fs) ∧ fs[n % 64]? = some v := by
  unfold s_fld at h
  split at h
  · rename_i c hc
    cases hb : Nat.beq c.1 (n / 64) with
    | true =>
      rw [hb] at h
      have e := Nat.eq_of_beq_eq_true hb
      obtain ⟨k, fs⟩ := c
      cases e
      exact ⟨fs, hc, h⟩
    | false => rw [hb] at h; cases h
  · cases h
theorem s_at_at {M : sM} {a : Nat} {i : Int32} {ok : Nat → Bool} {v : Value} (h : s_at M a i ok = some v) : ∃ k vs, M[a]? = some (k, vs) ∧ ok k = true ∧ ¬ i < 0 ∧ vs[i.toNatClampNeg]? = some v ∧ vp_in i vs.length := by
  unfold s_at at h
  split at h
  · rename_i c hc
    cases hb : (ok c.1 && !decide (i < 0)) with
    | true =>
      rw [hb] at h
      rw [Bool.and_eq_true] at hb
      have h0 : ¬ i < 0 := by simpa using hb.2
      have hlt := (List.getElem?_eq_some_iff.mp h).1
      exact ⟨c.1, c.2, hc, hb.1, h0, h, fun q => q.elim h0 (fun z => Nat.not_le.mpr hlt z)⟩
    | false => rw [hb] at h; cases h
  · cases h
theorem s_br_sp {b : Bool} {pc : Nat} {off : Int} {ls : sL} {r : List Value} {P : Nat} {ls' : sL} {r' : List Value} (h : s_jump (s_br b pc off) ls r = some (P, ls', r')) : ls' = ls ∧ r' = r ∧ ((b = true ∧ (pc : Int) + off = (P : Int)) ∨ (b = false ∧ P = pc + 3)) := by
  unfold s_jump at h
  split at h
  · rename_i t ht
    cases h
    cases b with
    | true => exact ⟨rfl, rfl, Or.inl ⟨rfl, s_tgt_eq ht⟩⟩
    | false => exact ⟨rfl, rfl, Or.inr ⟨rfl, (Option.some.inj ht).symm⟩⟩
  · cases h
theorem s_jp_sp {o : Option Nat} {ls : sL} {r : List Value} {P : Nat} {ls' : sL} {r' : List Value} (h : s_jump o ls r = some (P, ls', r')) : ls' = ls ∧ r' = r ∧ o = some P := by
  unfold s_jump at h
  split at h
  · cases h; exact ⟨rfl, rfl, rfl⟩
  · cases h
theorem s_kFat {o x n : Nat} (h : s_look s_tF o x = some n) : ∃ C T N, vwCl[n / 64]? = some (C, T, N) ∧ n % 64 < N ∧ (Cond.fieldLink (s_cn o) x C (T (n % 64)).2.1 (T (n % 64)).2.2.1) ∈ s_G ∧ (T (n % 64)).1 = C := by
  obtain ⟨p, hp⟩ := s_look_mem h
  have h1 := List.all_eq_true.mp s_kF_ok _ hp
  unfold s_kF at h1
  dsimp only at h1
  split at h1
  · rename_i c hc
    simp only [Bool.and_eq_true, decide_eq_true_eq] at h1
    exact ⟨c.1, c.2.1, c.2.2, hc, h1.2.2, s_atG h1.1 rfl, h1.2.1⟩
  · cases h1
theorem s_kSat {o x n : Nat} (h : s_look s_tS o x = some n) : n < 2 ∧ (Cond.fieldLink (s_cn o) x "OldestLaw$Clauses" (s_stn n) "[I") ∈ s_G := by
  obtain ⟨p, hp⟩ := s_look_mem h
  have h1 := List.all_eq_true.mp s_kS_ok _ hp
  unfold s_kS at h1
  simp only [Bool.and_eq_true, decide_eq_true_eq] at h1
  exact ⟨h1.2, s_atG h1.1 rfl⟩
theorem s_kKat {o x n : Nat} (h : s_look s_tK o x = some n) : (Cond.constant (s_cn o) x (Int32.ofNat n)) ∈ s_G := by
  obtain ⟨p, hp⟩ := s_look_mem h
  have h1 := List.all_eq_true.mp s_kK_ok _ hp
  unfold s_kK at h1
  simp only [decide_eq_true_eq] at h1
  exact s_atG h1 rfl
theorem s_kLat {o x n : Nat} (h : s_look s_tL o x = some n) : (Cond.constantLong (s_cn o) x (Int64.ofNat n)) ∈ s_G := by
  obtain ⟨p, hp⟩ := s_look_mem h
  have h1 := List.all_eq_true.mp s_kL_ok _ hp
  unfold s_kL at h1
  simp only [decide_eq_true_eq] at h1
  exact s_atG h1 rfl
theorem s_gw0 : wsX00.all goodWord = true := by decide +kernel
theorem s_gw1 : wsX10.all goodWord = true := by decide +kernel
theorem s_gw2 : wsX20.all goodWord = true := by decide +kernel
theorem s_gw3 : wsX30.all goodWord = true := by decide +kernel
theorem s_gw4 : wsX40.all goodWord = true := by decide +kernel
theorem s_gw5 : wsX50.all goodWord = true := by decide +kernel
theorem s_gw6 : wsX60.all goodWord = true := by decide +kernel
theorem s_gw7 : wsX70.all goodWord = true := by decide +kernel
theorem s_gw8 : wsX80.all goodWord = true := by decide +kernel
theorem s_gw9 : wsX90.all goodWord = true := by decide +kernel
theorem s_gw10 : wsX100.all goodWord = true := by decide +kernel
theorem s_gw11 : wsX110.all goodWord = true := by decide +kernel
/-- a kind's class: its words, its fields' types -/
theorem s_clok {k : Nat} {C : String} {T : u_T} {N : Nat} (h : vwCl[k]? = some (C, T, N)) : (∀ w ∈ u_ws C T N, w ∈ s_G) ∧ (∀ i, i < N → parseFieldDescriptor (T i).2.2.1 = some (s_fty k i)) ∧ (∀ a, a < N → ∀ b, b < N → a ≠ b → (T a).2.1 ≠ (T b).2.1) ∧ Cond.instantiable C N ∈ s_G ∧ Cond.initialized C ∈ s_G ∧ s_ft[k]? = some (N, s_fty k) ∧ s_cn k = C := by
  have hk : k < 12 := (List.getElem?_eq_some_iff.mp h).1
  match k, hk, h with
  | 0, _, h => cases h; exact ⟨fun w hw => s_inG (s_inX0 w hw) (List.all_eq_true.mp s_gw0 w hw), tyX0_ok, nmX0, s_atG (i := 200) (by decide +kernel) rfl, s_atG (i := 110) (by decide +kernel) rfl, rfl, rfl⟩
  | 1, _, h => cases h; exact ⟨fun w hw => s_inG (s_inX1 w hw) (List.all_eq_true.mp s_gw1 w hw), tyX1_ok, nmX1, s_atG (i := 301) (by decide +kernel) rfl, s_atG (i := 111) (by decide +kernel) rfl, rfl, rfl⟩
  | 2, _, h => cases h; exact ⟨fun w hw => s_inG (s_inX2 w hw) (List.all_eq_true.mp s_gw2 w hw), tyX2_ok, nmX2, s_atG (i := 363) (by decide +kernel) rfl, s_atG (i := 113) (by decide +kernel) rfl, rfl, rfl⟩
  | 3, _, h => cases h; exact ⟨fun w hw => s_inG (s_inX3 w hw) (List.all_eq_true.mp s_gw3 w hw), tyX3_ok, nmX3, s_atG (i := 166) (by decide +kernel) rfl, s_atG (i := 107) (by decide +kernel) rfl, rfl, rfl⟩
  | 4, _, h => cases h; exact ⟨fun w hw => s_inG (s_inX4 w hw) (List.all_eq_true.mp s_gw4 w hw), tyX4_ok, nmX4, s_atG (i := 192) (by decide +kernel) rfl, s_atG (i := 109) (by decide +kernel) rfl, rfl, rfl⟩
  | 5, _, h => cases h; exact ⟨fun w hw => s_inG (s_inX5 w hw) (List.all_eq_true.mp s_gw5 w hw), tyX5_ok, nmX5, s_atG (i := 129) (by decide +kernel) rfl, s_atG (i := 105) (by decide +kernel) rfl, rfl, rfl⟩
  | 6, _, h => cases h; exact ⟨fun w hw => s_inG (s_inX6 w hw) (List.all_eq_true.mp s_gw6 w hw), tyX6_ok, nmX6, s_atG (i := 385) (by decide +kernel) rfl, s_atG (i := 114) (by decide +kernel) rfl, rfl, rfl⟩
  | 7, _, h => cases h; exact ⟨fun w hw => s_inG (s_inX7 w hw) (List.all_eq_true.mp s_gw7 w hw), tyX7_ok, nmX7, s_atG (i := 135) (by decide +kernel) rfl, s_atG (i := 106) (by decide +kernel) rfl, rfl, rfl⟩
  | 8, _, h => cases h; exact ⟨fun w hw => s_inG (s_inX8 w hw) (List.all_eq_true.mp s_gw8 w hw), tyX8_ok, nmX8, s_atG (i := 327) (by decide +kernel) rfl, s_atG (i := 112) (by decide +kernel) rfl, rfl, rfl⟩
  | 9, _, h => cases h; exact ⟨fun w hw => s_inG (s_inX9 w hw) (List.all_eq_true.mp s_gw9 w hw), tyX9_ok, nmX9, s_atG (i := 172) (by decide +kernel) rfl, s_atG (i := 108) (by decide +kernel) rfl, rfl, rfl⟩
  | 10, _, h => cases h; exact ⟨fun w hw => s_inG (s_inX10 w hw) (List.all_eq_true.mp s_gw10 w hw), tyX10_ok, nmX10, s_atG (i := 121) (by decide +kernel) rfl, s_atG (i := 104) (by decide +kernel) rfl, rfl, rfl⟩
  | 11, _, h => cases h; exact ⟨fun w hw => s_inG (s_inX11 w hw) (List.all_eq_true.mp s_gw11 w hw), tyX11_ok, nmX11, s_atG (i := 1170) (by decide +kernel) rfl, s_atG (i := 115) (by decide +kernel) rfl, rfl, rfl⟩
section S9b
variable {p : Program} {l : Launch} {e : Env} {R : Room} {s : State} {m : MethodId} {args : Array Value} {below : List Frame} {meth : Method} {c : Code} {H : Heap} {locs : List Loc} {cells slots : Nat} {Q : State → Prop}
variable {cc : ByteArray} {pc : Nat} {ls : Array Slot} {rest : List Value}
theorem s_ifc (hx : p.tables.exec = Jvm.exec) (hb : c.code = cc) {cnd : Jvm.ClassFile.Cond} {off : Int} {x : Int32} {P : Nat} (hd : decode cc pc = .ok (.ifCond cnd off, 3)) (h9 : (s_c1 cnd x = true ∧ (pc : Int) + off = (P : Int)) ∨ (s_c1 cnd x = false ∧ P = pc + 3))
    (k : W p l e R s m args below meth c H locs cells slots Q (F0 m P ls rest)) : W p l e R s m args below meth c H locs cells slots Q (F0 m pc ls (.int x :: rest)) := by
  intro T hT X
  obtain ⟨t, a1, b1⟩ := k T hT X
  refine ⟨t, ?_, b1⟩
  rcases h9 with ⟨hc, ht⟩ | ⟨hc, rfl⟩
  · cases cnd <;> (simp only [s_c1, decide_eq_true_eq, Bool.not_eq_true', decide_eq_false_iff_not] at hc; jvm_step X.here [X.here.top, hx, hb, hd, Op.ifCond.holds, hc, ht]; exact a1)
  · cases cnd <;> (simp only [s_c1, Bool.not_eq_false', decide_eq_true_eq, decide_eq_false_iff_not] at hc; jvm_step X.here [X.here.top, hx, hb, hd, Op.ifCond.holds, hc]; exact a1)
theorem s_icc (hx : p.tables.exec = Jvm.exec) (hb : c.code = cc) {cnd : Jvm.ClassFile.Cond} {off : Int} {x y : Int32} {P : Nat} (hd : decode cc pc = .ok (.if_icmp cnd off, 3)) (h9 : (s_c2 cnd x y = true ∧ (pc : Int) + off = (P : Int)) ∨ (s_c2 cnd x y = false ∧ P = pc + 3))
    (k : W p l e R s m args below meth c H locs cells slots Q (F0 m P ls rest)) : W p l e R s m args below meth c H locs cells slots Q (F0 m pc ls (.int y :: .int x :: rest)) := by
  intro T hT X
  obtain ⟨t, a1, b1⟩ := k T hT X
  refine ⟨t, ?_, b1⟩
  rcases h9 with ⟨hc, ht⟩ | ⟨hc, rfl⟩
  · cases cnd <;> (simp only [s_c2, decide_eq_true_eq, Bool.not_eq_true', decide_eq_false_iff_not] at hc; jvm_step X.here [X.here.top, hx, hb, hd, Op.if_icmp.holds, hc, ht]; exact a1)
  · cases cnd <;> (simp only [s_c2, Bool.not_eq_false', decide_eq_true_eq, decide_eq_false_iff_not] at hc; jvm_step X.here [X.here.top, hx, hb, hd, Op.if_icmp.holds, hc]; exact a1)
end S9b
theorem s_im_i {cy : Nat → ClassId} {tt α : Nat → Nat} {vs : List Value} : s_im cy tt α (13, vs) = .inl (cy 13, vs.length, .inl (s_iv vs)) := rfl
theorem s_im_b {cy : Nat → ClassId} {tt α : Nat → Nat} {vs : List Value} : s_im cy tt α (12, vs) = .inl (cy 12, vs.length, .inl (s_iv vs)) := rfl
theorem s_im_s {cy : Nat → ClassId} {tt α : Nat → Nat} {vs : List Value} : s_im cy tt α (15, vs) = .inl (cy 15, vs.length, .inl (s_iv vs)) := rfl
theorem s_im_z {cy : Nat → ClassId} {tt α : Nat → Nat} {vs : List Value} : s_im cy tt α (16, vs) = .inl (cy 16, vs.length, .inl (s_iv vs)) := rfl
theorem s_im_l {cy : Nat → ClassId} {tt α : Nat → Nat} {vs : List Value} : s_im cy tt α (14, vs) = .inl (cy 14, vs.length, .inr (.inl (s_lv vs))) := rfl
theorem s_im_q {cy : Nat → ClassId} {tt α : Nat → Nat} {k : Nat} {vs : List Value} (h : 17 ≤ k) : s_im cy tt α (k, vs) = .inl (cy k, vs.length, .inr (.inr (.inr (.inr (s_qv α vs))))) := by
  unfold s_im s_arr
  rw [if_neg (show ¬ (k, vs).1 < 12 by dsimp only; omega), if_neg (show ¬ (k, vs).1 = 14 by dsimp only; omega), if_neg (show ¬ (k, vs).1 < 17 by dsimp only; omega)]
theorem s_tys_q {cy : Nat → ClassId} {k : Nat} (h1 : 17 ≤ k) (h2 : k ≤ 19) : ∃ C, (s_tys cy)[k - 12]? = some (cy k, .object C) := by
  rcases (show k = 17 ∨ k = 18 ∨ k = 19 by omega) with rfl | rfl | rfl <;> exact ⟨_, rfl⟩
theorem s_tys_at {cy : Nat → ClassId} {k : Nat} (h1 : 12 ≤ k) (h2 : k ≤ 19) : ∃ ty, (s_tys cy)[k - 12]? = some (cy k, ty) := by
  rcases (show k = 12 ∨ k = 13 ∨ k = 14 ∨ k = 15 ∨ k = 16 ∨ k = 17 ∨ k = 18 ∨ k = 19 by omega) with rfl | rfl | rfl | rfl | rfl | rfl | rfl | rfl <;> exact ⟨_, rfl⟩
section S9
variable {p : Program} {l : Launch} {e : Env} {R : Room} {s : State} {m : MethodId} {args : Array Value} {below : List Frame} {meth : Method} {c : Code} {H : Heap} {locs : List Loc} {cells slots : Nat} {Q : State → Prop}
variable {own mx : Nat} {ini : Bool} {cc : ByteArray} {D : va_G} {cy tt α : Nat → Nat} {E : sE} {A : Nat → Prop} {M : sM}
set_option maxHeartbeats 4000000 in
theorem s_simP (hF : s_Fr p s m args meth c own ini cc mx) (hK : s_Kx D cy s) (hT : s_Tx E tt A s s.heap) (hP : va_P D vwCl (s_img cy tt α M) H) (hS : va_S A s.heap H locs) {ls : sL} {st : List Value} {lsR : Array Slot} {pc len : Nat} {i r : Jvm.ClassFile.Instr} (hl : lv_has lsR mx (s_trl tt α ls)) (hd : decode cc pc = .ok (r, len)) (hr : s_res own ini r = some i) (hn : s_ln2 i len = true) {P : Nat} {ls' : sL} {st' : List Value} (h : s_pure E mx i pc (pc + len) ls st M = some (P, ls', st'))
    (kk : ∀ lsR' : Array Slot, lv_has lsR' mx (s_trl tt α ls') → W p l e R s m args below meth c H locs cells slots Q (F0 m P lsR' (st'.map (s_tr tt α)))) : W p l e R s m args below meth c H locs cells slots Q (F0 m pc lsR (st.map (s_tr tt α))) := by
  obtain ⟨hx, hb, hml, hown, hts, hin⟩ := hF
  cases i
  case iload k =>
    have e := s_res_pl rfl hr
    subst e
    obtain rfl := of_decide_eq_true hn
    replace h : s_ild k _ ls st = _ := h
    unfold s_ild at h
    split at h
    · rename_i x hx9
      cases h
      exact lv_iload hx hb hd (s_at_l hl hx9) (kk _ hl)
    · cases h
  case iload_n k =>
    have e := s_res_pl rfl hr
    subst e
    obtain rfl := of_decide_eq_true hn
    replace h : s_ild k.val _ ls st = _ := h
    unfold s_ild at h
    split at h
    · rename_i x hx9
      cases h
      exact lv_iload_n hx hb hd rfl (s_at_l hl hx9) (kk _ hl)
    · cases h
  case lload k =>
    have e := s_res_pl rfl hr
    subst e
    obtain rfl := of_decide_eq_true hn
    replace h : s_lld k _ ls st = _ := h
    unfold s_lld at h
    split at h
    · rename_i x hx9
      cases h
      exact lv_lload hx hb hd (s_at_l hl hx9) (kk _ hl)
    · cases h
  case lload_n k =>
    have e := s_res_pl rfl hr
    subst e
    obtain rfl := of_decide_eq_true hn
    replace h : s_lld k.val _ ls st = _ := h
    unfold s_lld at h
    split at h
    · rename_i x hx9
      cases h
      exact lv_lload_n hx hb hd rfl (s_at_l hl hx9) (kk _ hl)
    · cases h
  case aload k =>
    have e := s_res_pl rfl hr
    subst e
    obtain rfl := of_decide_eq_true hn
    replace h : s_ald k _ ls st = _ := h
    unfold s_ald at h
    split at h
    · rename_i x hx9
      cases h
      exact lv_aload hx hb hd (s_at_l hl hx9) (kk _ hl)
    · rename_i hx9
      cases h
      exact lv_aloadN hx hb hd (s_at_l hl hx9) (kk _ hl)
    · rename_i j hx9
      cases h
      exact lv_aload hx hb hd (s_at_l hl hx9) (kk _ hl)
    · cases h
  case aload_n k =>
    have e := s_res_pl rfl hr
    subst e
    obtain rfl := of_decide_eq_true hn
    replace h : s_ald k.val _ ls st = _ := h
    unfold s_ald at h
    split at h
    · rename_i x hx9
      cases h
      exact lv_aload_n hx hb hd rfl (s_at_l hl hx9) (kk _ hl)
    · rename_i hx9
      cases h
      exact lv_aload_nN hx hb hd rfl (s_at_l hl hx9) (kk _ hl)
    · rename_i j hx9
      cases h
      exact lv_aload_n hx hb hd rfl (s_at_l hl hx9) (kk _ hl)
    · cases h
  case istore k =>
    have e := s_res_pl rfl hr
    subst e
    obtain rfl := of_decide_eq_true hn
    replace h : s_ist mx k _ ls st = _ := h
    unfold s_ist at h
    split at h
    · rename_i x r9
      cases hb9 : Nat.blt (k) mx with
      | true =>
        rw [hb9] at h
        cases h
        exact lv_istore hx hb hd hl (Nat.le_of_ble_eq_true hb9) (s_set_l (v := .int x)) (fun ls9 hl9 => kk _ hl9)
      | false => rw [hb9] at h; cases h
    · cases h
  case istore_n k =>
    have e := s_res_pl rfl hr
    subst e
    obtain rfl := of_decide_eq_true hn
    replace h : s_ist mx k.val _ ls st = _ := h
    unfold s_ist at h
    split at h
    · rename_i x r9
      cases hb9 : Nat.blt (k.val) mx with
      | true =>
        rw [hb9] at h
        cases h
        exact lv_istore_n hx hb hd rfl hl (Nat.le_of_ble_eq_true hb9) (s_set_l (v := .int x)) (fun ls9 hl9 => kk _ hl9)
      | false => rw [hb9] at h; cases h
    · cases h
  case lstore k =>
    have e := s_res_pl rfl hr
    subst e
    obtain rfl := of_decide_eq_true hn
    replace h : s_lst mx k _ ls st = _ := h
    unfold s_lst at h
    split at h
    · rename_i x r9
      cases hb9 : Nat.blt (k + 1) mx with
      | true =>
        rw [hb9] at h
        cases h
        exact lv_lstore hx hb hd hl (Nat.le_of_ble_eq_true hb9) (s_setL_l (v := .long x)) (fun ls9 hl9 => kk _ hl9)
      | false => rw [hb9] at h; cases h
    · cases h
  case lstore_n k =>
    have e := s_res_pl rfl hr
    subst e
    obtain rfl := of_decide_eq_true hn
    replace h : s_lst mx k.val _ ls st = _ := h
    unfold s_lst at h
    split at h
    · rename_i x r9
      cases hb9 : Nat.blt (k.val + 1) mx with
      | true =>
        rw [hb9] at h
        cases h
        exact lv_lstore_n hx hb hd rfl hl (Nat.le_of_ble_eq_true hb9) (s_setL_l (v := .long x)) (fun ls9 hl9 => kk _ hl9)
      | false => rw [hb9] at h; cases h
    · cases h
  case astore k =>
    have e := s_res_pl rfl hr
    subst e
    obtain rfl := of_decide_eq_true hn
    replace h : s_ast mx k _ ls st = _ := h
    unfold s_ast at h
    split at h
    · rename_i x r9
      cases hb9 : Nat.blt (k) mx with
      | true =>
        rw [hb9] at h
        cases h
        exact lv_astore hx hb hd hl (Nat.le_of_ble_eq_true hb9) (s_set_l (v := .ref x)) (fun ls9 hl9 => kk _ hl9)
      | false => rw [hb9] at h; cases h
    · rename_i r9
      cases hb9 : Nat.blt (k) mx with
      | true =>
        rw [hb9] at h
        cases h
        exact lv_astoreN hx hb hd hl (Nat.le_of_ble_eq_true hb9) (s_set_l (v := .null)) (fun ls9 hl9 => kk _ hl9)
      | false => rw [hb9] at h; cases h
    · cases h
  case astore_n k =>
    have e := s_res_pl rfl hr
    subst e
    obtain rfl := of_decide_eq_true hn
    replace h : s_ast mx k.val _ ls st = _ := h
    unfold s_ast at h
    split at h
    · rename_i x r9
      cases hb9 : Nat.blt (k.val) mx with
      | true =>
        rw [hb9] at h
        cases h
        exact lv_astore_n hx hb hd rfl hl (Nat.le_of_ble_eq_true hb9) (s_set_l (v := .ref x)) (fun ls9 hl9 => kk _ hl9)
      | false => rw [hb9] at h; cases h
    · rename_i r9
      cases hb9 : Nat.blt (k.val) mx with
      | true =>
        rw [hb9] at h
        cases h
        exact lv_astore_nN hx hb hd rfl hl (Nat.le_of_ble_eq_true hb9) (s_set_l (v := .null)) (fun ls9 hl9 => kk _ hl9)
      | false => rw [hb9] at h; cases h
    · cases h
  case iinc k n =>
    have e := s_res_pl rfl hr
    subst e
    obtain rfl := of_decide_eq_true hn
    replace h : s_iinc mx k n _ ls st = _ := h
    unfold s_iinc at h
    split at h
    · rename_i x hx9
      cases hb9 : Nat.blt k mx with
      | true =>
        rw [hb9] at h
        cases h
        obtain ⟨q9, hq9⟩ := s_mem_at (s_trl_mem (tt := tt) (α := α) (s_get_mem hx9))
        exact lv_iinc hx hb hd hl hq9 rfl (Nat.le_of_ble_eq_true hb9) (s_set_l (v := .int (x + Int32.ofInt n))) (fun ls9 hl9 => kk _ hl9)
      | false => rw [hb9] at h; cases h
    · cases h
  case iconst n =>
    have e := s_res_pl rfl hr
    subst e
    obtain rfl := of_decide_eq_true hn
    cases h
    exact lv_iconst hx hb hd rfl (kk _ hl)
  case bipush n =>
    have e := s_res_pl rfl hr
    subst e
    obtain rfl := of_decide_eq_true hn
    cases h
    exact lv_bipush hx hb hd rfl (kk _ hl)
  case sipush n =>
    have e := s_res_pl rfl hr
    subst e
    obtain rfl := of_decide_eq_true hn
    cases h
    exact lv_sipush hx hb hd rfl (kk _ hl)
  case lconst n =>
    have e := s_res_pl rfl hr
    subst e
    obtain rfl := of_decide_eq_true hn
    cases h
    exact lv_lconst hx hb hd rfl (kk _ hl)
  case aconst_null =>
    have e := s_res_pl rfl hr
    subst e
    obtain rfl := of_decide_eq_true hn
    cases h
    exact lv_null hx hb hd (kk _ hl)
  case ldc n =>
    obtain ⟨x9, rfl, hk9⟩ := s_res_ldc hr
    obtain rfl := of_decide_eq_true hn
    cases h
    exact lv_ldc hx hb hown (hts _ (s_kKat hk9)) hd (kk _ hl)
  case ldc_w n =>
    obtain ⟨x9, rfl, hk9⟩ := s_res_ldc_w hr
    obtain rfl := of_decide_eq_true hn
    cases h
    exact lv_ldcw hx hb hown (hts _ (s_kKat hk9)) hd (kk _ hl)
  case ldc2_w n =>
    obtain ⟨x9, rfl, hk9⟩ := s_res_ldc2_w hr
    obtain rfl := of_decide_eq_true hn
    cases h
    exact lv_ldc2 hx hb hown (hts _ (s_kLat hk9)) hd (kk _ hl)
  case iadd =>
    have e := s_res_pl rfl hr
    subst e
    obtain rfl := of_decide_eq_true hn
    replace h : s_i2 st _ _ ls = _ := h
    unfold s_i2 at h
    split at h
    · cases h
      exact lv_iadd hx hb hd (kk _ hl)
    · cases h
  case isub =>
    have e := s_res_pl rfl hr
    subst e
    obtain rfl := of_decide_eq_true hn
    replace h : s_i2 st _ _ ls = _ := h
    unfold s_i2 at h
    split at h
    · cases h
      exact lv_isub hx hb hd (kk _ hl)
    · cases h
  case imul =>
    have e := s_res_pl rfl hr
    subst e
    obtain rfl := of_decide_eq_true hn
    replace h : s_i2 st _ _ ls = _ := h
    unfold s_i2 at h
    split at h
    · cases h
      exact lv_imul hx hb hd (kk _ hl)
    · cases h
  case iand =>
    have e := s_res_pl rfl hr
    subst e
    obtain rfl := of_decide_eq_true hn
    replace h : s_i2 st _ _ ls = _ := h
    unfold s_i2 at h
    split at h
    · cases h
      exact lv_iand hx hb hd (kk _ hl)
    · cases h
  case ior =>
    have e := s_res_pl rfl hr
    subst e
    obtain rfl := of_decide_eq_true hn
    replace h : s_i2 st _ _ ls = _ := h
    unfold s_i2 at h
    split at h
    · cases h
      exact lv_ior hx hb hd (kk _ hl)
    · cases h
  case ixor =>
    have e := s_res_pl rfl hr
    subst e
    obtain rfl := of_decide_eq_true hn
    replace h : s_i2 st _ _ ls = _ := h
    unfold s_i2 at h
    split at h
    · cases h
      exact lv_ixor hx hb hd (kk _ hl)
    · cases h
  case ishl =>
    have e := s_res_pl rfl hr
    subst e
    obtain rfl := of_decide_eq_true hn
    replace h : s_i2 st _ _ ls = _ := h
    unfold s_i2 at h
    split at h
    · cases h
      exact lv_ishl hx hb hd (kk _ hl)
    · cases h
  case ishr =>
    have e := s_res_pl rfl hr
    subst e
    obtain rfl := of_decide_eq_true hn
    replace h : s_i2 st _ _ ls = _ := h
    unfold s_i2 at h
    split at h
    · cases h
      exact lv_ishr hx hb hd (kk _ hl)
    · cases h
  case iushr =>
    have e := s_res_pl rfl hr
    subst e
    obtain rfl := of_decide_eq_true hn
    replace h : s_i2 st _ _ ls = _ := h
    unfold s_i2 at h
    split at h
    · cases h
      exact lv_iushr hx hb hd rfl (kk _ hl)
    · cases h
  case idiv =>
    have e := s_res_pl rfl hr
    subst e
    obtain rfl := of_decide_eq_true hn
    unfold s_pure at h
    dsimp only at h
    split at h
    · rename_i y r9
      cases hy9 : decide (y = 0) with
      | true => rw [hy9] at h; cases h
      | false =>
        rw [hy9] at h
        have hy : ¬ y = 0 := of_decide_eq_false hy9
        replace h : s_i2 (.int y :: r9) _ _ ls = _ := h
        unfold s_i2 at h
        split at h
        · rename_i y2 x2 r2 heq9
          cases heq9
          cases h
          exact lv_idiv hx hb hd hy (kk _ hl)
        · cases h
    · cases h
  case irem =>
    have e := s_res_pl rfl hr
    subst e
    obtain rfl := of_decide_eq_true hn
    unfold s_pure at h
    dsimp only at h
    split at h
    · rename_i y r9
      cases hy9 : decide (y = 0) with
      | true => rw [hy9] at h; cases h
      | false =>
        rw [hy9] at h
        have hy : ¬ y = 0 := of_decide_eq_false hy9
        replace h : s_i2 (.int y :: r9) _ _ ls = _ := h
        unfold s_i2 at h
        split at h
        · rename_i y2 x2 r2 heq9
          cases heq9
          cases h
          exact lv_irem hx hb hd hy (kk _ hl)
        · cases h
    · cases h
  case ineg =>
    have e := s_res_pl rfl hr
    subst e
    obtain rfl := of_decide_eq_true hn
    replace h : s_i1 st _ _ ls = _ := h
    unfold s_i1 at h
    split at h
    · cases h
      exact lv_ineg hx hb hd (kk _ hl)
    · cases h
  case i2l =>
    have e := s_res_pl rfl hr
    subst e
    obtain rfl := of_decide_eq_true hn
    replace h : s_i1 st _ _ ls = _ := h
    unfold s_i1 at h
    split at h
    · cases h
      exact lv_i2l hx hb hd rfl (kk _ hl)
    · cases h
  case i2b =>
    have e := s_res_pl rfl hr
    subst e
    obtain rfl := of_decide_eq_true hn
    replace h : s_i1 st _ _ ls = _ := h
    unfold s_i1 at h
    split at h
    · cases h
      exact lv_i2b hx hb hd rfl (kk _ hl)
    · cases h
  case i2s =>
    have e := s_res_pl rfl hr
    subst e
    obtain rfl := of_decide_eq_true hn
    replace h : s_i1 st _ _ ls = _ := h
    unfold s_i1 at h
    split at h
    · cases h
      exact lv_i2s hx hb hd rfl (kk _ hl)
    · cases h
  case l2i =>
    have e := s_res_pl rfl hr
    subst e
    obtain rfl := of_decide_eq_true hn
    unfold s_pure at h
    dsimp only at h
    split at h
    · cases h
      exact lv_l2i hx hb hd rfl (kk _ hl)
    · cases h
  case lcmp =>
    have e := s_res_pl rfl hr
    subst e
    obtain rfl := of_decide_eq_true hn
    unfold s_pure at h
    dsimp only at h
    split at h
    · cases h
      exact W.lcmp hx hb hd (kk _ hl)
    · cases h
  case ladd =>
    have e := s_res_pl rfl hr
    subst e
    obtain rfl := of_decide_eq_true hn
    replace h : s_l2 st _ _ ls = _ := h
    unfold s_l2 at h
    split at h
    · cases h
      exact lv_ladd hx hb hd (kk _ hl)
    · cases h
  case lsub =>
    have e := s_res_pl rfl hr
    subst e
    obtain rfl := of_decide_eq_true hn
    replace h : s_l2 st _ _ ls = _ := h
    unfold s_l2 at h
    split at h
    · cases h
      exact lv_lsub hx hb hd (kk _ hl)
    · cases h
  case land =>
    have e := s_res_pl rfl hr
    subst e
    obtain rfl := of_decide_eq_true hn
    replace h : s_l2 st _ _ ls = _ := h
    unfold s_l2 at h
    split at h
    · cases h
      exact lv_land hx hb hd (kk _ hl)
    · cases h
  case lor =>
    have e := s_res_pl rfl hr
    subst e
    obtain rfl := of_decide_eq_true hn
    replace h : s_l2 st _ _ ls = _ := h
    unfold s_l2 at h
    split at h
    · cases h
      exact lv_lor hx hb hd (kk _ hl)
    · cases h
  case lshl =>
    have e := s_res_pl rfl hr
    subst e
    obtain rfl := of_decide_eq_true hn
    replace h : s_li st _ _ ls = _ := h
    unfold s_li at h
    split at h
    · cases h
      exact lv_lshl hx hb hd rfl (kk _ hl)
    · cases h
  case lushr =>
    have e := s_res_pl rfl hr
    subst e
    obtain rfl := of_decide_eq_true hn
    replace h : s_li st _ _ ls = _ := h
    unfold s_li at h
    split at h
    · cases h
      exact lv_lushr hx hb hd rfl (kk _ hl)
    · cases h
  case dup =>
    have e := s_res_pl rfl hr
    subst e
    obtain rfl := of_decide_eq_true hn
    unfold s_pure at h
    dsimp only at h
    split at h
    · rename_i v r9
      cases hv9 : Nat.beq v.category 1 with
      | true =>
        rw [hv9] at h
        cases h
        exact lv_dup hx hb hd ((s_tr_cat tt α v).trans (Nat.eq_of_beq_eq_true hv9)) (kk _ hl)
      | false => rw [hv9] at h; cases h
    · cases h
  case pop =>
    have e := s_res_pl rfl hr
    subst e
    obtain rfl := of_decide_eq_true hn
    unfold s_pure at h
    dsimp only at h
    split at h
    · rename_i v r9
      cases hv9 : Nat.beq v.category 1 with
      | true =>
        rw [hv9] at h
        cases h
        exact lv_pop hx hb hd ((s_tr_cat tt α v).trans (Nat.eq_of_beq_eq_true hv9)) (kk _ hl)
      | false => rw [hv9] at h; cases h
    · cases h
  case pop2 =>
    have e := s_res_pl rfl hr
    subst e
    obtain rfl := of_decide_eq_true hn
    unfold s_pure at h
    dsimp only at h
    split at h
    · rename_i v r9
      cases hv9 : Nat.beq v.category 2 with
      | true =>
        rw [hv9] at h
        cases h
        exact lv_pop2_2 hx hb hd ((s_tr_cat tt α v).trans (Nat.eq_of_beq_eq_true hv9)) (kk _ hl)
      | false => rw [hv9] at h; cases h
    · cases h
  case dup2 =>
    have e := s_res_pl rfl hr
    subst e
    obtain rfl := of_decide_eq_true hn
    unfold s_pure at h
    dsimp only at h
    split at h
    · rename_i v w r9
      cases hv9 : (Nat.beq v.category 1 && Nat.beq w.category 1) with
      | true =>
        rw [hv9] at h
        rw [Bool.and_eq_true] at hv9
        cases h
        exact lv_dup2_11 hx hb hd ((s_tr_cat tt α v).trans (Nat.eq_of_beq_eq_true hv9.1)) ((s_tr_cat tt α w).trans (Nat.eq_of_beq_eq_true hv9.2)) (kk _ hl)
      | false => rw [hv9] at h; cases h
    · cases h
  case goto off =>
    have e := s_res_pl rfl hr
    subst e
    obtain rfl := of_decide_eq_true hn
    obtain ⟨rfl, rfl, h9⟩ := s_jp_sp h
    exact lv_goto hx hb hd (s_tgt_eq h9) (kk _ hl)
  case ifCond cnd off =>
    have e := s_res_pl rfl hr
    subst e
    obtain rfl := of_decide_eq_true hn
    unfold s_pure at h
    dsimp only at h
    split at h
    · rename_i x r9
      obtain ⟨rfl, rfl, h9⟩ := s_br_sp h
      exact s_ifc hx hb hd h9 (kk _ hl)
    · cases h
  case if_icmp cnd off =>
    have e := s_res_pl rfl hr
    subst e
    obtain rfl := of_decide_eq_true hn
    unfold s_pure at h
    dsimp only at h
    split at h
    · rename_i y x r9
      obtain ⟨rfl, rfl, h9⟩ := s_br_sp h
      exact s_icc hx hb hd h9 (kk _ hl)
    · cases h
  case ifnull off =>
    have e := s_res_pl rfl hr
    subst e
    obtain rfl := of_decide_eq_true hn
    unfold s_pure at h
    dsimp only at h
    split at h
    · obtain ⟨rfl, rfl, h9⟩ := s_jp_sp h
      exact lv_ifnullN hx hb hd (s_tgt_eq h9) (kk _ hl)
    · cases h
      exact lv_ifnull hx hb hd (kk _ hl)
    · cases h
  case ifnonnull off =>
    have e := s_res_pl rfl hr
    subst e
    obtain rfl := of_decide_eq_true hn
    unfold s_pure at h
    dsimp only at h
    split at h
    · cases h
      exact lv_ifnonnullN hx hb hd (kk _ hl)
    · obtain ⟨rfl, rfl, h9⟩ := s_jp_sp h
      exact lv_ifnonnull hx hb hd (s_tgt_eq h9) (kk _ hl)
    · cases h
  case lookupswitch dflt ps =>
    have e := s_res_pl rfl hr
    subst e
    replace h : s_lkup dflt ps pc ls st = _ := h
    unfold s_lkup at h
    split at h
    · rename_i x r9
      cases hz9 : (ps.toList.zip (ps.toList.drop 1)).all (fun q => decide (q.1.1 < q.2.1)) with
      | true =>
        rw [hz9] at h
        obtain ⟨rfl, rfl, h9⟩ := s_jp_sp h
        exact lv_lookup hx hb hd hz9 rfl (s_tgt_eq h9) (kk _ hl)
      | false => rw [hz9] at h; cases h
    · cases h
  case tableswitch dflt lo hi offs =>
    have e := s_res_pl rfl hr
    subst e
    replace h : s_tsw dflt lo hi offs pc ls st = _ := h
    unfold s_tsw at h
    split at h
    · rename_i x r9
      cases hz9 : (decide (x.toInt < lo) || decide (hi < x.toInt)) with
      | true =>
        rw [hz9] at h
        obtain ⟨rfl, rfl, h9⟩ := s_jp_sp h
        have hz : x.toInt < lo ∨ hi < x.toInt := by simpa using hz9
        exact lv_tableOut hx hb hd hz (s_tgt_eq h9) (kk _ hl)
      | false =>
        rw [hz9] at h
        have hz : ¬ (x.toInt < lo ∨ hi < x.toInt) := by simpa using hz9
        dsimp only [cond_false] at h
        split at h
        · rename_i off ho
          obtain ⟨rfl, rfl, h9⟩ := s_jp_sp h
          exact lv_tableIn hx hb hd (fun q => hz (Or.inl q)) (fun q => hz (Or.inr q)) ho (s_tgt_eq h9) (kk _ hl)
        · cases h
    · cases h
  case getfield n =>
    obtain ⟨x9, rfl, hk9⟩ := s_res_getfield hr
    obtain rfl := of_decide_eq_true hn
    replace h : s_gf n _ ls st M = _ := h
    unfold s_gf at h
    split at h
    · rename_i a r9
      split at h
      · rename_i v hv9
        cases h
        obtain ⟨fs, h1, h2⟩ := s_fld_at hv9
        obtain ⟨C, T, N, g1, g2, g3, g4⟩ := s_kFat hk9
        have hlt : n / 64 < 12 := (List.getElem?_eq_some_iff.mp g1).1
        have h3 := s_img_at (cy := cy) (tt := tt) (α := α) h1
        rw [show s_im cy tt α (n / 64, fs) = .inr (n / 64, fs.map (s_tr tt α)) from if_pos hlt] at h3
        exact va_get hx hb hts (s_clok g1).1 hown hK.1 hP a h3 g1 (n % 64) g2 (hts _ g3) (fun x hx9 => by rw [g4] at hx9; exact hx9) (by rw [List.getElem?_map, h2]; rfl) hd (kk _ hl)
      · cases h
    · cases h
  case getstatic j =>
    obtain ⟨x9, rfl, hk9⟩ := s_res_getstatic hr
    obtain rfl := of_decide_eq_true hn
    obtain ⟨g1, g2⟩ := s_kSat hk9
    unfold s_pure at h
    dsimp only at h
    rw [show Nat.blt j 2 = true from Nat.ble_eq_true_of_le g1] at h
    cases h
    exact va_gets hx hb (hT.1 j g1) hS hown (hts _ g2) (fun _ h9 => h9) hd (kk _ hl)
  case iaload =>
    have e := s_res_pl rfl hr
    subst e
    obtain rfl := of_decide_eq_true hn
    replace h : s_ia E _ ls st M = _ := h
    unfold s_ia at h
    split at h
    · rename_i i a r9
      split at h
      · rename_i x hv9
        cases h
        obtain ⟨k, vs, h1, hk, h0, h2, h3⟩ := s_at_at hv9
        obtain rfl := Nat.eq_of_beq_eq_true hk
        have h4 := s_img_at (cy := cy) (tt := tt) (α := α) h1
        rw [s_im_i] at h4
        have e9 : s_iv vs i.toNatClampNeg = x := by simp [s_iv, h2]
        refine va_iald hx hb hK.1 hP a 1 h4 rfl h3 hd ?_
        rw [e9]
        exact kk _ hl
      · cases h
    · rename_i i j r9
      cases hz9 : (!decide (i < 0) && (Nat.blt i.toNatClampNeg (E j).1 && Nat.blt j (E 3).1)) with
      | true =>
        rw [hz9] at h
        cases h
        simp only [Bool.and_eq_true, Bool.not_eq_true', decide_eq_false_iff_not] at hz9
        have h1 : i.toNatClampNeg < (E j).1 := Nat.le_of_ble_eq_true hz9.2.1
        exact va_ti hx hb (hT.2 j (Nat.le_of_ble_eq_true hz9.2.2)) hS (fun q => q.elim hz9.1 (fun z => Nat.not_le.mpr h1 z)) rfl hd (kk _ hl)
      | false => rw [hz9] at h; cases h
    · cases h
  case saload =>
    have e := s_res_pl rfl hr
    subst e
    obtain rfl := of_decide_eq_true hn
    replace h : s_sa _ ls st M = _ := h
    unfold s_sa at h
    split at h
    · rename_i i a r9
      split at h
      · rename_i x hv9
        cases h
        obtain ⟨k, vs, h1, hk, h0, h2, h3⟩ := s_at_at hv9
        obtain rfl := Nat.eq_of_beq_eq_true hk
        have h4 := s_img_at (cy := cy) (tt := tt) (α := α) h1
        rw [s_im_s] at h4
        have e9 : s_iv vs i.toNatClampNeg = x := by simp [s_iv, h2]
        refine va_sald hx hb hK.1 hP a 3 h4 rfl h3 hd ?_
        rw [e9]
        exact kk _ hl
      · cases h
    · cases h
  case laload =>
    have e := s_res_pl rfl hr
    subst e
    obtain rfl := of_decide_eq_true hn
    replace h : s_la _ ls st M = _ := h
    unfold s_la at h
    split at h
    · rename_i i a r9
      split at h
      · rename_i x hv9
        cases h
        obtain ⟨k, vs, h1, hk, h0, h2, h3⟩ := s_at_at hv9
        obtain rfl := Nat.eq_of_beq_eq_true hk
        have h4 := s_img_at (cy := cy) (tt := tt) (α := α) h1
        rw [s_im_l] at h4
        have e9 : s_lv vs i.toNatClampNeg = x := by simp [s_lv, h2]
        refine va_lald hx hb hK.1 hP a 2 h4 rfl h3 hd ?_
        rw [e9]
        exact kk _ hl
      · cases h
    · cases h
  case baload =>
    have e := s_res_pl rfl hr
    subst e
    obtain rfl := of_decide_eq_true hn
    replace h : s_ba _ ls st M = _ := h
    unfold s_ba at h
    split at h
    · rename_i i a r9
      split at h
      · rename_i x hv9
        cases h
        obtain ⟨k, vs, h1, hk, h0, h2, h3⟩ := s_at_at hv9
        rcases (Bool.or_eq_true _ _).mp hk with hk | hk
        · obtain rfl := Nat.eq_of_beq_eq_true hk
          have h4 := s_img_at (cy := cy) (tt := tt) (α := α) h1
          rw [s_im_b] at h4
          have e9 : s_iv vs i.toNatClampNeg = x := by simp [s_iv, h2]
          refine va_bald hx hb hK.1 hP a 0 h4 rfl h3 hd ?_
          rw [e9]
          exact kk _ hl
        · obtain rfl := Nat.eq_of_beq_eq_true hk
          have h4 := s_img_at (cy := cy) (tt := tt) (α := α) h1
          rw [s_im_z] at h4
          have e9 : s_iv vs i.toNatClampNeg = x := by simp [s_iv, h2]
          refine va_zald hx hb hK.1 hP a 4 h4 rfl h3 hd ?_
          rw [e9]
          exact kk _ hl
      · cases h
    · cases h
  case aaload =>
    have e := s_res_pl rfl hr
    subst e
    obtain rfl := of_decide_eq_true hn
    replace h : s_aa _ ls st M = _ := h
    unfold s_aa at h
    split at h
    · rename_i i a r9
      split at h
      · rename_i x hv9
        cases h
        obtain ⟨k, vs, h1, hk, h0, h2, h3⟩ := s_at_at hv9
        have h4 := s_img_at (cy := cy) (tt := tt) (α := α) h1
        have hk17 : 17 ≤ k := Nat.le_of_ble_eq_true ((Bool.and_eq_true _ _).mp hk).1
        have hk19 : k ≤ 19 := Nat.le_of_ble_eq_true ((Bool.and_eq_true _ _).mp hk).2
        rw [s_im_q hk17] at h4
        obtain ⟨C9, hC9⟩ := s_tys_q (cy := cy) hk17 hk19
        refine va_aldq hx hb hK.1 hP a (k - 12) h4 hC9 h3 hd ?_
        rw [show s_qv α vs i.toNatClampNeg = some (α x) by simp [s_qv, h2]]
        exact kk _ hl
      · rename_i hv9
        cases h
        obtain ⟨k, vs, h1, hk, h0, h2, h3⟩ := s_at_at hv9
        have h4 := s_img_at (cy := cy) (tt := tt) (α := α) h1
        have hk17 : 17 ≤ k := Nat.le_of_ble_eq_true ((Bool.and_eq_true _ _).mp hk).1
        have hk19 : k ≤ 19 := Nat.le_of_ble_eq_true ((Bool.and_eq_true _ _).mp hk).2
        rw [s_im_q hk17] at h4
        obtain ⟨C9, hC9⟩ := s_tys_q (cy := cy) hk17 hk19
        refine va_aldq hx hb hK.1 hP a (k - 12) h4 hC9 h3 hd ?_
        rw [show s_qv α vs i.toNatClampNeg = none by simp [s_qv, h2]]
        exact kk _ hl
      · cases h
    · cases h
  case arraylength =>
    have e := s_res_pl rfl hr
    subst e
    obtain rfl := of_decide_eq_true hn
    replace h : s_len E _ ls st M = _ := h
    unfold s_len at h
    split at h
    · rename_i a r9
      split at h
      · rename_i q hq9
        cases hz9 : (Nat.ble 12 q.1 && Nat.ble q.1 19) with
        | true =>
          rw [hz9] at h
          cases h
          have h12 : 12 ≤ q.1 := Nat.le_of_ble_eq_true ((Bool.and_eq_true _ _).mp hz9).1
          have h19 : q.1 ≤ 19 := Nat.le_of_ble_eq_true ((Bool.and_eq_true _ _).mp hz9).2
          have h4 := s_img_at (cy := cy) (tt := tt) (α := α) hq9
          rw [show s_im cy tt α q = .inl (cy q.1, s_arr α q.1 q.2) from if_neg (Nat.not_lt.mpr h12)] at h4
          obtain ⟨ty9, h5⟩ := s_tys_at (cy := cy) h12 h19
          exact va_alen hx hb hK.1 hP a (q.1 - 12) h4 h5 rfl hd (kk _ hl)
        | false => rw [hz9] at h; cases h
      · cases h
    · rename_i j r9
      cases hz9 : Nat.blt j (E 3).1 with
      | true =>
        rw [hz9] at h
        cases h
        exact va_tlen hx hb (hT.2 j (Nat.le_of_ble_eq_true hz9)) hS rfl hd (kk _ hl)
      | false => rw [hz9] at h; cases h
    · cases h
  all_goals exact nomatch (show none = some _ from h)
end S9
