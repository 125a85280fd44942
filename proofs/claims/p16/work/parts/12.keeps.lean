/-! WHAT A RUN KEEPS: references lie within, cells are never fewer -/
theorem s_get_ok {n k : Nat} {ls : sL} {v : Value} (a : s_sok n ls) (h : s_get ls k = some v) : s_vok n v := a _ (s_get_mem h)
theorem s_set_ok {n k : Nat} {ls : sL} {v : Value} (a : s_sok n ls) (h : s_vok n v) : s_sok n (s_set ls k v) := fun q hq => by
  rcases List.mem_cons.mp hq with rfl | hq
  · exact h
  · exact a q (List.mem_filter.mp hq).1
theorem s_setL_ok {n k : Nat} {ls : sL} {v : Value} (a : s_sok n ls) (h : s_vok n v) : s_sok n (s_setL ls k v) := fun q hq => by
  rcases List.mem_cons.mp hq with rfl | hq
  · exact h
  · exact a q (List.mem_filter.mp hq).1
theorem s_fld_ok {n a k : Nat} {M : sM} {v : Value} (b : s_Mok n M) (h : s_fld M a k = some v) : s_vok n v := by
  obtain ⟨fs, h1, h2⟩ := s_fld_at h
  exact b _ (List.mem_of_getElem? h1) _ (List.mem_of_getElem? h2)
theorem s_at_ok {n a : Nat} {i : Int32} {ok : Nat → Bool} {M : sM} {v : Value} (b : s_Mok n M) (h : s_at M a i ok = some v) : s_vok n v := by
  obtain ⟨k, vs, h1, -, -, h2, -⟩ := s_at_at h
  exact b _ (List.mem_of_getElem? h1) _ (List.mem_of_getElem? h2)
section S12
variable {n : Nat} {k mx p P : Nat} {ls ls' : sL} {st st' : List Value} {M : sM} {E : sE}
theorem s_i1_ok {f : Int32 → Value} (hf : ∀ x, s_vok n (f x)) (h : s_i1 st f p ls = some (P, ls', st')) (a : s_sok n ls) (b : s_lok n st) : s_sok n ls' ∧ s_lok n st' := by
  unfold s_i1 at h
  split at h
  · cases h; exact ⟨a, s_lok_c.mpr ⟨hf _, (s_lok_c.mp b).2⟩⟩
  · cases h
theorem s_i2_ok {f : Int32 → Int32 → Int32} (h : s_i2 st f p ls = some (P, ls', st')) (a : s_sok n ls) (b : s_lok n st) : s_sok n ls' ∧ s_lok n st' := by
  unfold s_i2 at h
  split at h
  · cases h; exact ⟨a, s_lok_c.mpr ⟨s_vok_i, (s_lok_c.mp (s_lok_c.mp b).2).2⟩⟩
  · cases h
theorem s_l2_ok {f : Int64 → Int64 → Int64} (h : s_l2 st f p ls = some (P, ls', st')) (a : s_sok n ls) (b : s_lok n st) : s_sok n ls' ∧ s_lok n st' := by
  unfold s_l2 at h
  split at h
  · cases h; exact ⟨a, s_lok_c.mpr ⟨s_vok_l, (s_lok_c.mp (s_lok_c.mp b).2).2⟩⟩
  · cases h
theorem s_li_ok {f : Int64 → Int32 → Int64} (h : s_li st f p ls = some (P, ls', st')) (a : s_sok n ls) (b : s_lok n st) : s_sok n ls' ∧ s_lok n st' := by
  unfold s_li at h
  split at h
  · cases h; exact ⟨a, s_lok_c.mpr ⟨s_vok_l, (s_lok_c.mp (s_lok_c.mp b).2).2⟩⟩
  · cases h
theorem s_ild_ok (h : s_ild k p ls st = some (P, ls', st')) (a : s_sok n ls) (b : s_lok n st) : s_sok n ls' ∧ s_lok n st' := by
  unfold s_ild at h
  split at h
  · cases h; exact ⟨a, s_lok_c.mpr ⟨s_vok_i, b⟩⟩
  · cases h
theorem s_lld_ok (h : s_lld k p ls st = some (P, ls', st')) (a : s_sok n ls) (b : s_lok n st) : s_sok n ls' ∧ s_lok n st' := by
  unfold s_lld at h
  split at h
  · cases h; exact ⟨a, s_lok_c.mpr ⟨s_vok_l, b⟩⟩
  · cases h
theorem s_ald_ok (h : s_ald k p ls st = some (P, ls', st')) (a : s_sok n ls) (b : s_lok n st) : s_sok n ls' ∧ s_lok n st' := by
  unfold s_ald at h
  split at h
  · rename_i x hx; cases h; exact ⟨a, s_lok_c.mpr ⟨s_get_ok a hx, b⟩⟩
  · cases h; exact ⟨a, s_lok_c.mpr ⟨s_vok_n, b⟩⟩
  · cases h; exact ⟨a, s_lok_c.mpr ⟨s_vok_t, b⟩⟩
  · cases h
theorem s_ist_ok (h : s_ist mx k p ls st = some (P, ls', st')) (a : s_sok n ls) (b : s_lok n st) : s_sok n ls' ∧ s_lok n st' := by
  unfold s_ist at h
  split at h
  · cases hb : Nat.blt k mx with
    | true => rw [hb] at h; cases h; exact ⟨s_set_ok a s_vok_i, (s_lok_c.mp b).2⟩
    | false => rw [hb] at h; cases h
  · cases h
theorem s_lst_ok (h : s_lst mx k p ls st = some (P, ls', st')) (a : s_sok n ls) (b : s_lok n st) : s_sok n ls' ∧ s_lok n st' := by
  unfold s_lst at h
  split at h
  · cases hb : Nat.blt (k + 1) mx with
    | true => rw [hb] at h; cases h; exact ⟨s_setL_ok a s_vok_l, (s_lok_c.mp b).2⟩
    | false => rw [hb] at h; cases h
  · cases h
theorem s_ast_ok (h : s_ast mx k p ls st = some (P, ls', st')) (a : s_sok n ls) (b : s_lok n st) : s_sok n ls' ∧ s_lok n st' := by
  unfold s_ast at h
  split at h
  · cases hb : Nat.blt k mx with
    | true => rw [hb] at h; cases h; exact ⟨s_set_ok a (s_lok_c.mp b).1, (s_lok_c.mp b).2⟩
    | false => rw [hb] at h; cases h
  · cases hb : Nat.blt k mx with
    | true => rw [hb] at h; cases h; exact ⟨s_set_ok a s_vok_n, (s_lok_c.mp b).2⟩
    | false => rw [hb] at h; cases h
  · cases h
theorem s_iinc_ok {z : Int} (h : s_iinc mx k z p ls st = some (P, ls', st')) (a : s_sok n ls) (b : s_lok n st) : s_sok n ls' ∧ s_lok n st' := by
  unfold s_iinc at h
  split at h
  · cases hb : Nat.blt k mx with
    | true => rw [hb] at h; cases h; exact ⟨s_set_ok a s_vok_i, b⟩
    | false => rw [hb] at h; cases h
  · cases h
theorem s_gf_ok (h : s_gf k p ls st M = some (P, ls', st')) (a : s_sok n ls) (b : s_lok n st) (c : s_Mok n M) : s_sok n ls' ∧ s_lok n st' := by
  unfold s_gf at h
  split at h
  · split at h
    · rename_i v hv; cases h; exact ⟨a, s_lok_c.mpr ⟨s_fld_ok c hv, (s_lok_c.mp b).2⟩⟩
    · cases h
  · cases h
theorem s_ia_ok (h : s_ia E p ls st M = some (P, ls', st')) (a : s_sok n ls) (b : s_lok n st) : s_sok n ls' ∧ s_lok n st' := by
  unfold s_ia at h
  split at h
  · split at h
    · cases h; exact ⟨a, s_lok_c.mpr ⟨s_vok_i, (s_lok_c.mp (s_lok_c.mp b).2).2⟩⟩
    · cases h
  · rename_i i j r
    cases hb : (!decide (i < 0) && (Nat.blt i.toNatClampNeg (E j).1 && Nat.blt j (E 3).1)) with
    | true => rw [hb] at h; cases h; exact ⟨a, s_lok_c.mpr ⟨s_vok_i, (s_lok_c.mp (s_lok_c.mp b).2).2⟩⟩
    | false => rw [hb] at h; cases h
  · cases h
theorem s_ba_ok (h : s_ba p ls st M = some (P, ls', st')) (a : s_sok n ls) (b : s_lok n st) : s_sok n ls' ∧ s_lok n st' := by
  unfold s_ba at h
  split at h
  · split at h
    · cases h; exact ⟨a, s_lok_c.mpr ⟨s_vok_i, (s_lok_c.mp (s_lok_c.mp b).2).2⟩⟩
    · cases h
  · cases h
theorem s_sa_ok (h : s_sa p ls st M = some (P, ls', st')) (a : s_sok n ls) (b : s_lok n st) : s_sok n ls' ∧ s_lok n st' := by
  unfold s_sa at h
  split at h
  · split at h
    · cases h; exact ⟨a, s_lok_c.mpr ⟨s_vok_i, (s_lok_c.mp (s_lok_c.mp b).2).2⟩⟩
    · cases h
  · cases h
theorem s_la_ok (h : s_la p ls st M = some (P, ls', st')) (a : s_sok n ls) (b : s_lok n st) : s_sok n ls' ∧ s_lok n st' := by
  unfold s_la at h
  split at h
  · split at h
    · cases h; exact ⟨a, s_lok_c.mpr ⟨s_vok_l, (s_lok_c.mp (s_lok_c.mp b).2).2⟩⟩
    · cases h
  · cases h
theorem s_aa_ok (h : s_aa p ls st M = some (P, ls', st')) (a : s_sok n ls) (b : s_lok n st) (c : s_Mok n M) : s_sok n ls' ∧ s_lok n st' := by
  unfold s_aa at h
  split at h
  · split at h
    · rename_i x hx; cases h; exact ⟨a, s_lok_c.mpr ⟨s_at_ok c hx, (s_lok_c.mp (s_lok_c.mp b).2).2⟩⟩
    · cases h; exact ⟨a, s_lok_c.mpr ⟨s_vok_n, (s_lok_c.mp (s_lok_c.mp b).2).2⟩⟩
    · cases h
  · cases h
theorem s_len_ok (h : s_len E p ls st M = some (P, ls', st')) (a : s_sok n ls) (b : s_lok n st) : s_sok n ls' ∧ s_lok n st' := by
  unfold s_len at h
  split at h
  · split at h
    · rename_i q hq
      cases hb : (Nat.ble 12 q.1 && Nat.ble q.1 19) with
      | true => rw [hb] at h; cases h; exact ⟨a, s_lok_c.mpr ⟨s_vok_i, (s_lok_c.mp b).2⟩⟩
      | false => rw [hb] at h; cases h
    · cases h
  · rename_i j r
    cases hb : Nat.blt j (E 3).1 with
    | true => rw [hb] at h; cases h; exact ⟨a, s_lok_c.mpr ⟨s_vok_i, (s_lok_c.mp b).2⟩⟩
    | false => rw [hb] at h; cases h
  · cases h
theorem s_jump_ok {o : Option Nat} {r : List Value} (h : s_jump o ls r = some (P, ls', st')) (a : s_sok n ls) (b : s_lok n r) : s_sok n ls' ∧ s_lok n st' := by
  obtain ⟨rfl, rfl, -⟩ := s_jp_sp h
  exact ⟨a, b⟩
theorem s_lkup_ok {d : Int} {ps : Array (Int × Int)} {pc : Nat} (h : s_lkup d ps pc ls st = some (P, ls', st')) (a : s_sok n ls) (b : s_lok n st) : s_sok n ls' ∧ s_lok n st' := by
  unfold s_lkup at h
  split at h
  · cases hz : (ps.toList.zip (ps.toList.drop 1)).all (fun q => decide (q.1.1 < q.2.1)) with
    | true => rw [hz] at h; exact s_jump_ok h a (s_lok_c.mp b).2
    | false => rw [hz] at h; cases h
  · cases h
theorem s_tsw_ok {d lo hi : Int} {os : Array Int} {pc : Nat} (h : s_tsw d lo hi os pc ls st = some (P, ls', st')) (a : s_sok n ls) (b : s_lok n st) : s_sok n ls' ∧ s_lok n st' := by
  unfold s_tsw at h
  split at h
  · rename_i x r
    cases hz : (decide (x.toInt < lo) || decide (hi < x.toInt)) with
    | true => rw [hz] at h; exact s_jump_ok h a (s_lok_c.mp b).2
    | false =>
      rw [hz, cond_false] at h
      split at h
      · exact s_jump_ok h a (s_lok_c.mp b).2
      · cases h
  · cases h
set_option maxHeartbeats 4000000 in
theorem s_pure_ok {i : Jvm.ClassFile.Instr} {pc : Nat} (h : s_pure E mx i pc p ls st M = some (P, ls', st')) (a : s_sok n ls) (b : s_lok n st) (c : s_Mok n M) : s_sok n ls' ∧ s_lok n st' := by
  cases i
  case aload k => exact s_ald_ok (show s_ald k p ls st = _ from h) a b
  case aload_n k => exact s_ald_ok (show s_ald k.val p ls st = _ from h) a b
  case iload k => exact s_ild_ok (show s_ild k p ls st = _ from h) a b
  case iload_n k => exact s_ild_ok (show s_ild k.val p ls st = _ from h) a b
  case lload k => exact s_lld_ok (show s_lld k p ls st = _ from h) a b
  case lload_n k => exact s_lld_ok (show s_lld k.val p ls st = _ from h) a b
  case istore k => exact s_ist_ok (show s_ist mx k p ls st = _ from h) a b
  case istore_n k => exact s_ist_ok (show s_ist mx k.val p ls st = _ from h) a b
  case lstore k => exact s_lst_ok (show s_lst mx k p ls st = _ from h) a b
  case lstore_n k => exact s_lst_ok (show s_lst mx k.val p ls st = _ from h) a b
  case astore k => exact s_ast_ok (show s_ast mx k p ls st = _ from h) a b
  case astore_n k => exact s_ast_ok (show s_ast mx k.val p ls st = _ from h) a b
  case iinc k z => exact s_iinc_ok (show s_iinc mx k z p ls st = _ from h) a b
  case iconst z => cases h; exact ⟨a, s_lok_c.mpr ⟨s_vok_i, b⟩⟩
  case bipush z => cases h; exact ⟨a, s_lok_c.mpr ⟨s_vok_i, b⟩⟩
  case sipush z => cases h; exact ⟨a, s_lok_c.mpr ⟨s_vok_i, b⟩⟩
  case lconst z => cases h; exact ⟨a, s_lok_c.mpr ⟨s_vok_l, b⟩⟩
  case ldc z => cases h; exact ⟨a, s_lok_c.mpr ⟨s_vok_i, b⟩⟩
  case ldc_w z => cases h; exact ⟨a, s_lok_c.mpr ⟨s_vok_i, b⟩⟩
  case ldc2_w z => cases h; exact ⟨a, s_lok_c.mpr ⟨s_vok_l, b⟩⟩
  case aconst_null => cases h; exact ⟨a, s_lok_c.mpr ⟨s_vok_n, b⟩⟩
  case iadd => exact s_i2_ok (show s_i2 st _ p ls = _ from h) a b
  case isub => exact s_i2_ok (show s_i2 st _ p ls = _ from h) a b
  case imul => exact s_i2_ok (show s_i2 st _ p ls = _ from h) a b
  case iand => exact s_i2_ok (show s_i2 st _ p ls = _ from h) a b
  case ior => exact s_i2_ok (show s_i2 st _ p ls = _ from h) a b
  case ixor => exact s_i2_ok (show s_i2 st _ p ls = _ from h) a b
  case ishl => exact s_i2_ok (show s_i2 st _ p ls = _ from h) a b
  case ishr => exact s_i2_ok (show s_i2 st _ p ls = _ from h) a b
  case iushr => exact s_i2_ok (show s_i2 st _ p ls = _ from h) a b
  case idiv =>
    unfold s_pure at h
    dsimp only at h
    split at h
    · rename_i y r
      cases hy : decide (y = 0) with
      | true => rw [hy] at h; cases h
      | false => rw [hy] at h; exact s_i2_ok (show s_i2 _ _ p ls = _ from h) a b
    · cases h
  case irem =>
    unfold s_pure at h
    dsimp only at h
    split at h
    · rename_i y r
      cases hy : decide (y = 0) with
      | true => rw [hy] at h; cases h
      | false => rw [hy] at h; exact s_i2_ok (show s_i2 _ _ p ls = _ from h) a b
    · cases h
  case ineg => exact s_i1_ok (fun _ => s_vok_i) (show s_i1 st _ p ls = _ from h) a b
  case i2l => exact s_i1_ok (fun _ => s_vok_l) (show s_i1 st _ p ls = _ from h) a b
  case i2b => exact s_i1_ok (fun _ => s_vok_i) (show s_i1 st _ p ls = _ from h) a b
  case i2s => exact s_i1_ok (fun _ => s_vok_i) (show s_i1 st _ p ls = _ from h) a b
  case l2i =>
    unfold s_pure at h
    dsimp only at h
    split at h
    · cases h; exact ⟨a, s_lok_c.mpr ⟨s_vok_i, (s_lok_c.mp b).2⟩⟩
    · cases h
  case lcmp =>
    unfold s_pure at h
    dsimp only at h
    split at h
    · cases h; exact ⟨a, s_lok_c.mpr ⟨s_vok_i, (s_lok_c.mp (s_lok_c.mp b).2).2⟩⟩
    · cases h
  case ladd => exact s_l2_ok (show s_l2 st _ p ls = _ from h) a b
  case lsub => exact s_l2_ok (show s_l2 st _ p ls = _ from h) a b
  case land => exact s_l2_ok (show s_l2 st _ p ls = _ from h) a b
  case lor => exact s_l2_ok (show s_l2 st _ p ls = _ from h) a b
  case lshl => exact s_li_ok (show s_li st _ p ls = _ from h) a b
  case lushr => exact s_li_ok (show s_li st _ p ls = _ from h) a b
  case dup =>
    unfold s_pure at h
    dsimp only at h
    split at h
    · rename_i v r
      cases hv : Nat.beq v.category 1 with
      | true => rw [hv] at h; cases h; exact ⟨a, s_lok_c.mpr ⟨(s_lok_c.mp b).1, b⟩⟩
      | false => rw [hv] at h; cases h
    · cases h
  case pop =>
    unfold s_pure at h
    dsimp only at h
    split at h
    · rename_i v r
      cases hv : Nat.beq v.category 1 with
      | true => rw [hv] at h; cases h; exact ⟨a, (s_lok_c.mp b).2⟩
      | false => rw [hv] at h; cases h
    · cases h
  case pop2 =>
    unfold s_pure at h
    dsimp only at h
    split at h
    · rename_i v r
      cases hv : Nat.beq v.category 2 with
      | true => rw [hv] at h; cases h; exact ⟨a, (s_lok_c.mp b).2⟩
      | false => rw [hv] at h; cases h
    · cases h
  case dup2 =>
    unfold s_pure at h
    dsimp only at h
    split at h
    · rename_i v w r
      cases hv : (Nat.beq v.category 1 && Nat.beq w.category 1) with
      | true => rw [hv] at h; cases h; exact ⟨a, s_lok_c.mpr ⟨(s_lok_c.mp b).1, s_lok_c.mpr ⟨(s_lok_c.mp (s_lok_c.mp b).2).1, b⟩⟩⟩
      | false => rw [hv] at h; cases h
    · cases h
  case goto off => exact s_jump_ok (show s_jump _ ls st = _ from h) a b
  case ifCond cnd off =>
    unfold s_pure at h
    dsimp only at h
    split at h
    · exact s_jump_ok h a (s_lok_c.mp b).2
    · cases h
  case if_icmp cnd off =>
    unfold s_pure at h
    dsimp only at h
    split at h
    · exact s_jump_ok h a (s_lok_c.mp (s_lok_c.mp b).2).2
    · cases h
  case ifnull off =>
    unfold s_pure at h
    dsimp only at h
    split at h
    · exact s_jump_ok h a (s_lok_c.mp b).2
    · cases h; exact ⟨a, (s_lok_c.mp b).2⟩
    · cases h
  case ifnonnull off =>
    unfold s_pure at h
    dsimp only at h
    split at h
    · cases h; exact ⟨a, (s_lok_c.mp b).2⟩
    · exact s_jump_ok h a (s_lok_c.mp b).2
    · cases h
  case lookupswitch d ps => exact s_lkup_ok (show s_lkup d ps pc ls st = _ from h) a b
  case tableswitch d lo hi os => exact s_tsw_ok (show s_tsw d lo hi os pc ls st = _ from h) a b
  case getfield k => exact s_gf_ok (show s_gf k p ls st M = _ from h) a b c
  case getstatic j =>
    unfold s_pure at h
    dsimp only at h
    cases hb : Nat.blt j 2 with
    | true => rw [hb] at h; cases h; exact ⟨a, s_lok_c.mpr ⟨s_vok_t, b⟩⟩
    | false => rw [hb] at h; cases h
  case iaload => exact s_ia_ok (show s_ia E p ls st M = _ from h) a b
  case baload => exact s_ba_ok (show s_ba p ls st M = _ from h) a b
  case saload => exact s_sa_ok (show s_sa p ls st M = _ from h) a b
  case laload => exact s_la_ok (show s_la p ls st M = _ from h) a b
  case aaload => exact s_aa_ok (show s_aa p ls st M = _ from h) a b c
  case arraylength => exact s_len_ok (show s_len E p ls st M = _ from h) a b
  all_goals exact nomatch (show none = some _ from h)
end S12
def s_slots (M : sM) : Nat := (M.map (fun c => c.2.length)).sum
theorem s_slots_set {M : sM} {a k : Nat} {vs ws : List Value} (h : M[a]? = some (k, vs)) (hl : ws.length = vs.length) : s_slots (M.set a (k, ws)) = s_slots M := by
  unfold s_slots
  refine congrArg List.sum ?_
  apply List.ext_getElem?
  intro i
  rw [List.getElem?_map, List.getElem?_map, List.getElem?_set]
  by_cases hi : a = i
  · subst hi
    rw [if_pos rfl, if_pos (List.getElem?_eq_some_iff.mp h).1, h]
    simp [hl]
  · rw [if_neg hi]
theorem s_slots_app {M : sM} {c : sC} : s_slots (M ++ [c]) = s_slots M + c.2.length := by
  unfold s_slots
  simp
theorem s_Mok_set {n a k : Nat} {M : sM} {ws : List Value} (h : s_Mok n M) (hw : s_lok n ws) : s_Mok n (M.set a (k, ws)) := fun c hc => by
  rcases List.mem_or_eq_of_mem_set hc with h1 | rfl
  · exact h c h1
  · exact hw
theorem s_lok_set {n j : Nat} {vs : List Value} {v : Value} (h : s_lok n vs) (hv : s_vok n v) : s_lok n (vs.set j v) := fun w hw => by
  rcases List.mem_or_eq_of_mem_set hw with h1 | rfl
  · exact h w h1
  · exact hv
/-- the same cells, of the same sizes -/
def s_same (n : Nat) (M M' : sM) : Prop := M'.length = M.length ∧ s_slots M' = s_slots M ∧ s_Mok n M'
theorem s_ps_ok {n : Nat} {M M' : sM} {a : Nat} {i : Int32} {v : Value} {ok : Nat → Bool} {r r' : List Value} (h : s_ps M a i v ok r = some (r', M')) (c : s_Mok n M) (hv : s_vok n v) (hr : s_lok n r) : s_lok n r' ∧ s_same n M M' := by
  obtain ⟨k, vs, h1, -, -, -, -, rfl, rfl⟩ := s_ps_sp h
  exact ⟨hr, List.length_set, s_slots_set h1 List.length_set, s_Mok_set c (s_lok_set (c _ (List.mem_of_getElem? h1)) hv)⟩
theorem s_pf_ok {n k : Nat} {f : Nat → Nat → FieldType} {M M' : sM} {st r' : List Value} (h : s_pf f k st M = some (r', M')) (b : s_lok n st) (c : s_Mok n M) : s_lok n r' ∧ s_same n M M' := by
  unfold s_pf at h
  split at h
  · rename_i v a r
    split at h
    · rename_i q hq
      cases hz : (Nat.beq q.1 (k / 64) && (s_fit (f (k / 64) (k % 64)) v && Nat.blt (k % 64) q.2.length)) with
      | true =>
        rw [hz] at h
        cases h
        exact ⟨(s_lok_c.mp (s_lok_c.mp b).2).2, List.length_set, s_slots_set hq List.length_set, s_Mok_set c (s_lok_set (c _ (List.mem_of_getElem? hq)) (s_lok_c.mp b).1)⟩
      | false => rw [hz] at h; cases h
    · cases h
  · cases h
theorem s_wr_ok {n : Nat} {f : Nat → Nat → FieldType} {i : Jvm.ClassFile.Instr} {M M' : sM} {st r' : List Value} (h : s_wr f i st M = some (r', M')) (b : s_lok n st) (c : s_Mok n M) : s_lok n r' ∧ s_same n M M' := by
  cases i
  case putfield k => exact s_pf_ok (show s_pf f k st M = _ from h) b c
  case putstatic k => exact s_pf_ok (show s_pf f k st M = _ from h) b c
  case iastore =>
    unfold s_wr at h
    dsimp only at h
    split at h
    · exact s_ps_ok h c s_vok_i (s_lok_c.mp (s_lok_c.mp (s_lok_c.mp b).2).2).2
    · cases h
  case sastore =>
    unfold s_wr at h
    dsimp only at h
    split at h
    · exact s_ps_ok h c s_vok_i (s_lok_c.mp (s_lok_c.mp (s_lok_c.mp b).2).2).2
    · cases h
  case lastore =>
    unfold s_wr at h
    dsimp only at h
    split at h
    · exact s_ps_ok h c s_vok_l (s_lok_c.mp (s_lok_c.mp (s_lok_c.mp b).2).2).2
    · cases h
  case bastore =>
    unfold s_wr at h
    dsimp only at h
    split at h
    · rename_i x j a r
      cases hz : Nat.beq (s_kd M a) 12 with
      | true => rw [hz, cond_true] at h; exact s_ps_ok h c s_vok_i (s_lok_c.mp (s_lok_c.mp (s_lok_c.mp b).2).2).2
      | false => rw [hz, cond_false] at h; exact s_ps_ok h c s_vok_i (s_lok_c.mp (s_lok_c.mp (s_lok_c.mp b).2).2).2
    · cases h
  case aastore =>
    unfold s_wr at h
    dsimp only at h
    split at h
    · exact s_ps_ok h c (s_lok_c.mp b).1 (s_lok_c.mp (s_lok_c.mp (s_lok_c.mp b).2).2).2
    · cases h
  all_goals exact nomatch (show none = some _ from h)
theorem s_ac_ok {n : Nat} {M M' : sM} {st r' : List Value} (h : s_ac st M = some (r', M')) (b : s_lok n st) (c : s_Mok n M) : s_lok n r' ∧ s_same n M M' := by
  obtain ⟨n1, dp, b1, sp, a, k, va, vb, rfl, h1, h2, -, -, -, -, h3, h4, -, rfl⟩ := s_ac_sp h
  have b5 := (s_lok_c.mp (s_lok_c.mp (s_lok_c.mp (s_lok_c.mp (s_lok_c.mp b).2).2).2).2).2
  have wa := c _ (List.mem_of_getElem? h1)
  have wb := c _ (List.mem_of_getElem? h2)
  refine ⟨b5, List.length_set, s_slots_set h2 (s_cpy_len h3 h4), s_Mok_set c (fun w hw => ?_)⟩
  unfold s_cpy at hw
  rcases List.mem_append.mp hw with hw | hw
  · exact wb _ (List.mem_of_mem_take hw)
  · rcases List.mem_append.mp hw with hw | hw
    · exact wa _ (List.mem_of_mem_drop (List.mem_of_mem_take hw))
    · exact wb _ (List.mem_of_mem_drop hw)
theorem s_al_sp {i : Jvm.ClassFile.Instr} {M M' : sM} {st r' : List Value} (h : s_al s_ft i st M = some (r', M')) : ∃ (c : sC) (r : List Value), M' = M ++ [c] ∧ r' = .ref M.length :: r ∧ (∀ n, s_lok n st → s_lok n r) ∧ ∀ n, s_lok n c.2 := by
  cases i
  case new k =>
    unfold s_al at h
    dsimp only at h
    split at h
    · rename_i q hq
      cases h
      exact ⟨_, _, rfl, rfl, fun _ h => h, fun n w hw => by
        obtain ⟨j, -, rfl⟩ := List.mem_map.mp hw
        exact s_dv_vok _⟩
    · cases h
  case newarray t =>
    unfold s_al at h
    dsimp only at h
    split at h
    · rename_i n r9
      split at h
      · rename_i q hq
        obtain ⟨-, -, rfl, rfl⟩ := s_na_sp h
        refine ⟨_, r9, rfl, rfl, fun _ h => (s_lok_c.mp h).2, fun n w hw => ?_⟩
        rw [(List.mem_replicate.mp hw).2]
        cases t <;> first | (cases hq; done) | (cases hq; exact s_vok_i) | (cases hq; exact s_vok_l)
      · cases h
    · cases h
  case anewarray k =>
    unfold s_al at h
    dsimp only at h
    split at h
    · rename_i n r9
      cases hz : (Nat.ble 17 k && Nat.ble k 19) with
      | true =>
        rw [hz] at h
        obtain ⟨-, -, rfl, rfl⟩ := s_na_sp h
        exact ⟨_, r9, rfl, rfl, fun _ h => (s_lok_c.mp h).2, fun n w hw => by rw [(List.mem_replicate.mp hw).2]; exact s_vok_n⟩
      | false => rw [hz] at h; cases h
    · cases h
  all_goals exact nomatch (show none = some _ from h)
theorem s_al_ok {i : Jvm.ClassFile.Instr} {M M' : sM} {st r' : List Value} (h : s_al s_ft i st M = some (r', M')) (b : s_lok M.length st) (c : s_Mok M.length M) : s_lok M'.length r' ∧ M'.length = M.length + 1 ∧ s_slots M' = s_slots M + s_newslots M M' ∧ s_Mok M'.length M' := by
  obtain ⟨q, r, rfl, rfl, h1, h2⟩ := s_al_sp h
  have hl : (M ++ [q]).length = M.length + 1 := by simp
  refine ⟨s_lok_c.mpr ⟨s_vok_r (by omega), s_lok_le (by omega) (h1 _ b)⟩, hl, ?_, ?_⟩
  · rw [s_slots_app]
    simp [s_newslots]
  · intro x hx
    rcases List.mem_append.mp hx with hx | hx
    · exact s_lok_le (by omega) (c x hx)
    · rw [List.mem_singleton.mp hx]; exact h2 _
theorem s_args_ok {n : Nat} {as : List Value} (h : s_lok n as) : ∀ k, s_sok n (lv_args k as) := by
  induction as with
  | nil => intro k q hq; cases hq
  | cons v vs ih =>
    intro k q hq
    rcases List.mem_cons.mp hq with rfl | hq
    · exact (s_lok_c.mp h).1
    · exact ih (s_lok_c.mp h).2 _ q hq
theorem s_split_sp : ∀ (n : Nat) (acc st as r : List Value), s_split n acc st = some (as, r) → as.reverse ++ r = acc.reverse ++ st ∧ as.length = acc.length + n := by
  intro n
  induction n with
  | zero => intro acc st as r h; cases h; exact ⟨rfl, rfl⟩
  | succ n ih =>
    intro acc st as r h
    cases st with
    | nil => cases h
    | cons v st =>
      obtain ⟨h1, h2⟩ := ih (v :: acc) st as r h
      refine ⟨by rw [h1]; simp, by rw [h2]; simp; omega⟩
theorem s_split_ok {n k : Nat} {st as r : List Value} (h : s_split k [] st = some (as, r)) (b : s_lok n st) : s_lok n as ∧ s_lok n r := by
  obtain ⟨h1, -⟩ := s_split_sp k [] st as r h
  have h2 : as.reverse ++ r = st := h1
  rw [← h2] at b
  exact ⟨fun v hv => b v (List.mem_append_left _ (List.mem_reverse.mpr hv)), fun v hv => b v (List.mem_append_right _ hv)⟩
theorem s_call_sp {rec : Nat → sMeth → Nat → sL → List Value → sM → sR} {d : Nat} {μ ν : sMeth} {p : Nat} {ls : sL} {as r : List Value} {M M' : sM} {o : Option Value} (h : s_call rec d μ ν p ls as r M = some (o, M')) : ∃ d' v M2, d = d' + 1 ∧ s_room ν.1 as r = true ∧ rec d' ν 0 (lv_args 0 as) [] M = some (v, M2) ∧ rec (d' + 1) μ p ls (v.toList ++ r) M2 = some (o, M') := by
  unfold s_call at h
  split at h
  · cases h
  · rename_i d'
    cases hz : s_room ν.1 as r with
    | true =>
      rw [hz, cond_true] at h
      split at h
      · rename_i v M2 h1
        exact ⟨d', some v, M2, rfl, rfl, h1, h⟩
      · rename_i M2 h1
        exact ⟨d', none, M2, rfl, rfl, h1, h⟩
      · cases h
    | false => rw [hz] at h; cases h
