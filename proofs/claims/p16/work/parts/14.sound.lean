/-! THE SMALL MACHINE IS SOUND: what it answers, the machine answers -/
def s_lnC (cd : sCode) : Bool := cd.all (fun l => l.all (fun o => match o with
  | some i => s_ln2 i.1 i.2
  | none => true))
def s_Ld (cd : sCode) : Prop := ∀ (pc : Nat) (i : sI), s_fetch cd pc = some i → s_ln2 i.1 i.2 = true
theorem s_Ld_of {cd : sCode} (h : s_lnC cd = true) : s_Ld cd := by
  intro pc i hi
  unfold s_fetch at hi
  split at hi
  · rename_i l hl
    split at hi
    · rename_i o ho
      have h1 := List.all_eq_true.mp h l (List.mem_of_getElem? hl)
      have h2 := List.all_eq_true.mp h1 o (List.mem_of_getElem? ho)
      subst hi
      exact h2
    · cases hi
  · cases hi
set_option maxRecDepth 100000 in
theorem s_ents_ln : s_ents.all (fun l => l.all (fun e => s_lnC e.1.2.2.2)) = true := by decide +kernel
theorem s_ent_ln {z : Nat} {e : sMeth × sMT} (h : s_ent z = some e) : s_Ld e.1.2.2.2 := by
  unfold s_ent at h
  split at h
  · rename_i l hl
    have h1 := List.all_eq_true.mp s_ents_ln l (List.mem_of_getElem? hl)
    have h2 := List.all_eq_true.mp h1 e (List.mem_of_getElem? h)
    exact s_Ld_of h2
  · cases h
theorem s_prog_ent {z : Nat} {ν : sMeth} (h : s_prog z = some ν) : ∃ e, s_ent z = some e ∧ e.1 = ν := by
  unfold s_prog at h
  split at h
  · rename_i l hl
    split at h
    · rename_i e he
      cases h
      exact ⟨e, by unfold s_ent; rw [hl]; exact he, rfl⟩
    · cases h
  · cases h
theorem s_goodG {w : Cond} (h : w ∈ s_G) : (w.onTables && w.keeps) = true ∨ ∃ ty, w = .arrayClass ty := good_of_word (List.mem_filter.mp h).2
theorem s_GG {w : Cond} (h : w ∈ s_G) : GoodIn s_G (w :: s_G) := fun x hx => (List.mem_cons.mp hx).elim (fun e => by subst e; exact ⟨h, s_goodG h⟩) (fun hx => ⟨hx, s_goodG hx⟩)
theorem s_mok_sp {e : sMeth × sMT} (h : s_mok e = true) : plainName e.2.1.1.cls = true ∧ Cond.code e.2.1.1 e.2.1.2 e.1.1 e.1.2.1 ∈ s_G ∧ s_Cd e.2.2.1.1 e.2.2.1.2.1 e.2.1.2 e.1.2.2.2 ∧ (parseMethodDescriptor e.2.1.1.desc).map (fun d => d.parameters.length) = some e.2.2.1.2.2.2 ∧ e.2.1.1.cls = s_cn e.2.2.1.1 ∧ (e.2.1.1.cls ≠ "java/lang/invoke/MethodHandle" ∧ e.2.1.1.cls ≠ "java/lang/invoke/VarHandle") ∧ Cond.initialized e.2.1.1.cls ∈ s_G ∧ (e.2.2.1.2.2.1 = true → Cond.static e.2.1.1 ∈ s_G) ∧ (e.2.2.1.2.2.1 = false → Cond.instanceMethod e.2.1.1 ∈ s_G) ∧ (e.2.2.1.2.2.1 = false → e.2.2.1.2.1 = false → Cond.selects e.2.1.1.cls e.2.1.1 e.2.1.1 ∈ s_G ∧ e.2.2.1.1 = e.1.2.2.1 ∧ e.1.2.2.1 < 12) ∧ (e.2.2.1.2.1 = true → e.2.1.1.name = "<init>" ∧ e.1.2.1 = none ∧ e.2.2.1.2.2.1 = false) := by
  unfold s_mok at h
  simp only [Bool.and_eq_true, decide_eq_true_eq] at h
  obtain ⟨h1, h2, h3, h4, h5, h6, h7, h8, h9, h10⟩ := h
  refine ⟨h1, s_atG h2 rfl, s_Cd_of h3, h4, h5, h6, s_atG h7 rfl, fun hs => ?_, fun hs => ?_, fun hs hi => ?_, fun hi => ?_⟩
  · rw [hs] at h8
    exact s_atG (of_decide_eq_true h8) rfl
  · rw [hs] at h8
    exact s_atG (of_decide_eq_true h8) rfl
  · rw [hs, hi] at h9
    simp only [Bool.false_or, Bool.and_eq_true, decide_eq_true_eq] at h9
    exact ⟨s_atG h9.1 rfl, h9.2.1, h9.2.2⟩
  · rw [hi] at h10
    simp only [Bool.not_true, Bool.false_or, Bool.and_eq_true, decide_eq_true_eq, Bool.not_eq_true'] at h10
    exact ⟨h10.1.1, h10.1.2, h10.2⟩
theorem s_cat_sum {tt α : Nat → Nat} {r : List Value} : ((r.map (s_tr tt α)).map fun v => v.category).sum = (r.map fun v => v.category).sum := by
  rw [List.map_map]
  exact congrArg List.sum (List.map_congr_left fun v _ => s_tr_cat tt α v)
theorem s_sl_len {tt α : Nat → Nat} {as : List Value} : (lg_sl (as.map (s_tr tt α))).length = (lg_sl as).length := by
  unfold lg_sl
  induction as with
  | nil => rfl
  | cons v vs ih =>
    simp only [List.map_cons, List.flatMap_cons, List.length_append, ih, s_tr_cat]
    by_cases h : v.category = 2 <;> simp [h]
theorem s_args_tr {tt α : Nat → Nat} {as : List Value} : ∀ k, lv_args k (as.map (s_tr tt α)) = s_trl tt α (lv_args k as) := by
  induction as with
  | nil => intro k; rfl
  | cons v vs ih =>
    intro k
    simp only [List.map_cons, lv_args, s_trl, s_tr_cat]
    refine congrArg (fun z => (k, s_tr tt α v) :: z) (ih _)
theorem s_kVat {o x w : Nat} (h : s_look s_tV o x = some w) : ∃ e, s_ent (w / 8) = some e ∧ Cond.methodLink (s_cn o) x e.2.1.1 ∈ s_G ∧ e.2.2.1.2.2.2 = w % 8 ∧ e.2.2.1.2.1 = false ∧ e.2.2.1.2.2.1 = false := by
  obtain ⟨p, hp⟩ := s_look_mem h
  have h1 := List.all_eq_true.mp s_kV_ok _ hp
  unfold s_kV at h1
  dsimp only at h1
  split at h1
  · rename_i e he
    simp only [Bool.and_eq_true, decide_eq_true_eq, Bool.not_eq_true'] at h1
    exact ⟨e, he, s_atG h1.1 rfl, h1.2.1, h1.2.2.1, h1.2.2.2⟩
  · cases h1
theorem s_kIat {o x w : Nat} (h : s_look s_tI o x = some w) (hw : w ≠ 0) : ∃ e, s_ent (w / 8) = some e ∧ Cond.methodLink (s_cn o) x e.2.1.1 ∈ s_G ∧ e.2.2.1.2.2.2 = w % 8 ∧ e.2.2.1.2.1 = true := by
  obtain ⟨p, hp⟩ := s_look_mem h
  have h1 := List.all_eq_true.mp s_kI_ok _ hp
  unfold s_kI at h1
  dsimp only at h1
  have hb : Nat.beq w 0 = false := by
    cases hz : Nat.beq w 0 with
    | true => exact absurd (Nat.eq_of_beq_eq_true hz) hw
    | false => rfl
  rw [hb, cond_false] at h1
  split at h1
  · rename_i e he
    simp only [Bool.and_eq_true, decide_eq_true_eq] at h1
    exact ⟨e, he, s_atG h1.1 rfl, h1.2.1, h1.2.2⟩
  · cases h1
theorem s_kI0 {o x : Nat} (h : s_look s_tI o x = some 0) : Cond.methodLink (s_cn o) x Lib.objectInit ∈ s_G := by
  obtain ⟨p, hp⟩ := s_look_mem h
  have h1 := List.all_eq_true.mp s_kI_ok _ hp
  unfold s_kI at h1
  dsimp only at h1
  rw [show Nat.beq 0 0 = true from rfl, cond_true] at h1
  exact s_atG (of_decide_eq_true h1) rfl
theorem s_kTat {o x w : Nat} (h : s_look s_tT o x = some w) : ∃ e, s_ent (w / 8) = some e ∧ Cond.methodLink (s_cn o) x e.2.1.1 ∈ s_G ∧ e.2.2.1.2.2.2 = w % 8 ∧ e.2.2.1.2.2.1 = true := by
  obtain ⟨p, hp⟩ := s_look_mem h
  have h1 := List.all_eq_true.mp s_kT_ok _ hp
  unfold s_kT at h1
  dsimp only at h1
  split at h1
  · rename_i e he
    simp only [Bool.and_eq_true, decide_eq_true_eq] at h1
    exact ⟨e, he, s_atG h1.1 rfl, h1.2.1, h1.2.2⟩
  · cases h1
theorem s_kHat {o x w : Nat} (h : s_look s_tH o x = some w) : ∃ e, s_ent (w / 8) = some e ∧ s_nest = Cond.methodLinkNest (s_cn o) x e.2.1.1 "OldestLaw" ∧ e.2.2.1.2.2.2 = w % 8 ∧ e.2.2.1.2.2.1 = true := by
  obtain ⟨p, hp⟩ := s_look_mem h
  have h1 := List.all_eq_true.mp s_kH_ok _ hp
  unfold s_kH at h1
  dsimp only at h1
  split at h1
  · rename_i e he
    simp only [Bool.and_eq_true, decide_eq_true_eq] at h1
    exact ⟨e, he, h1.1, h1.2.1, h1.2.2⟩
  · cases h1
theorem s_kNat {o x w : Nat} (h : s_look s_tN o x = some w) : w < 3 ∧ Cond.methodLink (s_cn o) x (if w = 0 then arraycopyName else if w = 1 then Lib.Math.min.name else Lib.Math.max.name) ∈ s_G := by
  obtain ⟨p, hp⟩ := s_look_mem h
  have h1 := List.all_eq_true.mp s_kN_ok _ hp
  unfold s_kN at h1
  simp only [Bool.and_eq_true, decide_eq_true_eq] at h1
  exact ⟨h1.2, s_atG h1.1 rfl⟩
theorem s_res_static {o : Nat} {ini : Bool} {r : Jvm.ClassFile.Instr} {i : Jvm.ClassFile.Instr} (h : s_res o ini r = some i) : (∀ w, i = .invokestatic w → ∃ x, r = .invokestatic x ∧ s_look s_tT o x = some w) ∧ (∀ w, i = .invokedynamic w → ∃ x, r = .invokestatic x ∧ s_look s_tN o x = some w) ∧ (∀ w k, i = .invokeinterface w k → ∃ x, r = .invokestatic x ∧ s_look s_tH o x = some w) := by
  cases r
  case invokestatic x =>
    unfold s_res at h
    dsimp only at h
    split at h
    · rename_i n hn
      cases h
      exact ⟨fun w e => by (cases e; exact ⟨x, rfl, hn⟩), fun w e => by (cases e), fun w k e => by (cases e)⟩
    · split at h
      · rename_i n hn
        cases h
        exact ⟨fun w e => by (cases e), fun w e => by (cases e; exact ⟨x, rfl, hn⟩), fun w k e => by (cases e)⟩
      · rw [Option.map_eq_some_iff] at h
        obtain ⟨n, hn, e⟩ := h
        cases e
        exact ⟨fun w e => by (cases e), fun w e => by (cases e), fun w k e => by cases e; exact ⟨x, rfl, hn⟩⟩
  case putfield x =>
    unfold s_res at h
    dsimp only at h
    split at h
    · rename_i n hn
      cases hf : s_fin n with
      | true =>
        rw [hf] at h
        cases hg : (ini && decide (s_cn o = s_cn (n / 64))) with
        | true => rw [hg] at h; cases h; exact ⟨fun w e => by (cases e), fun w e => by (cases e), fun w k e => by cases e⟩
        | false => rw [hg] at h; cases h
      | false => rw [hf] at h; cases h; exact ⟨fun w e => by (cases e), fun w e => by (cases e), fun w k e => by cases e⟩
    · cases h
  all_goals first
    | (have h : none = some i := h; cases h; done)
    | (have h : some _ = some i := h; cases h; exact ⟨fun w e => by (cases e), fun w e => by (cases e), fun w k e => by cases e⟩)
    | (unfold s_res at h
       dsimp only at h
       rw [Option.map_eq_some_iff] at h
       obtain ⟨n, hn, e⟩ := h
       cases e
       exact ⟨fun w e => by (cases e), fun w e => by (cases e), fun w k e => by cases e⟩)
def s_Pc (E : sE) (D : va_G) (cy tt α : Nat → Nat) (M : sM) (as : List Value) (sz : Nat) : Array Value → State → Prop := va_Pc (as.map (s_tr tt α)) (fun U => U.heap.size = sz ∧ va_P D vwCl (s_img cy tt α M) U.heap ∧ s_Kx D cy U ∧ va_D (fun _ => True) (s_img cy tt α M) ∧ s_Tx E tt (va_A (s_img cy tt α M) sz) U U.heap)
def s_Qc (D : va_G) (cy tt α : Nat → Nat) (n : Nat) (o : Option Value) (M' : sM) (A : Nat → Prop) : Array Value → State → Outcome → State → Prop := fun _ st oc t => (∃ β : Nat → Nat, (∀ i, i < n → β i = α i) ∧ oc = .returned (o.map (s_tr tt β)) ∧ va_P D vwCl (s_img cy tt β M') t.heap ∧ va_D A (s_img cy tt β M')) ∧ va_F A st t
abbrev s_rm (d mc ms : Nat) : Room := { frames := d, cells := mc, slots := ms, locals := 64 * d }
def s_Mt (l : Launch) (n : Nat) : Prop := ∀ (d z : Nat) (e : sMeth × sMT) (as : List Value) (M M' : sM) (o : Option Value) (E : sE) (D : va_G) (cy tt α : Nat → Nat) (sz mc ms : Nat), s_ent z = some e → s_x s_prog s_fty s_ft E n d e.1 0 (lv_args 0 as) [] M = some (o, M') → (lg_sl as).length ≤ e.1.1 → s_lok M.length as → s_Mok M.length M → M'.length = M.length + mc → s_slots M' = s_slots M + ms →
  Met l e.2.1.1 (Cond.code e.2.1.1 e.2.1.2 e.1.1 e.1.2.1 :: s_G) (s_rm d mc ms) (s_Pc E D cy tt α M as sz) (s_Qc D cy tt α M.length o M' (va_A (s_img cy tt α M) sz)) mc ms (va_A (s_img cy tt α M) sz)
def s_ro (rt : Option FieldType) (o : Option Value) (r : Jvm.ClassFile.Instr) : Prop := (∃ x, r = .ireturn ∧ o = some (.int x) ∧ s_rv rt (.int x) = true) ∨ (∃ x, r = .lreturn ∧ o = some (.long x) ∧ s_rv rt (.long x) = true) ∨ (∃ x, r = .areturn ∧ o = some (.ref x) ∧ s_rv rt (.ref x) = true) ∨ (r = .areturn ∧ o = some .null ∧ s_rv rt .null = true) ∨ (r = .return_ ∧ o = none ∧ rt = none)
def s_Fp (l : Launch) (n : Nat) : Prop := ∀ (p : Program) (e : Env) (R : Room) (s : State) (m : MethodId) (args : Array Value) (below : List Frame) (meth : Method) (c : Code) (Q : State → Prop) (own : Nat) (ini : Bool) (cc : ByteArray) (D : va_G) (cy tt : Nat → Nat) (E : sE) (A : Nat → Prop) (μ : sMeth) (MC MS : Nat) (o : Option Value) (M' : sM) (α0 : Nat → Nat) (n0 : Nat),
  s_Fr p s m args meth c own ini cc μ.1 → s_Cd own ini cc μ.2.2.2 → s_Ld μ.2.2.2 → s_Kx D cy s → s_Tx E tt A s s.heap → (∀ q, s.heap.size ≤ q → A q) → MC ≤ R.cells → MS ≤ R.slots →
  (∀ (β : Nat → Nat) (H : Heap) (locs : List Loc) (pc : Nat) (lsR : Array Slot) (r : Jvm.ClassFile.Instr), (∀ i, i < n0 → β i = α0 i) → va_P D vwCl (s_img cy tt β M') H → va_D A (s_img cy tt β M') → va_S A s.heap H locs → s_ro μ.2.1 o r → decode cc pc = .ok (r, 1) → W p l e R s m args below meth c H locs MC MS Q (F0 m pc lsR ((o.map (s_tr tt β)).toList))) →
  ∀ (d pc : Nat) (ls : sL) (st : List Value) (M : sM) (α : Nat → Nat) (H : Heap) (locs : List Loc) (cells slots : Nat) (lsR : Array Slot), d ≤ R.frames → 64 * d ≤ R.locals → n0 ≤ M.length → (∀ i, i < n0 → α i = α0 i) → s_sok M.length ls → s_lok M.length st → s_Mok M.length M → va_P D vwCl (s_img cy tt α M) H → va_D A (s_img cy tt α M) → va_S A s.heap H locs → lv_has lsR μ.1 (s_trl tt α ls) →
  s_x s_prog s_fty s_ft E n d μ pc ls st M = some (o, M') → cells + M'.length ≤ MC + M.length → slots + s_slots M' ≤ MS + s_slots M → W p l e R s m args below meth c H locs cells slots Q (F0 m pc lsR (st.map (s_tr tt α)))
theorem s_Pc_blind {E : sE} {D : va_G} {cy tt α : Nat → Nat} {M : sM} {as : List Value} {sz : Nat} : FrameBlind (s_Pc E D cy tt α M as sz) := fun a U g mk h =>
  ⟨h.1, h.2.1, h.2.2.1, h.2.2.2.1.same (u := U) (U := U.calling g mk a) rfl, h.2.2.2.2.1, (fun j hj => va_Z.moved (u := U) (U := U.calling g mk a) (Vm.Alike.refl U.vm) (h.2.2.2.2.2.1 j hj)), (fun j hj => va_T.moved (u := U) (U := U.calling g mk a) (Vm.Alike.refl U.vm) (h.2.2.2.2.2.2 j hj))⟩
section S14
variable {p : Program} {l : Launch} {e : Env} {R : Room} {s : State} {m : MethodId} {args : Array Value} {below : List Frame} {meth : Method} {c : Code} {H : Heap} {locs : List Loc} {cells slots : Nat} {Q : State → Prop}
variable {own mx : Nat} {ini : Bool} {cc : ByteArray} {D : va_G} {cy tt α : Nat → Nat} {E : sE} {A : Nat → Prop} {M M2 : sM}
theorem s_inA (hD : va_D A (s_img cy tt α M)) (hS : va_S A s.heap H locs) (hA : ∀ q, s.heap.size ≤ q → A q) : ∀ q, va_A (s_img cy tt α M) H.size q → A q := fun q h => h.elim (fun ⟨k, z, hk⟩ => hD.2 k _ hk) (fun h => hA q (Nat.le_trans hS.1 h))
theorem s_run {mc ms pc : Nat} {ls : Array Slot} {st0 rest : List Value} {a : Array Value} {v : Option Value} (hr : va_Run p l e R s m args below meth c H locs cells slots mc ms (F0 m pc ls st0) rest (s_Qc D cy tt α M.length v M2 (va_A (s_img cy tt α M) H.size) a) (va_A (s_img cy tt α M) H.size)) (hD : va_D A (s_img cy tt α M)) (hS : va_S A s.heap H locs) (hA : ∀ q, s.heap.size ≤ q → A q)
    (kk : ∀ (β : Nat → Nat) (H1 : Heap) (locs1 : List Loc), (∀ i, i < M.length → β i = α i) → va_P D vwCl (s_img cy tt β M2) H1 → va_D A (s_img cy tt β M2) → va_S A s.heap H1 locs1 → W p l e R s m args below meth c H1 locs1 (cells + mc) (slots + ms) Q (F0 m (pc + 3) ls ((v.map (s_tr tt β)).toList ++ rest))) : W p l e R s m args below meth c H locs cells slots Q (F0 m pc ls st0) := by
  intro T hT X
  obtain ⟨v', st₀, t, T', L, h0, X', hL, e1, e2, ⟨⟨β, hβ, hv, hP1, hD1⟩, hz, hk⟩, st⟩ := hr T hT X
  cases hv
  rw [h0] at hz hk
  have hin := s_inA hD hS hA
  have hsz := hS.1
  obtain ⟨t2, a1, b1⟩ := kk β T'.heap (locs ++ L) hβ (by rw [e1]; exact hP1) (hD1.weaken (fun _ _ _ h => hin _ h))
    ⟨Nat.le_trans hS.1 (by rw [e1]; exact hz), fun q h1 h2 => by rw [e1, hk q (Nat.lt_of_lt_of_le h1 hS.1) (fun z => h2 (hin q z))]; exact hS.2.1 q h1 h2, fun q hq => by
      rcases List.mem_append.mp hq with h | h
      · exact hS.2.2 q h
      · exact hin _ (hL q h)⟩ T' rfl X'
  exact ⟨t2, st t2 a1, b1⟩
theorem s_pre {as : List Value} (hK : s_Kx D cy s) (hT : s_Tx E tt A s s.heap) (hP : va_P D vwCl (s_img cy tt α M) H) (hD : va_D A (s_img cy tt α M)) (hS : va_S A s.heap H locs) (hA : ∀ q, s.heap.size ≤ q → A q) : ∀ U : State, U.heap = H → s.WarmedH U.vm → s_Pc E D cy tt α M as H.size (as.map (s_tr tt α)).toArray U := fun U hU hW => by
  refine ⟨rfl, by rw [hU], by rw [hU]; exact hP, hK.warm hW, hD.weaken (fun _ _ _ _ => trivial), ?_⟩
  rw [hU]
  exact hT.go hS (s_inA hD hS hA) hW.alike
theorem s_Fr.fix (hF : s_Fr p s m args meth c own ini cc mx) : CallFix p m c cc mx s args s_G (s_cn own) := ⟨hF.1, hF.2.1, hF.2.2.1, hF.2.2.2.1, hF.2.2.2.2.1⟩
end S14
