/-! THE IMAGE of the small machine's cells in the machine's heap: place i of the list lies at address α i; the read-only rows lie at tt j. -/
def s_tr (tt α : Nat → Nat) : Value → Value
  | .ref a => .ref (α a)
  | .retAddr j => .ref (tt j)
  | v => v
theorem s_tr_cat (tt α : Nat → Nat) (v : Value) : (s_tr tt α v).category = v.category := by cases v <;> rfl
def s_trl (tt α : Nat → Nat) (l : sL) : List (Nat × Value) := l.map (fun q => (q.1, s_tr tt α q.2))
def s_iv (vs : List Value) (j : Nat) : Int32 := match vs[j]? with
  | some (.int x) => x
  | _ => 0
def s_lv (vs : List Value) (j : Nat) : Int64 := match vs[j]? with
  | some (.long x) => x
  | _ => 0
def s_qv (α : Nat → Nat) (vs : List Value) (j : Nat) : Option Nat := match vs[j]? with
  | some (.ref a) => some (α a)
  | _ => none
def s_arr (α : Nat → Nat) (k : Nat) (vs : List Value) : vp_A := (vs.length, if k = 14 then .inr (.inl (s_lv vs)) else if k < 17 then .inl (s_iv vs) else .inr (.inr (.inr (.inr (s_qv α vs)))))
def s_im (cy : Nat → ClassId) (tt α : Nat → Nat) (c : sC) : va_E := if c.1 < 12 then .inr (c.1, c.2.map (s_tr tt α)) else .inl (cy c.1, s_arr α c.1 c.2)
def s_img (cy : Nat → ClassId) (tt α : Nat → Nat) (M : sM) : va_W := M.mapIdx (fun i c => (α i, s_im cy tt α c))
def s_up (α : Nat → Nat) (n q : Nat) : Nat → Nat := fun i => if i = n then q else α i
theorem s_img_at {cy : Nat → ClassId} {tt α : Nat → Nat} {M : sM} {a : Nat} {c : sC} (h : M[a]? = some c) : (s_img cy tt α M)[a]? = some (α a, s_im cy tt α c) := by
  simp [s_img, List.getElem?_mapIdx, h]
theorem s_img_set {cy : Nat → ClassId} {tt α : Nat → Nat} {M : sM} {a : Nat} {c : sC} : (s_img cy tt α M).set a (α a, s_im cy tt α c) = s_img cy tt α (M.set a c) := by
  apply List.ext_getElem?
  intro i
  simp only [s_img, List.getElem?_set, List.getElem?_mapIdx, List.length_mapIdx]
  by_cases h : a = i
  · subst h
    by_cases h2 : a < M.length <;> simp [h2]
  · simp [h]
/-- references lie within n cells -/
def s_vok (n : Nat) (v : Value) : Prop := ∀ a, v = .ref a → a < n
def s_lok (n : Nat) (l : List Value) : Prop := ∀ v ∈ l, s_vok n v
def s_sok (n : Nat) (l : sL) : Prop := ∀ q ∈ l, s_vok n q.2
def s_Mok (n : Nat) (M : sM) : Prop := ∀ c ∈ M, s_lok n c.2
theorem s_vok_i {n : Nat} {x : Int32} : s_vok n (.int x) := fun _ h => by cases h
theorem s_vok_l {n : Nat} {x : Int64} : s_vok n (.long x) := fun _ h => by cases h
theorem s_vok_n {n : Nat} : s_vok n .null := fun _ h => by cases h
theorem s_vok_t {n j : Nat} : s_vok n (.retAddr j) := fun _ h => by cases h
theorem s_vok_r {n a : Nat} (h : a < n) : s_vok n (.ref a) := fun _ e => by cases e; exact h
theorem s_vok_le {n k : Nat} {v : Value} (h : n ≤ k) (hv : s_vok n v) : s_vok k v := fun a e => Nat.lt_of_lt_of_le (hv a e) h
theorem s_lok_le {n k : Nat} {v : List Value} (h : n ≤ k) (hv : s_lok n v) : s_lok k v := fun a e => s_vok_le h (hv a e)
theorem s_sok_le {n k : Nat} {v : sL} (h : n ≤ k) (hv : s_sok n v) : s_sok k v := fun a e => s_vok_le h (hv a e)
theorem s_Mok_le {n k : Nat} {v : sM} (h : n ≤ k) (hv : s_Mok n v) : s_Mok k v := fun a e => s_lok_le h (hv a e)
theorem s_lok_c {n : Nat} {v : Value} {l : List Value} : s_lok n (v :: l) ↔ s_vok n v ∧ s_lok n l := List.forall_mem_cons
theorem s_lok_nil {n : Nat} : s_lok n [] := fun _ h => by cases h
theorem s_lok_app {n : Nat} {a b : List Value} (ha : s_lok n a) (hb : s_lok n b) : s_lok n (a ++ b) := fun v h => (List.mem_append.mp h).elim (ha v) (hb v)
theorem s_tr_eq {tt α β : Nat → Nat} {n : Nat} {v : Value} (h : ∀ i, i < n → β i = α i) (hv : s_vok n v) : s_tr tt β v = s_tr tt α v := by
  cases v <;> first | rfl | exact congrArg Value.ref (h _ (hv _ rfl))
theorem s_trs_eq {tt α β : Nat → Nat} {n : Nat} {l : List Value} (h : ∀ i, i < n → β i = α i) (hl : s_lok n l) : l.map (s_tr tt β) = l.map (s_tr tt α) :=
  List.map_congr_left fun v hv => s_tr_eq h (hl v hv)
theorem s_trl_eq {tt α β : Nat → Nat} {n : Nat} {l : sL} (h : ∀ i, i < n → β i = α i) (hl : s_sok n l) : s_trl tt β l = s_trl tt α l :=
  List.map_congr_left fun q hq => by rw [s_tr_eq h (hl q hq)]
theorem s_qv_eq {α β : Nat → Nat} {n : Nat} {vs : List Value} (h : ∀ i, i < n → β i = α i) (hl : s_lok n vs) : s_qv β vs = s_qv α vs := by
  funext j
  unfold s_qv
  cases hj : vs[j]? with
  | none => rfl
  | some v =>
    have := hl v (List.mem_of_getElem? hj)
    cases v <;> first | rfl | exact congrArg some (h _ (this _ rfl))
theorem s_im_eq {cy : Nat → ClassId} {tt α β : Nat → Nat} {n : Nat} {c : sC} (h : ∀ i, i < n → β i = α i) (hl : s_lok n c.2) : s_im cy tt β c = s_im cy tt α c := by
  unfold s_im s_arr
  rw [s_trs_eq h hl, s_qv_eq h hl]
theorem s_img_eq {cy : Nat → ClassId} {tt α β : Nat → Nat} {M : sM} (h : ∀ i, i < M.length → β i = α i) (hM : s_Mok M.length M) : s_img cy tt β M = s_img cy tt α M := by
  apply List.ext_getElem?
  intro i
  simp only [s_img, List.getElem?_mapIdx]
  cases hi : M[i]? with
  | none => rfl
  | some c =>
    have hlt : i < M.length := (List.getElem?_eq_some_iff.mp hi).1
    simp only [Option.map_some]
    rw [h i hlt, s_im_eq h (hM c (List.mem_of_getElem? hi))]
theorem s_up_ne {α : Nat → Nat} {n q i : Nat} (h : i < n) : s_up α n q i = α i := if_neg (Nat.ne_of_lt h)
theorem s_img_push {cy : Nat → ClassId} {tt α : Nat → Nat} {M : sM} {q : Nat} {c : sC} (hM : s_Mok M.length M) (hc : s_lok M.length c.2) : s_img cy tt α M ++ [(q, s_im cy tt α c)] = s_img cy tt (s_up α M.length q) (M ++ [c]) := by
  have e1 := s_img_eq (cy := cy) (tt := tt) (α := α) (β := s_up α M.length q) (M := M) (fun i hi => s_up_ne hi) hM
  have e2 := s_im_eq (cy := cy) (tt := tt) (α := α) (β := s_up α M.length q) (n := M.length) (c := c) (fun i hi => s_up_ne hi) hc
  rw [← e1, ← e2]
  apply List.ext_getElem?
  intro i
  simp only [s_img, List.mapIdx_append, List.length_mapIdx]
  simp [s_up]
/-! what the tables say -/
def s_G : List Cond := lw_tbl.filter goodWord
theorem s_inG {w : Cond} (h : w ∈ lw_tbl) (g : goodWord w = true) : w ∈ s_G := List.mem_filter.mpr ⟨h, g⟩
theorem s_atG {w : Cond} {i : Nat} (h : lw_tbl[i]? = some w) (g : goodWord w = true) : w ∈ s_G := s_inG (List.mem_of_getElem? h) g
abbrev s_tys (cy : Nat → ClassId) : List (ClassId × FieldType) := [(cy 12, .byte), (cy 13, .int), (cy 14, .long), (cy 15, .short), (cy 16, .boolean), (cy 17, .object RX0), (cy 18, .object RX4), (cy 19, .object RX6)]
abbrev s_nest : Cond := .methodLinkNest "OldestLaw$Shelf" 66 ⟨"OldestLaw", "isSaying", "(I)Z"⟩ "OldestLaw"
def s_Kx (D : va_G) (cy : Nat → ClassId) (U : State) : Prop := va_K D vwCl (s_tys cy) U ∧ va_AO RX0 U ∧ va_AO RX4 U ∧ va_AO RX6 U ∧ va_Nw s_nest U
theorem s_Kx.warm {D : va_G} {cy : Nat → ClassId} {s U : State} (hW : s.WarmedH U.vm) (h : s_Kx D cy s) : s_Kx D cy U :=
  ⟨va_K.moved hW.alike h.1, h.2.1.moved hW.alike, h.2.2.1.moved hW.alike, h.2.2.2.1.moved hW.alike, va_Nw.warmM hW h.2.2.2.2⟩
theorem s_Kx.same {D : va_G} {cy : Nat → ClassId} {u U : State} (h : u.vm = U.vm) (hK : s_Kx D cy u) : s_Kx D cy U :=
  ⟨va_K.moved (by rw [h]; exact Vm.Alike.refl U.vm) hK.1, hK.2.1.moved (by rw [h]; exact Vm.Alike.refl U.vm), hK.2.2.1.moved (by rw [h]; exact Vm.Alike.refl U.vm), hK.2.2.2.1.moved (by rw [h]; exact Vm.Alike.refl U.vm), va_Nw.same rfl h hK.2.2.2.2⟩
abbrev s_stn (j : Nat) : String := if j = 0 then "ABOVE" else "OWN"
def s_Tx (E : sE) (tt : Nat → Nat) (A : Nat → Prop) (U : State) (H : Heap) : Prop := (∀ j, j < 2 → va_Z "OldestLaw$Clauses" (s_stn j) "[I" (.ref (tt j)) A U H) ∧ ∀ j, j < (E 3).1 → va_T .int (tt j) (E j).1 (fun i => .int ((E j).2 i)) A U H
theorem s_Tx.go {E : sE} {tt : Nat → Nat} {A B : Nat → Prop} {s U : State} {H : Heap} {locs : List Loc} (h : s_Tx E tt A s s.heap) (hS : va_S A s.heap H locs) (hAB : ∀ q, B q → A q) (hv : s.vm.Alike U.vm) : s_Tx E tt B U H :=
  ⟨fun j hj => (((h.1 j hj).kept (fun a h1 h2 => hS.2.1 a h1 h2)).narrow hAB).moved hv, fun j hj => (((h.2 j hj).kept (fun a h1 h2 => hS.2.1 a h1 h2)).narrow hAB).moved hv⟩
/-- what is fixed while a method runs -/
def s_Fr (p : Program) (s : State) (m : MethodId) (args : Array Value) (meth : Method) (c : Code) (own : Nat) (ini : Bool) (cc : ByteArray) (mx : Nat) : Prop :=
  p.tables.exec = Jvm.exec ∧ c.code = cc ∧ c.maxLocals = mx ∧ s.vm.findClass (s_cn own) = some m.cls ∧ (∀ w ∈ s_G, w.before args s = true) ∧ (ini = true → meth.name = "<init>")
def s_Cd (own : Nat) (ini : Bool) (cc : ByteArray) (cd : sCode) : Prop := ∀ (pc : Nat) (i : sI), s_fetch cd pc = some i → ∃ r, decode cc pc = .ok (r, i.2) ∧ s_res own ini r = some i.1
theorem s_fetch_lt {cd : sCode} {pc : Nat} {i : sI} (h : s_fetch cd pc = some i) : pc < 16 * cd.length := by
  unfold s_fetch at h
  split at h
  · rename_i l hl
    have := (List.getElem?_eq_some_iff.mp hl).1
    omega
  · cases h
theorem s_Cd_of {own : Nat} {ini : Bool} {cc : ByteArray} {cd : sCode} (h : s_chk own ini cc cd = true) : s_Cd own ini cc cd := by
  intro pc i hi
  have h1 := List.all_eq_true.mp h pc (List.mem_range.mpr (s_fetch_lt hi))
  unfold s_chk1 at h1
  rw [hi] at h1
  dsimp only at h1
  split at h1
  · rename_i r hr
    rw [Bool.and_eq_true] at h1
    have e1 := of_decide_eq_true h1.1
    have e2 := of_decide_eq_true h1.2
    exact ⟨r.1, by rw [hr, ← e1], e2⟩
  · cases h1
theorem s_look_mem {t : List (Nat × (Nat × (Nat × Nat)))} {o i v : Nat} (h : s_look t o i = some v) : ∃ p, (o, i, v, p) ∈ t := by
  induction t with
  | nil => cases h
  | cons q r ih =>
    unfold s_look at h
    cases hb : Nat.beq q.1 o && Nat.beq q.2.1 i with
    | true =>
      rw [hb] at h
      rw [Bool.and_eq_true] at hb
      have e1 := Nat.eq_of_beq_eq_true hb.1
      have e2 := Nat.eq_of_beq_eq_true hb.2
      obtain ⟨a, b, c, d⟩ := q
      cases h
      subst e1; subst e2
      exact ⟨d, List.mem_cons_self⟩
    | false =>
      rw [hb] at h
      obtain ⟨p, hp⟩ := ih h
      exact ⟨p, List.mem_cons_of_mem _ hp⟩
def s_kF (q : Nat × (Nat × (Nat × Nat))) : Bool := match vwCl[q.2.2.1 / 64]? with
  | some c => decide (lw_tbl[q.2.2.2]? = some (.fieldLink (s_cn q.1) q.2.1 c.1 (c.2.1 (q.2.2.1 % 64)).2.1 (c.2.1 (q.2.2.1 % 64)).2.2.1)) && (decide ((c.2.1 (q.2.2.1 % 64)).1 = c.1) && decide (q.2.2.1 % 64 < c.2.2))
  | none => false
set_option maxRecDepth 100000 in
theorem s_kF_ok : s_tF.all s_kF = true := by decide +kernel
def s_kS (q : Nat × (Nat × (Nat × Nat))) : Bool := decide (lw_tbl[q.2.2.2]? = some (.fieldLink (s_cn q.1) q.2.1 "OldestLaw$Clauses" (s_stn q.2.2.1) "[I")) && decide (q.2.2.1 < 2)
set_option maxRecDepth 100000 in
theorem s_kS_ok : s_tS.all s_kS = true := by decide +kernel
def s_kV (q : Nat × (Nat × (Nat × Nat))) : Bool := match s_ent (q.2.2.1 / 8) with
  | some e => decide (lw_tbl[q.2.2.2]? = some (.methodLink (s_cn q.1) q.2.1 e.2.1.1)) && (decide (e.2.2.1.2.2.2 = q.2.2.1 % 8) && (!e.2.2.1.2.1 && !e.2.2.1.2.2.1))
  | none => false
set_option maxRecDepth 100000 in
theorem s_kV_ok : s_tV.all s_kV = true := by decide +kernel
def s_kI (q : Nat × (Nat × (Nat × Nat))) : Bool := bif Nat.beq q.2.2.1 0 then decide (lw_tbl[q.2.2.2]? = some (.methodLink (s_cn q.1) q.2.1 Lib.objectInit)) else match s_ent (q.2.2.1 / 8) with
  | some e => decide (lw_tbl[q.2.2.2]? = some (.methodLink (s_cn q.1) q.2.1 e.2.1.1)) && (decide (e.2.2.1.2.2.2 = q.2.2.1 % 8) && e.2.2.1.2.1)
  | none => false
set_option maxRecDepth 100000 in
theorem s_kI_ok : s_tI.all s_kI = true := by decide +kernel
def s_kT (q : Nat × (Nat × (Nat × Nat))) : Bool := match s_ent (q.2.2.1 / 8) with
  | some e => decide (lw_tbl[q.2.2.2]? = some (.methodLink (s_cn q.1) q.2.1 e.2.1.1)) && (decide (e.2.2.1.2.2.2 = q.2.2.1 % 8) && e.2.2.1.2.2.1)
  | none => false
set_option maxRecDepth 100000 in
theorem s_kT_ok : s_tT.all s_kT = true := by decide +kernel
def s_kH (q : Nat × (Nat × (Nat × Nat))) : Bool := match s_ent (q.2.2.1 / 8) with
  | some e => decide (s_nest = .methodLinkNest (s_cn q.1) q.2.1 e.2.1.1 "OldestLaw") && (decide (e.2.2.1.2.2.2 = q.2.2.1 % 8) && e.2.2.1.2.2.1)
  | none => false
set_option maxRecDepth 100000 in
theorem s_kH_ok : s_tH.all s_kH = true := by decide +kernel
def s_kN (q : Nat × (Nat × (Nat × Nat))) : Bool := decide (lw_tbl[q.2.2.2]? = some (.methodLink (s_cn q.1) q.2.1 (if q.2.2.1 = 0 then arraycopyName else if q.2.2.1 = 1 then Lib.Math.min.name else Lib.Math.max.name))) && decide (q.2.2.1 < 3)
set_option maxRecDepth 100000 in
theorem s_kN_ok : s_tN.all s_kN = true := by decide +kernel
def s_kC (q : Nat × (Nat × (Nat × Nat))) : Bool := match vwCl[q.2.2.1]? with
  | some c => decide (lw_tbl[q.2.2.2]? = some (.classLink (s_cn q.1) q.2.1 c.1))
  | none => false
set_option maxRecDepth 100000 in
theorem s_kC_ok : s_tC.all s_kC = true := by decide +kernel
abbrev s_ac0 (k : Nat) : String := if k = 17 then RX0 else if k = 18 then RX4 else RX6
def s_kA (q : Nat × (Nat × (Nat × Nat))) : Bool := decide (lw_tbl[q.2.2.2]? = some (.classLink (s_cn q.1) q.2.1 (s_ac0 q.2.2.1))) && decide (17 ≤ q.2.2.1 ∧ q.2.2.1 ≤ 19)
set_option maxRecDepth 100000 in
theorem s_kA_ok : s_tA.all s_kA = true := by decide +kernel
def s_kK (q : Nat × (Nat × (Nat × Nat))) : Bool := decide (lw_tbl[q.2.2.2]? = some (.constant (s_cn q.1) q.2.1 (Int32.ofNat q.2.2.1)))
set_option maxRecDepth 100000 in
theorem s_kK_ok : s_tK.all s_kK = true := by decide +kernel
def s_kL (q : Nat × (Nat × (Nat × Nat))) : Bool := decide (lw_tbl[q.2.2.2]? = some (.constantLong (s_cn q.1) q.2.1 (Int64.ofNat q.2.2.1)))
set_option maxRecDepth 100000 in
theorem s_kL_ok : s_tL.all s_kL = true := by decide +kernel
