/-! THE CLAIM OUT OF ONE WALK OF THE LAW'S BODY. Your part is whole_start (and what it stands on); all else here is the same for every law, but numbers. -/
def R_law : String := "OldestLawLaw"
def lw_P (b : Addr) (xs : List Int32) (args : Array Value) (s : State) : Prop := args = #[.ref b] ∧ s.IntsAt b xs ∧ xs.length ≤ 3072 ∧ (Jvm.Cond.and given_1 narrow_1).before args s = true
def lw_Q (_ : Array Value) (s : State) (o : Outcome) (t : State) : Prop := o = .returned (some (.int 1)) ∧ Framed s o t [] 600000 7302250
def lw_Z (below : List Frame) (a : Array Value) (s : State) : State → Prop := fun t => ∃ o, t.status = .running ∧ Ended t below o ∧ lw_Q a s o t
/-- the law's own end, with 1 on the stack, nothing written that was there before, its room as the claim has it -/
theorem lw_ret {p : Program} {l : Launch} {e : Env} {s : State} {m : MethodId} {below : List Frame} {meth : Method} {c : Code} {b : Nat} (hx : p.tables.exec = Jvm.exec) (hb : c.code = code) (hr : meth.sig.returnType = ret) (hlocks : meth.locks = false) {pc : Nat} {H : Heap} {ls : Array Slot} (hdg : decode code pc = .ok (.ireturn, 1)) : W p l e room_1 s m #[Value.ref b] below meth c H [] 600000 7302250 (lw_Z below #[Value.ref b] s) (F0 m pc ls [.int 1]) := by
  intro T hT X
  obtain ⟨fs, hret, hrun, hended, hW, hframe⟩ := X.leave (v := some (.int 1)) (hlocks := hlocks) (fun h => by rw [hr] at h; cases h)
  have hmeth' : T.vm.method? m = some meth := X.method'
  refine ⟨T.setFrames fs, ?_, .returned (some (.int 1)), hrun, hended, rfl, ⟨_, rfl⟩, hW, hframe⟩
  jvm_step X.here [X.here.top, hx, hb, hdg, hmeth', hr, ret, narrow_b1]
  (try refine ⟨rfl, ?_⟩); (try refine ⟨rfl, ?_⟩)
  first | (intro acts; rw [hret _ acts rfl rfl rfl]) | rw [hret _ _ rfl rfl rfl]
  exact Steps.refl _
/-- what holds at the law's entry: the machine, the code, the tables' words (any of lw_tbl by 'hts w (by decide +kernel)'), the script of L ints xs at the cell b, what the Statement gives of the start (any of its parts by flat_of_before) -/
def lw_At (p : Program) (s : State) (m : MethodId) (meth : Method) (c : Code) (b L : Nat) (xs : Nat → Int32) : Prop :=
  p.tables.exec = Jvm.exec ∧ c.code = code ∧ meth.sig.returnType = ret ∧ c.maxLocals = 4 ∧ s.vm.findClass R_law = some m.cls ∧ (∀ w ∈ lw_tbl, w.before #[Value.ref b] s = true) ∧ va_X b L xs s s.heap ∧ b < s.heap.size ∧ meth.locks = false ∧ (Jvm.Cond.and given_1 narrow_1).before #[Value.ref b] s = true
-- ===== YOUR PART BEGINS =====
theorem s_arrP {s : State} {args : Array Value} {ty : FieldType} (h : (Cond.arrayClass ty).before args s = true) (hty : ∀ C, ty ≠ .object C) : ∃ cA : ClassId, ArrOfT s cA ty ∧ va_RA s cA ty := by
  obtain ⟨cA, kA, comp, h1, h2, h3⟩ := Cond.arrayClass_spec h
  refine ⟨cA, fun n z => ⟨(fun k h => by cases h), kA, h2, comp, h3⟩, ?_⟩
  cases ty <;> first | exact h1 | exact absurd rfl (hty _)
theorem s_arrO {s : State} {C : String} (h : va_AO C s) : ∃ cA : ClassId, ArrOfT s cA (.object C) ∧ va_RA s cA (.object C) := by
  obtain ⟨comp, cA, kA, h1, h2, h3, h4, h5⟩ := Cond.arrayOver_spec h
  exact ⟨cA, fun n z => ⟨(fun k h => by cases h), kA, h3, comp, h4⟩, kA, comp, h3, h4, h1, h5⟩
theorem s_fX {args : Array Value} {s : State} {b L : Nat} {xs : Nat → Int32} {A : Nat → Prop} (hX : va_X b L xs s s.heap) (hbA : ¬ A b) : va_T .int b L (fun i => .int (xs i)) A s s.heap := by
  obtain ⟨scr, h1, h2, h3, h4, h5⟩ := hX
  exact ⟨scr, h1, h2, h3, by omega, h4 ▸ rfl, h5, hbA⟩
set_option maxRecDepth 100000 in
theorem s_stat {args : Array Value} {s : State} {f : String} {N : Nat} {v : List Int32} {A : Nat → Prop} (hN : N < 2 ^ 31) (hg : (Jvm.Cond.and given_1 narrow_1).before args s = true) (hm : Cond.arrayOf (.static "OldestLaw$Clauses" f "[I") .int ∈ flatC (Jvm.Cond.and given_1 narrow_1) ∧ Cond.eq (.length (.static "OldestLaw$Clauses" f "[I")) (.int (Int32.ofNat N)) ∈ flatC (Jvm.Cond.and given_1 narrow_1) ∧ ∀ j, j < N → Cond.eq (.elem (.static "OldestLaw$Clauses" f "[I") (.int (Int32.ofNat j))) (.int (v.getD j 0)) ∈ flatC (Jvm.Cond.and given_1 narrow_1))
    (hl : (Cond.laysStatic "OldestLaw$Clauses" f "[I").before args s = true) (hini : (Cond.initialized "OldestLaw$Clauses").before args s = true) (hA : ∀ a : Nat, a < s.heap.size → ¬ A a) : ∃ t : Nat, va_Z "OldestLaw$Clauses" f "[I" (.ref t) A s s.heap ∧ va_T .int t N (fun i => .int (v.getD i 0)) A s s.heap := by
  have hs := flat_of_before _ hg
  obtain ⟨t, e1, h1⟩ := va_Tof (f := fun i => .int (v.getD i 0)) hN (hs _ hm.1) (va_eqt (hs _ hm.2.1)) (fun j hj => va_eqt (hs _ (hm.2.2 j hj))) hA
  exact ⟨t, va_Zof hl hini e1 hA, h1⟩
set_option maxRecDepth 100000 in
theorem s_m0 : Cond.arrayOf (.static "OldestLaw$Clauses" "ABOVE" "[I") .int ∈ flatC (Jvm.Cond.and given_1 narrow_1) ∧ Cond.eq (.length (.static "OldestLaw$Clauses" "ABOVE" "[I")) (.int (Int32.ofNat 8)) ∈ flatC (Jvm.Cond.and given_1 narrow_1) ∧ ∀ j, j < 8 → Cond.eq (.elem (.static "OldestLaw$Clauses" "ABOVE" "[I") (.int (Int32.ofNat j))) (.int (s_above.getD j 0)) ∈ flatC (Jvm.Cond.and given_1 narrow_1) := by decide +kernel
set_option maxRecDepth 100000 in
theorem s_m1 : Cond.arrayOf (.static "OldestLaw$Clauses" "OWN" "[I") .int ∈ flatC (Jvm.Cond.and given_1 narrow_1) ∧ Cond.eq (.length (.static "OldestLaw$Clauses" "OWN" "[I")) (.int (Int32.ofNat 32)) ∈ flatC (Jvm.Cond.and given_1 narrow_1) ∧ ∀ j, j < 32 → Cond.eq (.elem (.static "OldestLaw$Clauses" "OWN" "[I") (.int (Int32.ofNat j))) (.int (s_own.getD j 0)) ∈ flatC (Jvm.Cond.and given_1 narrow_1) := by decide +kernel
set_option maxHeartbeats 4000000 in
set_option maxRecDepth 100000 in
/-- from the entry, for every script of at most 3072 ints, the law comes to its end with true -/
theorem whole_start {p : Program} {e : Env} {s : State} {m : MethodId} {below : List Frame} {meth : Method} {c : Code} (l : Launch) (hflags : l.flags = flags0) {b L : Nat} {xs : Nat → Int32} (hL : L ≤ 3072) (C0 : lw_At p s m meth c b L xs) : W p l e room_1 s m #[Value.ref b] below meth c s.heap [] 0 0 (lw_Z below #[Value.ref b] s) (entryFrame m ([Value.ref b] : List Value).toArray 4) := by
  obtain ⟨hx, hb, hr, hml, hown, hts, hX, hbl, hlocks, hgv⟩ := id C0
  have hG : ∀ w ∈ s_G, w.before #[Value.ref b] s = true := fun w hw => hts w (List.mem_filter.mp hw).1
  have hA : ∀ q : Nat, s.heap.size ≤ q → (fun q : Nat => s.heap.size ≤ q) q := fun _ h => h
  have hA0 : ∀ a : Nat, a < s.heap.size → ¬ (fun q : Nat => s.heap.size ≤ q) a := fun a h => Nat.not_le.mpr h
  have hkn : ∀ k : Nat, ∃ (cC : ClassId) (iS : Nat → Nat), ∀ q : vw_C, vwCl[k]? = some q → u_Kn s q.1 q.2.1 q.2.2 cC iS := by
    intro k
    cases hk : vwCl[k]? with
    | none => exact ⟨0, fun _ => 0, fun q h => by cases h⟩
    | some q =>
      obtain ⟨C, T, N⟩ := q
      obtain ⟨c1, c2, c3, c4, c5, c6, c7⟩ := s_clok hk
      obtain ⟨cC, iS, h1⟩ := u_known (C := C) (T := T) (N := N) (n := N) hG c1 (hG _ c4)
      exact ⟨cC, iS, fun q h => by cases h; exact h1⟩
  have h17 : va_AO RX0 s := va_AO.of (hts (.arrayOver (.object RX0)) (by decide +kernel))
  have h18 : va_AO RX4 s := va_AO.of (hts (.arrayOver (.object RX4)) (by decide +kernel))
  have h19 : va_AO RX6 s := va_AO.of (hts (.arrayOver (.object RX6)) (by decide +kernel))
  obtain ⟨c12, a12⟩ := s_arrP (hts (.arrayClass .byte) (by decide +kernel)) (fun _ h => by cases h)
  obtain ⟨c13, a13⟩ := s_arrP (hts (.arrayClass .int) (by decide +kernel)) (fun _ h => by cases h)
  obtain ⟨c14, a14⟩ := s_arrP (hts (.arrayClass .long) (by decide +kernel)) (fun _ h => by cases h)
  obtain ⟨c15, a15⟩ := s_arrP (hts (.arrayClass .short) (by decide +kernel)) (fun _ h => by cases h)
  obtain ⟨c16, a16⟩ := s_arrP (hts (.arrayClass .boolean) (by decide +kernel)) (fun _ h => by cases h)
  obtain ⟨c17, a17⟩ := s_arrO h17
  obtain ⟨c18, a18⟩ := s_arrO h18
  obtain ⟨c19, a19⟩ := s_arrO h19
  obtain ⟨t0, z0, T0⟩ := s_stat (N := 8) (v := s_above) (A := fun q : Nat => s.heap.size ≤ q) (by decide) hgv s_m0 (hts (.laysStatic "OldestLaw$Clauses" "ABOVE" "[I") (by decide +kernel)) (hts (.initialized "OldestLaw$Clauses") (by decide +kernel)) hA0
  obtain ⟨t1, z1, T1⟩ := s_stat (N := 32) (v := s_own) (A := fun q : Nat => s.heap.size ≤ q) (by decide) hgv s_m1 (hts (.laysStatic "OldestLaw$Clauses" "OWN" "[I") (by decide +kernel)) (hts (.initialized "OldestLaw$Clauses") (by decide +kernel)) hA0
  have T2 : va_T .int b L (fun i => .int (xs i)) (fun q : Nat => s.heap.size ≤ q) s s.heap := s_fX (args := #[]) hX (hA0 b hbl)
  let cy : Nat → ClassId := fun k => if k = 12 then c12 else if k = 13 then c13 else if k = 14 then c14 else if k = 15 then c15 else if k = 16 then c16 else if k = 17 then c17 else if k = 18 then c18 else c19
  let tt : Nat → Nat := fun j => if j = 0 then t0 else if j = 1 then t1 else b
  have hK : s_Kx (fun k => Classical.choose (hkn k), fun k => Classical.choose (Classical.choose_spec (hkn k))) cy s := by
    refine ⟨⟨fun k q hq => Classical.choose_spec (Classical.choose_spec (hkn k)) q hq, fun k q hk => ?_⟩, h17, h18, h19, va_Nw.of rfl (hts s_nest (by decide +kernel))⟩
    match k, hk with
    | 0, hk => cases hk; exact a12
    | 1, hk => cases hk; exact a13
    | 2, hk => cases hk; exact a14
    | 3, hk => cases hk; exact a15
    | 4, hk => cases hk; exact a16
    | 5, hk => cases hk; exact a17
    | 6, hk => cases hk; exact a18
    | 7, hk => cases hk; exact a19
    | k + 8, hk => simp [s_tys] at hk
  have hT : s_Tx (s_rows 3 L xs) tt (fun q : Nat => s.heap.size ≤ q) s s.heap := by
    refine ⟨fun j hj => ?_, fun j hj => ?_⟩
    · rcases (show j = 0 ∨ j = 1 by omega) with rfl | rfl
      · exact z0
      · exact z1
    · have hj : j < 3 := hj
      rcases (show j = 0 ∨ j = 1 ∨ j = 2 by omega) with rfl | rfl | rfl
      · exact T0
      · exact T1
      · exact T2
  have hl := lv_entry ([.ref b]) (n := 4) (Nat.le_of_ble_eq_true rfl)
  rw [lg_entry_eq]
  generalize (lg_sl ([.ref b]) ++ List.replicate (4 - (lg_sl ([.ref b])).length) Slot.unset).toArray = ls at hl ⊢
  obtain ⟨n, M', hrun, hl1, hl2⟩ := s_law_all hL xs
  refine s_main l n p e room_1 s m #[Value.ref b] below meth c (lw_Z below #[Value.ref b] s) 12 false code _ cy tt (s_rows 3 L xs) (fun q : Nat => s.heap.size ≤ q) s_law 600000 7302250 (some (.int 1)) M' (fun _ => 0) 0 ⟨hx, hb, hml, hown, hG, fun h => by cases h⟩ s_law_cd s_law_ld hK hT hA (Nat.le_refl _) (Nat.le_refl _) ?_ 1300 0 [(0, .retAddr 2)] [] [] (fun _ => 0) s.heap [] 0 0 ls (by decide) (by decide) (Nat.zero_le _) (fun i hi => absurd hi (Nat.not_lt_zero i)) (fun q hq => by cases hq with | head => exact s_vok_t | tail _ h => cases h) s_lok_nil (fun c hc => by cases hc) (fun k q h => by simp [s_img] at h) ⟨fun i j p q h => by simp [s_img] at h, fun k q h => by simp [s_img] at h⟩ va_S.rf hl hrun (by simpa using hl1) (by simpa [s_slots] using hl2)
  intro β H locs pc lsR r _ _ _ hS1 hro hd
  rcases hro with ⟨x, rfl, hx9, _⟩ | ⟨x, _, hx9, _⟩ | ⟨x, _, hx9, _⟩ | ⟨_, hx9, _⟩ | ⟨_, hx9, _⟩
  · cases hx9
    exact va_forget (fun q hq => hS1.2.2 q hq) (lw_ret hx hb hr hlocks hd)
  all_goals cases hx9
-- ===== YOUR PART ENDS =====
set_option maxHeartbeats 4000000 in
theorem lw_walk (l : Launch) (hflags : l.flags = flags0) (b : Addr) (xs : List Int32) : MetFree l x (headSpec (Jvm.Cond.code x code maxLocals ret :: tables_1) room_1) (lw_P b xs) (fun _ _ _ _ _ => True) lw_Q := by
  refine MetFree.of_bodyS (code := code) (maxLocals := maxLocals) (ret := ret) (by decide) ?_ ?_
  · intro args s m h hn
    obtain ⟨meth, c, h1, h2, h3, h4, h5, h6, -, -⟩ := Cond.code_spec hn (atoms_spec (ws := Jvm.Cond.code x code maxLocals ret :: tables_1) h _ List.mem_cons_self)
    exact ⟨meth, c, h1, h2, h3, h4, h5, h6⟩
  · intro p e s m args below meth c s₁ B hml0 hP _
    obtain ⟨rfl, hx, hbd, hgv⟩ := hP
    obtain ⟨scr, harrAt, hlist, hof, hsmall⟩ := hx
    obtain ⟨hcb, hkn, -, -⟩ := State.arrayAt?_spec harrAt
    have hown : s.vm.findClass R_law = some m.cls := findClass_of_methodNamed B.named
    have hts0 : ∀ c ∈ (Jvm.Cond.code x code maxLocals ret :: tables_1), c.before #[Value.ref b] s = true := atoms_spec (ws := Jvm.Cond.code x code maxLocals ret :: tables_1) B.pre
    have hts : ∀ w ∈ lw_tbl, w.before #[Value.ref b] s = true := k2_hts_sels lw_privs (fun w hw => hts0 w (List.mem_cons_of_mem _ hw)) lw_privs_ok
    have hml : c.maxLocals = 4 := B.maxLocals_eq (hts0 _ List.mem_cons_self)
    have X₀ : Stand p l e room_1 s m #[Value.ref b] below meth c s₁ [] 0 0 := Stand.of_body B
    have hh0 : s₁.heap = s.heap := by rw [B.state]; rfl
    have hsz : scr.slots.size = xs.length := by rw [← Array.length_toList, hlist, List.length_map]
    have hval : ∀ j : Nat, j < xs.length → scr.slots[j]? = some (.int (xs.getD j 0)) := fun j hj => by
      rw [← Array.getElem?_toList, hlist]
      simp [hj]
    have hbl : b < s.heap.size := (Array.getElem?_eq_some_iff.mp hcb).1
    have hX : va_X b xs.length (fun j => xs.getD j 0) s s.heap := ⟨scr, hcb, hof, hkn, hsz, hval⟩
    have K : W p l e room_1 s m #[Value.ref b] below meth c s₁.heap [] 0 0 (lw_Z below #[Value.ref b] s) (entryFrame m ([Value.ref b] : List Value).toArray 4) := by
      rw [hh0]
      exact whole_start l hflags hbd ⟨B.exec, B.bytes, B.returns, hml, hown, hts, hX, hbl, B.notSynchronized, hgv⟩
    obtain ⟨t, a1, o, b1, b2, b3⟩ := K s₁ rfl X₀
    exact ⟨t, o, a1, b1, b2, b3⟩
theorem lw_pre_spec {args : Array Value} {s : State} (h : (Jvm.Cond.and given_1 narrow_1).before args s = true) (hr : rest_1_c.before args s = true) : ∃ (b : Addr) (xs : List Int32), lw_P b xs args s := by
  have hs := flat_of_before _ h
  have hq := flat_of_before _ hr
  have hc : (Cond.count 1).before args s = true := hs _ (by decide +kernel)
  have harr : (Cond.arrayOf (.arg 0) .int).before args s = true := hs _ (by decide +kernel)
  have hle : (Cond.le (.length (.arg 0)) (.int 3072)).before args s = true := hs _ (by decide +kernel)
  have hlen : (Cond.isInt (.length (.arg 0))).before args s = true := hq _ (by decide +kernel)
  have hall : (Cond.all (.arg 0) (.isInt (.elem (.arg 0) (.index 0)))).before args s = true := hq _ (by decide +kernel)
  obtain ⟨b, xs, hb, hx⟩ := State.ints_of_pre rfl harr hlen hall
  have hsm : xs.length < 2 ^ 31 := hx.choose_spec.2.2.2
  have hev : (Term.length (.arg 0)).eval args s none [] s = some (.int xs.length.toInt32) := hx.length_eval hb
  have hv := Cond.le_ints hev (show (Term.int 3072).eval args s none [] s = some (.int 3072) from rfl)
  have hd : xs.length.toInt32 ≤ 3072 := by
    simpa [Cond.before, Cond.holds, hv] using hle
  have hN : xs.length ≤ 3072 := (Int32.ofNat_le_ofNat hsm (by decide)).mp (show Int32.ofNat xs.length ≤ Int32.ofNat 3072 from hd)
  exact ⟨b, xs, Cond.one_arg hc (show args[0]? = some (.ref b) from hb), hx, hN, h⟩
theorem lw_comes (l : Launch) (hflags : l.flags = flags0) : Comes l x (Jvm.Cond.code x code maxLocals ret :: tables_1) room_1 (fun tb e args s => Calls_1 tb e args s ∧ rest_1 tb e args s ∧ Pre_1 tb e args s)
    (fun _ _ args s o t => lw_Q args s o t) := by
  intro p e ha hc hk s m args below hf hfit hheap happ hpre
  obtain ⟨b, xs, hP⟩ := lw_pre_spec hpre.2.2 hpre.2.1
  obtain ⟨k, o, h1, h2, h3, hQ⟩ := lw_walk l hflags b xs p e ha hc hk s m args below hf ((Spec.applies_iff_loose hf).mp happ).1 hP trivial
  exact ⟨k, o, h1, h2, h3, hQ⟩
theorem lw_frame {s t : State} {o : Outcome} {args : Array Value} (h : Framed s o t [] 600000 7302250) :
    Framed s o t (fieldLocs frame_1_writes args s ++ arrayLocs frame_1_arrays args s ++ staticLocs frame_1_statics s) 600000 7302250 := h
theorem lw_limb (L : Cond) (hL : ∀ (args : Array Value) (s t : State), L.after args s (.returned (some (.int 1))) t = true) :
    ArmFor flags0 classFile x code maxLocals ret World_1 tables_1 room_1 Calls_1 rest_1 Pre_1
      (fun tb e a s o t => postC L tb e a s o t ∧ Framed s o t (fieldLocs frame_1_writes a s ++ arrayLocs frame_1_arrays a s ++ staticLocs frame_1_statics s) 600000 7302250) := by
  intro l hflags _ _ p e ha hc hk s m args below hf hfit hheap happ hpre
  obtain ⟨k, o, h1, h2, h3, rfl, hF⟩ := lw_comes l hflags p e ha hc hk s m args below hf hfit hheap happ hpre
  exact ⟨k, _, h1, h2, h3, hL args s _, lw_frame hF⟩
theorem i_vc : Claimed_1_1 ∧ Claimed_1_2 := ⟨lw_limb limb_1_1 (fun args s t => by simp [limb_1_1, Cond.after, Cond.holds, Cond.value]), lw_limb limb_1_2 (fun args s t => Cond.after_iff.mpr (by
  first | (rw [show limb_1_2 = Cond.eq .result (.int 1) from rfl, Cond.eq_ints (x := 1) (y := 1) rfl rfl]; simp; done) | (simp [limb_1_2, Cond.value, Term.eval]; done)))⟩
