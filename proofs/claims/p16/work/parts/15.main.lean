/-! THE SIMULATION: a run of the small machine is a run of the machine (s_main); a method's contract out of a run of it (s_met) -/
section S15
variable {p : Program} {l : Launch} {e : Env} {R : Room} {s : State} {m : MethodId} {args : Array Value} {below : List Frame} {meth : Method} {c : Code} {H : Heap} {locs : List Loc} {cells slots : Nat} {Q : State → Prop}
variable {own mx : Nat} {ini : Bool} {cc : ByteArray} {D : va_G} {cy tt α : Nat → Nat} {E : sE} {A : Nat → Prop} {M M2 : sM}
set_option maxHeartbeats 4000000 in
/-- a call, out of the callee's contract -/
theorem s_callW {n : Nat} (hMt : s_Mt l n) (hF : s_Fr p s m args meth c own ini cc mx) (hK : s_Kx D cy s) (hT : s_Tx E tt A s s.heap) (hP : va_P D vwCl (s_img cy tt α M) H) (hD : va_D A (s_img cy tt α M)) (hS : va_S A s.heap H locs) (hA : ∀ q, s.heap.size ≤ q → A q) {d z : Nat} {en : sMeth × sMT} {as r st : List Value} {v : Option Value} {pc x : Nat} {lsR : Array Slot} (hsz : lsR.size = mx) (hen : s_ent z = some en) (hroom : s_room en.1.1 as r = true) (hrun : s_x s_prog s_fty s_ft E n d en.1 0 (lv_args 0 as) [] M = some (v, M2)) (has : s_lok M.length as) (hM : s_Mok M.length M) (h1 : M.length ≤ M2.length) (h2 : s_slots M ≤ s_slots M2) (hfr : d + 1 ≤ R.frames) (hlo : 64 * (d + 1) ≤ R.locals) (hc : cells + (M2.length - M.length) ≤ R.cells) (hs : slots + (s_slots M2 - s_slots M) ≤ R.slots)
    (kind : (∃ a rest, as = .ref a :: rest ∧ st = rest.reverse ++ .ref a :: r ∧ s_kd M a = en.1.2.2.1 ∧ decode cc pc = .ok (.invokevirtual x, 3) ∧ Cond.methodLink (s_cn own) x en.2.1.1 ∈ s_G ∧ en.2.2.1.2.1 = false ∧ en.2.2.1.2.2.1 = false ∧ en.2.2.1.2.2.2 = rest.length) ∨ (∃ a rest, as = .ref a :: rest ∧ st = rest.reverse ++ .ref a :: r ∧ decode cc pc = .ok (.invokespecial x, 3) ∧ Cond.methodLink (s_cn own) x en.2.1.1 ∈ s_G ∧ en.2.2.1.2.1 = true ∧ en.2.2.1.2.2.2 = rest.length) ∨ (st = as.reverse ++ r ∧ decode cc pc = .ok (.invokestatic x, 3) ∧ (Cond.methodLink (s_cn own) x en.2.1.1 ∈ s_G ∨ s_nest = Cond.methodLinkNest (s_cn own) x en.2.1.1 "OldestLaw") ∧ en.2.2.1.2.2.1 = true ∧ en.2.2.1.2.2.2 = as.length))
    (kk : ∀ (β : Nat → Nat) (H1 : Heap) (locs1 : List Loc), (∀ i, i < M.length → β i = α i) → va_P D vwCl (s_img cy tt β M2) H1 → va_D A (s_img cy tt β M2) → va_S A s.heap H1 locs1 → W p l e R s m args below meth c H1 locs1 (cells + (M2.length - M.length)) (slots + (s_slots M2 - s_slots M)) Q (F0 m (pc + 3) lsR ((v.map (s_tr tt β)).toList ++ r.map (s_tr tt α)))) : W p l e R s m args below meth c H locs cells slots Q (F0 m pc lsR (st.map (s_tr tt α))) := by
  have hm := s_mok_sp (s_ent_ok hen)
  obtain ⟨m1, m2, m3, m4, m5, m6, m7, m8, m9, m10, m11⟩ := hm
  unfold s_room at hroom
  simp only [Bool.and_eq_true] at hroom
  have r1 : (r.map fun v => v.category).sum ≤ 8 := Nat.le_of_ble_eq_true hroom.1
  have r2 : (lg_sl as).length ≤ en.1.1 := Nat.le_of_ble_eq_true hroom.2.1
  have r3 : en.1.1 ≤ 40 := Nat.le_of_ble_eq_true hroom.2.2
  have hMet := hMt d z en as M M2 v E D cy tt α H.size (M2.length - M.length) (s_slots M2 - s_slots M) hen hrun r2 has hM (Nat.add_sub_of_le h1).symm (Nat.add_sub_of_le h2).symm
  have hr1 : ((r.map (s_tr tt α)).map fun v => v.category).sum ≤ 8 := by rw [s_cat_sum]; exact r1
  have hR : (s_rm d (M2.length - M.length) (s_slots M2 - s_slots M)).frames + 1 ≤ R.frames ∧ 8 + (en.1.1 + 11) + (s_rm d (M2.length - M.length) (s_slots M2 - s_slots M)).locals ≤ R.locals := ⟨hfr, by show 8 + (en.1.1 + 11) + 64 * d ≤ R.locals; omega⟩
  have hts := hF.2.2.2.2.1
  have hB : ∀ {k : Nat}, en.2.2.1.2.2.2 = k → Cond.methodLink (s_cn own) x en.2.1.1 ∈ s_G → CallB R s args (s_cn own) x en.2.1.1 en.2.1.2 en.1.1 en.1.2.1 (Cond.code en.2.1.1 en.2.1.2 en.1.1 en.1.2.1 :: s_G) (s_rm d (M2.length - M.length) (s_slots M2 - s_slots M)) (M2.length - M.length) (s_slots M2 - s_slots M) k := fun hk hl => callB_of (Ts := s_G) _ hts (s_GG m2) rfl rfl rfl (hts _ m7) (hts _ hl) ⟨m6.1, m6.2, by rw [m4, hk]⟩ hR
  refine s_run (st0 := st.map (s_tr tt α)) (rest := r.map (s_tr tt α)) (a := (as.map (s_tr tt α)).toArray) ?_ hD hS hA kk
  rcases kind with ⟨a, rest, rfl, rfl, k3, k4, k5, k6, k7, k8⟩ | ⟨a, rest, rfl, rfl, k4, k5, k6, k8⟩ | ⟨rfl, k4, k5, k7, k8⟩
  · obtain ⟨g0, g1, g3⟩ := m10 k7 k6
    have hMa : ∃ fs, M[a]? = some (en.1.2.2.1, fs) := by
      unfold s_kd at k3
      split at k3
      · rename_i c9 hc9
        exact ⟨c9.2, by rw [hc9, ← k3]⟩
      · omega
    obtain ⟨fs, hfs⟩ := hMa
    have h3 := s_img_at (cy := cy) (tt := tt) (α := α) hfs
    rw [show s_im cy tt α (en.1.2.2.1, fs) = .inr (en.1.2.2.1, fs.map (s_tr tt α)) from if_pos g3] at h3
    obtain ⟨q9, hq9⟩ : ∃ q, vwCl[en.1.2.2.1]? = some q := ⟨_, List.getElem?_eq_getElem (show en.1.2.2.1 < vwCl.length from g3)⟩
    have hcn : q9.1 = en.2.1.1.cls := by
      have h9 := (s_clok (C := q9.1) (T := q9.2.1) (N := q9.2.2) hq9).2.2.2.2.2.2
      rw [m5, g1, ← h9]
    have hrv := va_recv hK.1 hP hq9 h3
    rw [hcn] at hrv
    refine va_runV (C := en.2.1.1.cls) (As := rest.map (s_tr tt α)) hF.fix hMet ⟨hB k8 k5, hts _ (m9 k7), hts _ g0⟩ ⟨s_Pc_blind, hrv, s_pre hK hT hP hD hS hA⟩ rfl (by rw [List.length_map]) hsz (by simp [s_tr]) (lv_room hr1) k4 ⟨hc, hs⟩
  · obtain ⟨g1, g2, g3⟩ := m11 k6
    have hB2 := hB k8 k5
    rw [g2] at hB2 hMet
    exact va_runI (As := rest.map (s_tr tt α)) hF.fix hMet ⟨hB2, g1, hts _ (m9 g3)⟩ ⟨s_Pc_blind, s_pre hK hT hP hD hS hA⟩ rfl (by rw [List.length_map]) hsz (by simp [s_tr]) (lv_room hr1) k4 ⟨hc, hs⟩
  · rcases k5 with k5 | k5
    · exact va_runS (As := as.map (s_tr tt α)) hF.fix hMet ⟨hB k8 k5, hts _ (m8 k7)⟩ ⟨s_Pc_blind, s_pre hK hT hP hD hS hA⟩ rfl (by rw [List.length_map]) hsz (by simp) (lv_room hr1) k4 ⟨hc, hs⟩
    · have hnw := hK.2.2.2.2
      rw [k5] at hnw
      exact va_runSN (As := as.map (s_tr tt α)) hF.fix hMet ⟨va_cnB _ hts (s_GG m2) rfl rfl rfl hnw (hts _ m7) ⟨m6.1, m6.2, by rw [m4, k8]⟩ hR, hts _ (m8 k7), trivial⟩ ⟨s_Pc_blind, s_pre hK hT hP hD hS hA⟩ rfl (by rw [List.length_map]) hsz (by simp) (lv_room hr1) k4 ⟨hc, hs⟩
end S15
theorem s_rv_i {rt : Option FieldType} {x : Int32} (h : s_rv rt (.int x) = true) : rt = some .int ∨ (rt = some .boolean ∧ narrow .boolean (.int x) = .int x) := by
  unfold s_rv at h
  split at h
  · exact Or.inl rfl
  · rename_i y heq
    cases heq
    refine Or.inr ⟨rfl, ?_⟩
    rcases (Bool.or_eq_true _ _).mp h with h | h
    · rw [of_decide_eq_true h]; exact narrow_b0
    · rw [of_decide_eq_true h]; exact narrow_b1
  all_goals first
    | (rename_i heq; cases heq; done)
    | cases h
theorem s_rv_l {rt : Option FieldType} {x : Int64} (h : s_rv rt (.long x) = true) : rt = some .long := by
  unfold s_rv at h
  split at h
  all_goals first
    | rfl
    | (rename_i heq; cases heq; done)
    | cases h
theorem s_rv_r {rt : Option FieldType} {x : Nat} (h : s_rv rt (.ref x) = true) : ∃ n, rt = some (.object n) := by
  unfold s_rv at h
  split at h
  all_goals first
    | exact ⟨_, rfl⟩
    | (rename_i heq; cases heq; done)
    | cases h
theorem s_rv_n {rt : Option FieldType} (h : s_rv rt .null = true) : ∃ n, rt = some (.object n) := by
  unfold s_rv at h
  split at h
  all_goals first
    | exact ⟨_, rfl⟩
    | (rename_i heq; cases heq; done)
    | cases h
set_option maxHeartbeats 4000000 in
theorem s_met_of {l : Launch} {n : Nat} (hF : s_Fp l n) : s_Mt l n := by
  intro d z en as M M' o E D cy tt α sz mc ms hen hrun hlen has hM hlc hsl
  obtain ⟨m1, m2, m3, m4, m5, m6, m7, m8, m9, m10, m11⟩ := s_mok_sp (s_ent_ok hen)
  refine Met.ofW (cc := en.2.1.2) (maxL := en.1.1) (ret := en.1.2.1) m1 rfl ?_
  intro p env s m args below meth c s₁ B hml hv
  obtain ⟨rfl, hsz, hP, hK, hD0, hT⟩ := hv
  have hx := B.exec
  have hb := B.bytes
  have hr := B.returns
  have hts := atoms_spec (ws := Cond.code en.2.1.1 en.2.1.2 en.1.1 en.1.2.1 :: s_G) B.pre
  have hown : s.vm.findClass (s_cn en.2.2.1.1) = some m.cls := by rw [← m5]; exact findClass_of_methodNamed B.named
  have hlocks := B.notSynchronized
  have hin : en.2.2.1.2.1 = true → meth.name = "<init>" := fun hi => ((name_of_methodNamed B.named B.method).1).trans (m11 hi).1
  subst hsz
  have hD := hD0.self (sz := s.heap.size)
  have hS : va_S (va_A (s_img cy tt α M) s.heap.size) s.heap s.heap [] := va_S.rf
  have hl := lv_entry (as.map (s_tr tt α)) (n := en.1.1) (by rw [s_sl_len]; exact hlen)
  rw [lg_entry_eq]
  generalize (lg_sl (as.map (s_tr tt α)) ++ List.replicate (en.1.1 - (lg_sl (as.map (s_tr tt α))).length) Slot.unset).toArray = ls at hl ⊢
  rw [s_args_tr] at hl
  refine hF p env (s_rm d mc ms) s m _ below meth c (MQ below (s_Qc D cy tt α M.length o M' (va_A (s_img cy tt α M) s.heap.size)) _ s mc ms (va_A (s_img cy tt α M) s.heap.size)) en.2.2.1.1 en.2.2.1.2.1 en.2.1.2 D cy tt E (va_A (s_img cy tt α M) s.heap.size) en.1 mc ms o M' α M.length ⟨hx, hb, hml, hown, fun w hw => hts w (List.mem_cons_of_mem _ hw), hin⟩ m3 (s_ent_ln hen) hK hT (fun q hq => Or.inr hq) (Nat.le_refl _) (Nat.le_refl _) ?_ d 0 (lv_args 0 as) [] M α s.heap [] 0 0 ls (Nat.le_refl _) (Nat.le_refl _) (Nat.le_refl _) (fun _ _ => rfl) (s_args_ok has 0) s_lok_nil hM hP hD hS hl hrun (by omega) (by omega)
  intro β H locs pc lsR r hβ hP1 hD1 hS1 hro hd
  rcases hro with ⟨x, rfl, rfl, hv⟩ | ⟨x, rfl, rfl, hv⟩ | ⟨x, rfl, rfl, hv⟩ | ⟨rfl, rfl, hv⟩ | ⟨rfl, rfl, hv⟩
  · rcases s_rv_i hv with h9 | ⟨h9, h8⟩
    · exact W.iret hx hb (hr.trans h9) (fun t ht hW => ⟨⟨β, hβ, rfl, by rw [ht]; exact hP1, hD1⟩, hS1.F ht⟩) hS1.2.2 hd
    · exact W.zret hx hb (hr.trans h9) h8 (fun t ht hW => ⟨⟨β, hβ, rfl, by rw [ht]; exact hP1, hD1⟩, hS1.F ht⟩) hS1.2.2 hd
  · exact W.lret hx hb (hr.trans (s_rv_l hv)) (fun t ht hW => ⟨⟨β, hβ, rfl, by rw [ht]; exact hP1, hD1⟩, hS1.F ht⟩) hS1.2.2 hd
  · obtain ⟨k, h9⟩ := s_rv_r hv
    exact W.aret hx hb (hr.trans h9) (Or.inl ⟨k, rfl⟩) (Or.inr ⟨_, rfl⟩) (fun t ht hW => ⟨⟨β, hβ, rfl, by rw [ht]; exact hP1, hD1⟩, hS1.F ht⟩) hS1.2.2 hd
  · obtain ⟨k, h9⟩ := s_rv_n hv
    exact W.aret hx hb (hr.trans h9) (Or.inl ⟨k, rfl⟩) (Or.inl rfl) (fun t ht hW => ⟨⟨β, hβ, rfl, by rw [ht]; exact hP1, hD1⟩, hS1.F ht⟩) hS1.2.2 hd
  · exact W.vret hx hb (hr.trans hv) (fun t ht hW => ⟨⟨β, hβ, rfl, by rw [ht]; exact hP1, hD1⟩, hS1.F ht⟩) hS1.2.2 hd
