/-! ONE STEP: a copy; an instruction that makes a cell -/
theorem s_iv_cpy {a b : List Value} {sp dp n : Nat} (h1 : sp + n ≤ a.length) (h2 : dp + n ≤ b.length) : va_cpy (s_iv a) (s_iv b) sp dp n = s_iv (s_cpy a b sp dp n) := by
  funext k
  unfold va_cpy s_iv s_cpy
  by_cases hk : dp ≤ k ∧ k < dp + n
  · rw [if_pos hk, List.getElem?_append_right (by simp; omega), List.getElem?_append_left (by simp; omega)]
    have e : k - (b.take dp).length = k - dp := by simp; omega
    rw [e, List.getElem?_take_of_lt (by omega), List.getElem?_drop]
  · rw [if_neg hk]
    by_cases hl : k < dp
    · rw [List.getElem?_append_left (by simp; omega), List.getElem?_take_of_lt hl]
    · rw [List.getElem?_append_right (by simp; omega), List.getElem?_append_right (by simp; omega), List.getElem?_drop]
      have e : dp + n + (k - (b.take dp).length - ((a.drop sp).take n).length) = k := by simp; omega
      rw [e]
theorem s_lv_cpy {a b : List Value} {sp dp n : Nat} (h1 : sp + n ≤ a.length) (h2 : dp + n ≤ b.length) : va_cpy (s_lv a) (s_lv b) sp dp n = s_lv (s_cpy a b sp dp n) := by
  funext k
  unfold va_cpy s_lv s_cpy
  by_cases hk : dp ≤ k ∧ k < dp + n
  · rw [if_pos hk, List.getElem?_append_right (by simp; omega), List.getElem?_append_left (by simp; omega)]
    have e : k - (b.take dp).length = k - dp := by simp; omega
    rw [e, List.getElem?_take_of_lt (by omega), List.getElem?_drop]
  · rw [if_neg hk]
    by_cases hl : k < dp
    · rw [List.getElem?_append_left (by simp; omega), List.getElem?_take_of_lt hl]
    · rw [List.getElem?_append_right (by simp; omega), List.getElem?_append_right (by simp; omega), List.getElem?_drop]
      have e : dp + n + (k - (b.take dp).length - ((a.drop sp).take n).length) = k := by simp; omega
      rw [e]
theorem s_cpy_len {a b : List Value} {sp dp n : Nat} (h1 : sp + n ≤ a.length) (h2 : dp + n ≤ b.length) : (s_cpy a b sp dp n).length = b.length := by
  unfold s_cpy
  simp
  omega
theorem s_ac_sp {st : List Value} {M : sM} {r' : List Value} {M' : sM} (h : s_ac st M = some (r', M')) : ∃ n dp b sp a k va vb, st = .int n :: .int dp :: .ref b :: .int sp :: .ref a :: r' ∧ M[a]? = some (k, va) ∧ M[b]? = some (k, vb) ∧ (k = 13 ∨ k = 14) ∧ ¬ sp < 0 ∧ ¬ dp < 0 ∧ ¬ n < 0 ∧ sp.toNatClampNeg + n.toNatClampNeg ≤ va.length ∧ dp.toNatClampNeg + n.toNatClampNeg ≤ vb.length ∧ (r'.map fun v => v.category).sum ≤ 8 ∧ M' = M.set b (k, s_cpy va vb sp.toNatClampNeg dp.toNatClampNeg n.toNatClampNeg) := by
  unfold s_ac at h
  split at h
  · rename_i n dp b sp a r
    split at h
    · rename_i ca cb hca hcb
      cases hz : ((Nat.beq ca.1 cb.1 && (Nat.beq ca.1 13 || Nat.beq ca.1 14)) && ((!decide (sp < 0) && (!decide (dp < 0) && !decide (n < 0))) && (Nat.ble (sp.toNatClampNeg + n.toNatClampNeg) ca.2.length && Nat.ble (dp.toNatClampNeg + n.toNatClampNeg) cb.2.length)) && Nat.ble (r.map fun v => v.category).sum 8) with
      | true =>
        rw [hz] at h
        simp only [Bool.and_eq_true, Bool.or_eq_true, Bool.not_eq_true', decide_eq_false_iff_not] at hz
        obtain ⟨⟨⟨z1, z2⟩, ⟨z3, z4, z5⟩, z6, z7⟩, z8⟩ := hz
        obtain ⟨ka, va⟩ := ca
        obtain ⟨kb, vb⟩ := cb
        have e1 : ka = kb := Nat.eq_of_beq_eq_true z1
        subst e1
        cases h
        exact ⟨n, dp, b, sp, a, ka, va, vb, rfl, hca, hcb, z2.imp Nat.eq_of_beq_eq_true Nat.eq_of_beq_eq_true, z3, z4, z5, Nat.le_of_ble_eq_true z6, Nat.le_of_ble_eq_true z7, Nat.le_of_ble_eq_true z8, rfl⟩
      | false => rw [hz] at h; cases h
    · cases h
  · cases h
theorem s_dv_ok : ∀ k, k < 12 → ∀ q, s_ft[k]? = some q → ∀ j, j < q.1 → defaultValue (q.2 j) = s_dv (q.2 j) := by
  intro k hk q hq
  match k, hk, hq with
  | 0, _, h => cases h; decide +kernel
  | 1, _, h => cases h; decide +kernel
  | 2, _, h => cases h; decide +kernel
  | 3, _, h => cases h; decide +kernel
  | 4, _, h => cases h; decide +kernel
  | 5, _, h => cases h; decide +kernel
  | 6, _, h => cases h; decide +kernel
  | 7, _, h => cases h; decide +kernel
  | 8, _, h => cases h; decide +kernel
  | 9, _, h => cases h; decide +kernel
  | 10, _, h => cases h; decide +kernel
  | 11, _, h => cases h; decide +kernel
theorem s_dv_tr {tt α : Nat → Nat} (ty : FieldType) : s_tr tt α (s_dv ty) = s_dv ty := by cases ty <;> rfl
theorem s_dv_vok {n : Nat} (ty : FieldType) : s_vok n (s_dv ty) := by cases ty <;> (intro a h; cases h)
theorem s_iv_rep {N : Nat} : s_iv (List.replicate N (.int 0)) = fun _ => 0 := by
  funext j
  unfold s_iv
  rw [List.getElem?_replicate]
  by_cases h : j < N
  · rw [if_pos h]
  · rw [if_neg h]
theorem s_lv_rep {N : Nat} : s_lv (List.replicate N (.long 0)) = fun _ => 0 := by
  funext j
  unfold s_lv
  rw [List.getElem?_replicate]
  by_cases h : j < N
  · rw [if_pos h]
  · rw [if_neg h]
theorem s_qv_rep {α : Nat → Nat} {N : Nat} : s_qv α (List.replicate N .null) = fun _ => none := by
  funext j
  unfold s_qv
  rw [List.getElem?_replicate]
  by_cases h : j < N
  · rw [if_pos h]
  · rw [if_neg h]
theorem s_kCat {o x k : Nat} (h : s_look s_tC o x = some k) : ∃ C T N, vwCl[k]? = some (C, T, N) ∧ (Cond.classLink (s_cn o) x C) ∈ s_G := by
  obtain ⟨p, hp⟩ := s_look_mem h
  have h1 := List.all_eq_true.mp s_kC_ok _ hp
  unfold s_kC at h1
  dsimp only at h1
  split at h1
  · rename_i c hc
    simp only [decide_eq_true_eq] at h1
    exact ⟨c.1, c.2.1, c.2.2, hc, s_atG h1 rfl⟩
  · cases h1
theorem s_kAat {o x k : Nat} (h : s_look s_tA o x = some k) : 17 ≤ k ∧ k ≤ 19 ∧ (Cond.classLink (s_cn o) x (s_ac0 k)) ∈ s_G := by
  obtain ⟨p, hp⟩ := s_look_mem h
  have h1 := List.all_eq_true.mp s_kA_ok _ hp
  unfold s_kA at h1
  simp only [Bool.and_eq_true, decide_eq_true_eq] at h1
  exact ⟨h1.2.1, h1.2.2, s_atG h1.1 rfl⟩
theorem s_na_sp {k : Nat} {v : Value} {n : Int32} {r r' : List Value} {M M' : sM} (h : s_na k v n r M = some (r', M')) : ¬ n < 0 ∧ n.toNatClampNeg ≤ 100000 ∧ r' = .ref M.length :: r ∧ M' = M ++ [(k, List.replicate n.toNatClampNeg v)] := by
  unfold s_na at h
  cases hz : (!decide (n < 0) && Nat.ble n.toNatClampNeg 100000) with
  | true =>
    rw [hz] at h
    simp only [Bool.and_eq_true, Bool.not_eq_true', decide_eq_false_iff_not] at hz
    cases h
    exact ⟨hz.1, Nat.le_of_ble_eq_true hz.2, rfl, rfl⟩
  | false => rw [hz] at h; cases h
theorem s_RA_inj {U : State} {a b : ClassId} {ty : FieldType} (h1 : va_RA U a ty) (h2 : va_RA U b ty) : a = b := by
  cases ty with
  | object C =>
    obtain ⟨-, -, -, -, -, e1⟩ := h1
    obtain ⟨-, -, -, -, -, e2⟩ := h2
    rw [e1] at e2
    exact Option.some.inj e2
  | _ =>
    have e1 : U.vm.findClass _ = some a := h1
    have e2 : U.vm.findClass _ = some b := h2
    rw [e1] at e2
    exact Option.some.inj e2
def s_newslots (M M' : sM) : Nat := match M'[M.length]? with
  | some c => c.2.length
  | none => 0
section S11
variable {p : Program} {l : Launch} {e : Env} {R : Room} {s : State} {m : MethodId} {args : Array Value} {below : List Frame} {meth : Method} {c : Code} {H : Heap} {locs : List Loc} {cells slots : Nat} {Q : State → Prop}
variable {own mx : Nat} {ini : Bool} {cc : ByteArray} {D : va_G} {cy tt α : Nat → Nat} {E : sE} {A : Nat → Prop} {M : sM}
theorem s_arrNew (hF : s_Fr p s m args meth c own ini cc mx) (hK : s_Kx D cy s) (hP : va_P D vwCl (s_img cy tt α M) H) (hD : va_D A (s_img cy tt α M)) (hS : va_S A s.heap H locs) (hA : ∀ q, s.heap.size ≤ q → A q) (hM : s_Mok M.length M) {rest : List Value} {lsR : Array Slot} {pc : Nat} {t : ArrayType} {n : Int32} {a0 : vp_A} {k : Nat} {v : Value} {ty : FieldType} (hty : newarray.typeOf t = ty) (htys : (s_tys cy)[k - 12]? = some (cy k, ty)) (hw : Cond.arrayClass ty ∈ s_G)
    (ha : ∀ cA : ClassId, vp_cell cA a0 = arrV cA n.toNatClampNeg (fun _ => defaultValue ty)) (him : s_im cy tt α (k, List.replicate n.toNatClampNeg v) = .inl (cy k, a0)) (hv : ∀ j, s_vok j v) (hn : ¬ n < 0) (hbytes : n.toNatClampNeg * componentBytes ty ≤ 536870912) (hcells : cells + 1 ≤ R.cells) (hslots : slots + n.toNatClampNeg ≤ R.slots) (hd : decode cc pc = .ok (.newarray t, 2))
    (kk : ∀ (q : Nat) (H1 : Heap), va_P D vwCl (s_img cy tt (s_up α M.length q) (M ++ [(k, List.replicate n.toNatClampNeg v)])) H1 → va_D A (s_img cy tt (s_up α M.length q) (M ++ [(k, List.replicate n.toNatClampNeg v)])) → va_S A s.heap H1 locs → W p l e R s m args below meth c H1 locs (cells + 1) (slots + n.toNatClampNeg) Q (F0 m (pc + 2) lsR (.ref q :: rest))) : W p l e R s m args below meth c H locs cells slots Q (F0 m pc lsR (.int n :: rest)) := by
  obtain ⟨hx, hb, hml, hown, hts, hin⟩ := hF
  refine va_newa hx hb (hts _ (by rw [hty]; exact hw)) hty hK.1 hP hD hS hA ha hn rfl hbytes hcells hslots hd (fun q cA H1 hK1 hP1 hD1 hS1 => ?_)
  have e1 := (hK1.2 8 (cA, ty) rfl).2
  have e2 := (hK.1.2 _ _ htys).2
  have e3 : cA = cy k := s_RA_inj e1 e2
  subst e3
  have hlk : s_lok M.length (k, List.replicate n.toNatClampNeg v).2 := fun w hw => by rw [(List.mem_replicate.mp hw).2]; exact hv _
  rw [← him, s_img_push hM hlk] at hP1 hD1
  exact kk q H1 hP1 hD1 hS1
set_option maxHeartbeats 4000000 in
theorem s_simA (hF : s_Fr p s m args meth c own ini cc mx) (hK : s_Kx D cy s) (hP : va_P D vwCl (s_img cy tt α M) H) (hD : va_D A (s_img cy tt α M)) (hS : va_S A s.heap H locs) (hA : ∀ q, s.heap.size ≤ q → A q) (hM : s_Mok M.length M) {st : List Value} (hst : s_lok M.length st) {lsR : Array Slot} {pc len : Nat} {i r : Jvm.ClassFile.Instr} (hd : decode cc pc = .ok (r, len)) (hr : s_res own ini r = some i) (hn : s_ln2 i len = true) {st' : List Value} {M' : sM} (h : s_al s_ft i st M = some (st', M')) (hcells : cells + 1 ≤ R.cells) (hslots : slots + s_newslots M M' ≤ R.slots)
    (kk : ∀ (q : Nat) (H1 : Heap), va_P D vwCl (s_img cy tt (s_up α M.length q) M') H1 → va_D A (s_img cy tt (s_up α M.length q) M') → va_S A s.heap H1 locs → W p l e R s m args below meth c H1 locs (cells + 1) (slots + s_newslots M M') Q (F0 m (pc + len) lsR (st'.map (s_tr tt (s_up α M.length q))))) : W p l e R s m args below meth c H locs cells slots Q (F0 m pc lsR (st.map (s_tr tt α))) := by
  have hF0 := hF
  obtain ⟨hx, hb, hml, hown, hts, hin⟩ := hF
  have hnew : ∀ (c0 : sC), s_newslots M (M ++ [c0]) = c0.2.length := fun c0 => by simp [s_newslots]
  have hup : ∀ (q : Nat) (l0 : List Value), s_lok M.length l0 → (Value.ref M.length :: l0).map (s_tr tt (s_up α M.length q)) = .ref q :: l0.map (s_tr tt α) := fun q l0 h0 => by
    rw [List.map_cons, s_trs_eq (fun i hi => s_up_ne hi) h0]
    refine congrArg (fun z => z :: _) ?_
    show Value.ref (s_up α M.length q M.length) = _
    rw [s_up, if_pos rfl]
  cases i
  case new k =>
    obtain ⟨x9, rfl, hk9⟩ := s_res_new hr
    obtain rfl := of_decide_eq_true hn
    obtain ⟨C, T, N, g1, g2⟩ := s_kCat hk9
    obtain ⟨c1, c2, c3, c4, c5, c6, c7⟩ := s_clok g1
    have h12 : k < 12 := (List.getElem?_eq_some_iff.mp g1).1
    unfold s_al at h
    dsimp only at h
    rw [c6] at h
    cases h
    have e5 : (s_newslots M (M ++ [(k, (List.range N).map (fun j => s_dv (s_fty k j)))])) = N := by rw [hnew]; simp
    rw [e5] at hslots kk
    have him : s_im cy tt α (k, (List.range N).map (fun j => s_dv (s_fty k j))) = .inr (k, (List.range N).map (fun j => s_dv (s_fty k j))) := by
      refine (if_pos h12).trans ?_
      refine congrArg (fun z => Sum.inr (k, z)) ?_
      rw [List.map_map]
      exact List.map_congr_left fun j _ => s_dv_tr _
    refine va_new (ci := k) (fs := (List.range N).map (fun j => s_dv (s_fty k j))) hx hb hts c1 (s_fty k) c2 hown (hts _ g2) (hts _ c4) (hts _ c5) hK.1 hP hD hS hA g1 (fun j hj => ?_) hcells hslots hd (fun q H1 hP1 hD1 hS1 => ?_)
    · rw [s_dv_ok k h12 _ c6 j hj]
      simp [vp_V, List.getD, hj]
    · have hlk : s_lok M.length (k, (List.range N).map (fun j => s_dv (s_fty k j))).2 := fun w hw => by
        obtain ⟨j, -, rfl⟩ := List.mem_map.mp hw
        exact s_dv_vok _
      rw [← him, s_img_push hM hlk] at hP1 hD1
      have h9 := kk q H1 hP1 hD1 hS1
      rw [hup q st hst] at h9
      exact h9
  case newarray t =>
    have e := s_res_pl rfl hr
    subst e
    obtain rfl := of_decide_eq_true hn
    unfold s_al at h
    dsimp only at h
    split at h
    · rename_i n r9
      have hr9 : s_lok M.length r9 := (s_lok_c.mp hst).2
      have hw : ∀ {k : Nat} {v : Value} {ty : FieldType} {a0 : vp_A}, s_na k v n r9 M = some (st', M') → newarray.typeOf t = ty → (s_tys cy)[k - 12]? = some (cy k, ty) → Cond.arrayClass ty ∈ s_G → (∀ cA : ClassId, vp_cell cA a0 = arrV cA n.toNatClampNeg (fun _ => defaultValue ty)) → s_im cy tt α (k, List.replicate n.toNatClampNeg v) = .inl (cy k, a0) → (∀ j, s_vok j v) → componentBytes ty ≤ 8 → W p l e R s m args below meth c H locs cells slots Q (F0 m pc lsR ((Value.int n :: r9).map (s_tr tt α))) := by
        intro k v ty a0 hna hty htys hwd ha him hv hcb
        obtain ⟨n1, n2, rfl, rfl⟩ := s_na_sp hna
        have e5 : (s_newslots M (M ++ [(k, List.replicate n.toNatClampNeg v)])) = n.toNatClampNeg := by rw [hnew]; simp
        rw [e5] at hslots kk
        refine s_arrNew hF0 hK hP hD hS hA hM hty htys hwd ha him hv n1 (Nat.le_trans (Nat.mul_le_mul n2 hcb) (by decide)) hcells hslots hd (fun q H1 hP1 hD1 hS1 => ?_)
        have h9 := kk q H1 hP1 hD1 hS1
        rw [hup q r9 hr9] at h9
        exact h9
      cases t
      case byte => exact hw (a0 := (n.toNatClampNeg, .inl (fun _ => 0))) h rfl rfl (s_inG (by decide +kernel) rfl) (fun _ => rfl) (by rw [s_im_b, s_iv_rep, List.length_replicate]) (fun _ => s_vok_i) (by decide)
      case int => exact hw (a0 := (n.toNatClampNeg, .inl (fun _ => 0))) h rfl rfl (s_inG (by decide +kernel) rfl) (fun _ => rfl) (by rw [s_im_i, s_iv_rep, List.length_replicate]) (fun _ => s_vok_i) (by decide)
      case long => exact hw (a0 := (n.toNatClampNeg, .inr (.inl (fun _ => 0)))) h rfl rfl (s_inG (by decide +kernel) rfl) (fun _ => rfl) (by rw [s_im_l, s_lv_rep, List.length_replicate]) (fun _ => s_vok_l) (by decide)
      case short => exact hw (a0 := (n.toNatClampNeg, .inl (fun _ => 0))) h rfl rfl (s_inG (by decide +kernel) rfl) (fun _ => rfl) (by rw [s_im_s, s_iv_rep, List.length_replicate]) (fun _ => s_vok_i) (by decide)
      case boolean => exact hw (a0 := (n.toNatClampNeg, .inl (fun _ => 0))) h rfl rfl (s_inG (by decide +kernel) rfl) (fun _ => rfl) (by rw [s_im_z, s_iv_rep, List.length_replicate]) (fun _ => s_vok_i) (by decide)
      all_goals cases h
    · cases h
  case anewarray k =>
    obtain ⟨x9, rfl, hk9⟩ := s_res_anewarray hr
    obtain rfl := of_decide_eq_true hn
    obtain ⟨k17, k19, g2⟩ := s_kAat hk9
    unfold s_al at h
    dsimp only at h
    split at h
    · rename_i n r9
      have hr9 : s_lok M.length r9 := (s_lok_c.mp hst).2
      rw [show (Nat.ble 17 k && Nat.ble k 19) = true by simp [k17, k19]] at h
      obtain ⟨n1, n2, rfl, rfl⟩ := s_na_sp h
      have e5 : (s_newslots M (M ++ [(k, List.replicate n.toNatClampNeg Value.null)])) = n.toNatClampNeg := by rw [hnew]; simp
      rw [e5] at hslots kk
      have hAO : va_AO (s_ac0 k) s ∧ (s_tys cy)[k - 12]? = some (cy k, .object (s_ac0 k)) := by
        rcases (show k = 17 ∨ k = 18 ∨ k = 19 by omega) with rfl | rfl | rfl
        · exact ⟨hK.2.1, rfl⟩
        · exact ⟨hK.2.2.1, rfl⟩
        · exact ⟨hK.2.2.2.1, rfl⟩
      refine va_newq hx hb hown (hts _ g2) hAO.1 hK.1 hP hD hS hA n1 rfl (Nat.le_trans (Nat.mul_le_mul_right 4 n2) (by decide)) hcells hslots hd (fun q cA H1 hK1 hP1 hD1 hS1 => ?_)
      have e1 := (hK1.2 8 (cA, .object (s_ac0 k)) rfl).2
      have e2 := (hK.1.2 _ _ hAO.2).2
      have e3 : cA = cy k := s_RA_inj e1 e2
      subst e3
      have hlk : s_lok M.length (k, List.replicate n.toNatClampNeg Value.null).2 := fun w hw => by rw [(List.mem_replicate.mp hw).2]; exact s_vok_n
      have him : s_im cy tt α (k, List.replicate n.toNatClampNeg Value.null) = .inl (cy k, n.toNatClampNeg, .inr (.inr (.inr (.inr (fun _ => none))))) := by
        rw [s_im_q k17, s_qv_rep, List.length_replicate]
      rw [← him, s_img_push hM hlk] at hP1 hD1
      have h9 := kk q H1 hP1 hD1 hS1
      rw [hup q r9 hr9] at h9
      exact h9
    · cases h
  all_goals exact nomatch (show none = some _ from h)
end S11
