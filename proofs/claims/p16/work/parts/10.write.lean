/-! ONE STEP: an instruction that writes a cell, one that makes a cell -/
theorem s_res_putfield {o : Nat} {ini : Bool} {r : Jvm.ClassFile.Instr} {n : Nat} (h : s_res o ini r = some (.putfield n)) : ∃ x, r = .putfield x ∧ s_look s_tF o x = some n ∧ s_fin n = false := by
  cases r
  case putfield x =>
    unfold s_res at h
    dsimp only at h
    split at h
    · rename_i k hk
      cases hf : s_fin k with
      | true =>
        rw [hf] at h
        cases hg : (ini && decide (s_cn o = s_cn (k / 64))) with
        | true => rw [hg] at h; cases h
        | false => rw [hg] at h; cases h
      | false =>
        rw [hf] at h
        cases h
        exact ⟨x, rfl, hk, hf⟩
    · cases h
  case invokestatic x =>
    exfalso
    unfold s_res at h
    dsimp only at h
    split at h
    · cases h
    · split at h
      · cases h
      · rw [Option.map_eq_some_iff] at h
        obtain ⟨n, -, e⟩ := h
        cases e
  all_goals first
    | (exfalso; exact nomatch (show some _ = some (Jvm.ClassFile.Instr.putfield n) from h))
    | (exfalso; exact nomatch (show none = some (Jvm.ClassFile.Instr.putfield n) from h))
    | (exfalso
       unfold s_res at h
       dsimp only at h
       rw [Option.map_eq_some_iff] at h
       obtain ⟨k, hk, e⟩ := h
       cases e)
theorem s_res_putstatic {o : Nat} {ini : Bool} {r : Jvm.ClassFile.Instr} {n : Nat} (h : s_res o ini r = some (.putstatic n)) : ∃ x, r = .putfield x ∧ s_look s_tF o x = some n ∧ s_fin n = true ∧ ini = true ∧ s_cn o = s_cn (n / 64) := by
  cases r
  case putfield x =>
    unfold s_res at h
    dsimp only at h
    split at h
    · rename_i k hk
      cases hf : s_fin k with
      | true =>
        rw [hf] at h
        cases hg : (ini && decide (s_cn o = s_cn (k / 64))) with
        | true =>
          rw [hg] at h
          cases h
          rw [Bool.and_eq_true] at hg
          exact ⟨x, rfl, hk, hf, hg.1, of_decide_eq_true hg.2⟩
        | false => rw [hg] at h; cases h
      | false => rw [hf] at h; cases h
    · cases h
  case invokestatic x =>
    exfalso
    unfold s_res at h
    dsimp only at h
    split at h
    · cases h
    · split at h
      · cases h
      · rw [Option.map_eq_some_iff] at h
        obtain ⟨n, -, e⟩ := h
        cases e
  all_goals first
    | (exfalso; exact nomatch (show some _ = some (Jvm.ClassFile.Instr.putstatic n) from h))
    | (exfalso; exact nomatch (show none = some (Jvm.ClassFile.Instr.putstatic n) from h))
    | (exfalso
       unfold s_res at h
       dsimp only at h
       rw [Option.map_eq_some_iff] at h
       obtain ⟨k, hk, e⟩ := h
       cases e)
theorem s_fit_ok {tt α : Nat → Nat} {ty : FieldType} {v : Value} (h : s_fit ty v = true) : narrow ty (s_tr tt α v) = s_tr tt α v ∧ fits ty (s_tr tt α v) = true := by
  unfold s_fit at h
  split at h
  all_goals first
    | exact ⟨rfl, rfl⟩
    | (rcases (Bool.or_eq_true _ _).mp h with h | h <;> (have e := of_decide_eq_true h; subst e; first | exact ⟨narrow_b0, rfl⟩ | exact ⟨narrow_b1, rfl⟩))
    | cases h
theorem s_ps_sp {M : sM} {a : Nat} {i : Int32} {v : Value} {ok : Nat → Bool} {r r' : List Value} {M' : sM} (h : s_ps M a i v ok r = some (r', M')) : ∃ k vs, M[a]? = some (k, vs) ∧ ok k = true ∧ ¬ i < 0 ∧ i.toNatClampNeg < vs.length ∧ vp_in i vs.length ∧ r' = r ∧ M' = M.set a (k, vs.set i.toNatClampNeg v) := by
  unfold s_ps at h
  split at h
  · rename_i c hc
    cases hb : (ok c.1 && (!decide (i < 0) && Nat.blt i.toNatClampNeg c.2.length)) with
    | true =>
      rw [hb] at h
      simp only [Bool.and_eq_true, Bool.not_eq_true', decide_eq_false_iff_not] at hb
      have hlt : i.toNatClampNeg < c.2.length := Nat.le_of_ble_eq_true hb.2.2
      cases h
      exact ⟨c.1, c.2, hc, hb.1, hb.2.1, hlt, fun q => q.elim hb.2.1 (fun z => Nat.not_le.mpr hlt z), rfl, rfl⟩
    | false => rw [hb] at h; cases h
  · cases h
theorem s_iv_set {vs : List Value} {j : Nat} {x : Int32} (h : j < vs.length) : upd (s_iv vs) j x = s_iv (vs.set j (.int x)) := by
  funext k
  unfold upd s_iv
  by_cases hk : k = j
  · subst hk; simp [h]
  · rw [if_neg hk, List.getElem?_set_ne (fun q => hk q.symm)]
theorem s_lv_set {vs : List Value} {j : Nat} {x : Int64} (h : j < vs.length) : vp_updL (s_lv vs) j x = s_lv (vs.set j (.long x)) := by
  funext k
  unfold vp_updL s_lv
  by_cases hk : k = j
  · subst hk; simp [h]
  · rw [if_neg hk, List.getElem?_set_ne (fun q => hk q.symm)]
theorem s_qv_set {α : Nat → Nat} {vs : List Value} {j : Nat} {x : Nat} (h : j < vs.length) : va_up (s_qv α vs) j (some (α x)) = s_qv α (vs.set j (.ref x)) := by
  funext k
  unfold va_up s_qv
  by_cases hk : k = j
  · subst hk; simp [h]
  · rw [if_neg hk, List.getElem?_set_ne (fun q => hk q.symm)]
section S10
variable {p : Program} {l : Launch} {e : Env} {R : Room} {s : State} {m : MethodId} {args : Array Value} {below : List Frame} {meth : Method} {c : Code} {H : Heap} {locs : List Loc} {cells slots : Nat} {Q : State → Prop}
variable {own mx : Nat} {ini : Bool} {cc : ByteArray} {D : va_G} {cy tt α : Nat → Nat} {E : sE} {A : Nat → Prop} {M : sM}
set_option maxHeartbeats 4000000 in
theorem s_simW (hF : s_Fr p s m args meth c own ini cc mx) (hK : s_Kx D cy s) (hP : va_P D vwCl (s_img cy tt α M) H) (hD : va_D A (s_img cy tt α M)) (hS : va_S A s.heap H locs) {st : List Value} {lsR : Array Slot} {pc len : Nat} {i r : Jvm.ClassFile.Instr} (hd : decode cc pc = .ok (r, len)) (hr : s_res own ini r = some i) (hn : s_ln2 i len = true) {st' : List Value} {M' : sM} (h : s_wr s_fty i st M = some (st', M'))
    (kk : ∀ (H1 : Heap) (locs1 : List Loc), va_P D vwCl (s_img cy tt α M') H1 → va_D A (s_img cy tt α M') → va_S A s.heap H1 locs1 → W p l e R s m args below meth c H1 locs1 cells slots Q (F0 m (pc + len) lsR (st'.map (s_tr tt α)))) : W p l e R s m args below meth c H locs cells slots Q (F0 m pc lsR (st.map (s_tr tt α))) := by
  obtain ⟨hx, hb, hml, hown, hts, hin⟩ := hF
  cases i
  case putfield n =>
    obtain ⟨x9, rfl, hk9, hf9⟩ := s_res_putfield hr
    obtain rfl := of_decide_eq_true hn
    replace h : s_pf s_fty n st M = _ := h
    unfold s_pf at h
    split at h
    · rename_i v a r9
      split at h
      · rename_i q hq
        cases hz : (Nat.beq q.1 (n / 64) && (s_fit (s_fty (n / 64) (n % 64)) v && Nat.blt (n % 64) q.2.length)) with
        | true =>
          rw [hz] at h
          simp only [Bool.and_eq_true] at hz
          obtain ⟨k, fs⟩ := q
          have e1 : k = n / 64 := Nat.eq_of_beq_eq_true hz.1
          subst e1
          have hlt : n % 64 < fs.length := Nat.le_of_ble_eq_true hz.2.2
          cases h
          obtain ⟨C, T, N, g1, g2, g3, g4⟩ := s_kFat hk9
          obtain ⟨c1, c2, c3, c4, c5, c6, c7⟩ := s_clok g1
          have h12 : n / 64 < 12 := (List.getElem?_eq_some_iff.mp g1).1
          have h3 := s_img_at (cy := cy) (tt := tt) (α := α) hq
          rw [show s_im cy tt α (n / 64, fs) = .inr (n / 64, fs.map (s_tr tt α)) from if_pos h12] at h3
          have hfi : (T (n % 64)).2.2.2 = false := by
            have h5 := hf9
            unfold s_fin at h5
            rw [g1] at h5
            exact h5
          refine va_put hx hb hts c1 (s_fty (n / 64)) c2 c3 hown hK.1 hP hD hS a h3 g1 (n % 64) g2 (hts _ g3) (fun x hx9 => by rw [g4] at hx9; exact hx9) hfi (c2 _ g2) (s_fit_ok hz.2.1).1 (s_fit_ok hz.2.1).2 (by rw [List.length_map]; exact hlt) hd (fun H1 locs1 hP1 hD1 hS1 => ?_)
          have e2 : (s_img cy tt α M).set a (α a, .inr (n / 64, (fs.map (s_tr tt α)).set (n % 64) (s_tr tt α v))) = s_img cy tt α (M.set a (n / 64, fs.set (n % 64) v)) := by
            rw [← s_img_set, show s_im cy tt α (n / 64, fs.set (n % 64) v) = .inr (n / 64, (fs.set (n % 64) v).map (s_tr tt α)) from if_pos h12, List.map_set]
          rw [e2] at hP1 hD1
          exact kk H1 locs1 hP1 hD1 hS1
        | false => rw [hz] at h; cases h
      · cases h
    · cases h
  case putstatic n =>
    obtain ⟨x9, rfl, hk9, hf9, hi9, ho9⟩ := s_res_putstatic hr
    obtain rfl := of_decide_eq_true hn
    replace h : s_pf s_fty n st M = _ := h
    unfold s_pf at h
    split at h
    · rename_i v a r9
      split at h
      · rename_i q hq
        cases hz : (Nat.beq q.1 (n / 64) && (s_fit (s_fty (n / 64) (n % 64)) v && Nat.blt (n % 64) q.2.length)) with
        | true =>
          rw [hz] at h
          simp only [Bool.and_eq_true] at hz
          obtain ⟨k, fs⟩ := q
          have e1 : k = n / 64 := Nat.eq_of_beq_eq_true hz.1
          subst e1
          have hlt : n % 64 < fs.length := Nat.le_of_ble_eq_true hz.2.2
          cases h
          obtain ⟨C, T, N, g1, g2, g3, g4⟩ := s_kFat hk9
          obtain ⟨c1, c2, c3, c4, c5, c6, c7⟩ := s_clok g1
          have h12 : n / 64 < 12 := (List.getElem?_eq_some_iff.mp g1).1
          have h3 := s_img_at (cy := cy) (tt := tt) (α := α) hq
          rw [show s_im cy tt α (n / 64, fs) = .inr (n / 64, fs.map (s_tr tt α)) from if_pos h12] at h3
          have hfi : (T (n % 64)).2.2.2 = true := by
            have h5 := hf9
            unfold s_fin at h5
            rw [g1] at h5
            exact h5
          refine va_putF hx hb hts c1 (s_fty (n / 64)) c2 c3 hown hK.1 hP hD hS a h3 g1 (n % 64) g2 (hts _ g3) (fun x hx9 => by rw [g4] at hx9; exact hx9) hfi (hin hi9) (by rw [g4, ho9, c7]) (c2 _ g2) (s_fit_ok hz.2.1).1 (s_fit_ok hz.2.1).2 (by rw [List.length_map]; exact hlt) hd (fun H1 locs1 hP1 hD1 hS1 => ?_)
          have e2 : (s_img cy tt α M).set a (α a, .inr (n / 64, (fs.map (s_tr tt α)).set (n % 64) (s_tr tt α v))) = s_img cy tt α (M.set a (n / 64, fs.set (n % 64) v)) := by
            rw [← s_img_set, show s_im cy tt α (n / 64, fs.set (n % 64) v) = .inr (n / 64, (fs.set (n % 64) v).map (s_tr tt α)) from if_pos h12, List.map_set]
          rw [e2] at hP1 hD1
          exact kk H1 locs1 hP1 hD1 hS1
        | false => rw [hz] at h; cases h
      · cases h
    · cases h
  case iastore =>
    have e := s_res_pl rfl hr
    subst e
    obtain rfl := of_decide_eq_true hn
    unfold s_wr at h
    dsimp only at h
    split at h
    · rename_i x j a r9
      obtain ⟨k, vs, h1, hk, h0, h2, h3, rfl, rfl⟩ := s_ps_sp h
      obtain rfl := Nat.eq_of_beq_eq_true hk
      have h4 := s_img_at (cy := cy) (tt := tt) (α := α) h1
      rw [s_im_i] at h4
      refine va_iast hx hb hK.1 hP hD hS a 1 h4 rfl h3 hd (fun H1 locs1 hP1 hD1 hS1 => ?_)
      rw [s_iv_set h2, ← List.length_set (as := vs) (i := j.toNatClampNeg) (a := Value.int x), ← s_im_i (tt := tt) (α := α), s_img_set] at hP1 hD1
      exact kk H1 locs1 hP1 hD1 hS1
    · cases h
  case sastore =>
    have e := s_res_pl rfl hr
    subst e
    obtain rfl := of_decide_eq_true hn
    unfold s_wr at h
    dsimp only at h
    split at h
    · rename_i x j a r9
      obtain ⟨k, vs, h1, hk, h0, h2, h3, rfl, rfl⟩ := s_ps_sp h
      obtain rfl := Nat.eq_of_beq_eq_true hk
      have h4 := s_img_at (cy := cy) (tt := tt) (α := α) h1
      rw [s_im_s] at h4
      refine va_sast hx hb hK.1 hP hD hS a 3 h4 rfl h3 hd (fun H1 locs1 hP1 hD1 hS1 => ?_)
      rw [s_iv_set h2, ← List.length_set (as := vs) (i := j.toNatClampNeg) (a := Value.int (vp_nar .short x)), ← s_im_s (tt := tt) (α := α), s_img_set] at hP1 hD1
      exact kk H1 locs1 hP1 hD1 hS1
    · cases h
  case lastore =>
    have e := s_res_pl rfl hr
    subst e
    obtain rfl := of_decide_eq_true hn
    unfold s_wr at h
    dsimp only at h
    split at h
    · rename_i x j a r9
      obtain ⟨k, vs, h1, hk, h0, h2, h3, rfl, rfl⟩ := s_ps_sp h
      obtain rfl := Nat.eq_of_beq_eq_true hk
      have h4 := s_img_at (cy := cy) (tt := tt) (α := α) h1
      rw [s_im_l] at h4
      refine va_last hx hb hK.1 hP hD hS a 2 h4 rfl h3 hd (fun H1 locs1 hP1 hD1 hS1 => ?_)
      rw [s_lv_set h2, ← List.length_set (as := vs) (i := j.toNatClampNeg) (a := Value.long x), ← s_im_l (tt := tt) (α := α), s_img_set] at hP1 hD1
      exact kk H1 locs1 hP1 hD1 hS1
    · cases h
  case bastore =>
    have e := s_res_pl rfl hr
    subst e
    obtain rfl := of_decide_eq_true hn
    unfold s_wr at h
    dsimp only at h
    split at h
    · rename_i x j a r9
      cases hz : Nat.beq (s_kd M a) 12 with
      | true =>
        rw [hz, cond_true] at h
        obtain ⟨k, vs, h1, hk, h0, h2, h3, rfl, rfl⟩ := s_ps_sp h
        obtain rfl := Nat.eq_of_beq_eq_true hk
        have h4 := s_img_at (cy := cy) (tt := tt) (α := α) h1
        rw [s_im_b] at h4
        refine va_bast hx hb hK.1 hP hD hS a 0 h4 rfl h3 hd (fun H1 locs1 hP1 hD1 hS1 => ?_)
        rw [s_iv_set h2, ← List.length_set (as := vs) (i := j.toNatClampNeg) (a := Value.int (vp_nar .byte x)), ← s_im_b (tt := tt) (α := α), s_img_set] at hP1 hD1
        exact kk H1 locs1 hP1 hD1 hS1
      | false =>
        rw [hz, cond_false] at h
        obtain ⟨k, vs, h1, hk, h0, h2, h3, rfl, rfl⟩ := s_ps_sp h
        obtain rfl := Nat.eq_of_beq_eq_true hk
        have h4 := s_img_at (cy := cy) (tt := tt) (α := α) h1
        rw [s_im_z] at h4
        refine va_zast hx hb hK.1 hP hD hS a 4 h4 rfl h3 hd (fun H1 locs1 hP1 hD1 hS1 => ?_)
        rw [s_iv_set h2, ← List.length_set (as := vs) (i := j.toNatClampNeg) (a := Value.int (vp_nar .boolean x)), ← s_im_z (tt := tt) (α := α), s_img_set] at hP1 hD1
        exact kk H1 locs1 hP1 hD1 hS1
    · cases h
  case aastore =>
    have e := s_res_pl rfl hr
    subst e
    obtain rfl := of_decide_eq_true hn
    unfold s_wr at h
    dsimp only at h
    split at h
    · rename_i v j a r9
      obtain ⟨k, vs, h1, hk, h0, h2, h3, rfl, rfl⟩ := s_ps_sp h
      have hkk : ∃ (ci : Nat) (q : vw_C) (fs : List Value), 17 ≤ k ∧ k ≤ 19 ∧ ci < 12 ∧ M[v]? = some (ci, fs) ∧ vwCl[ci]? = some q ∧ (s_tys cy)[k - 12]? = some (cy k, .object q.1) := by
        have hkd : ∀ z, Nat.beq (s_kd M v) z = true → z < 12 → ∃ fs, M[v]? = some (z, fs) := by
          intro z hz hz2
          have hz := Nat.eq_of_beq_eq_true hz
          unfold s_kd at hz
          split at hz
          · rename_i c9 hc9
            exact ⟨c9.2, by rw [hc9, ← hz]⟩
          · omega
        simp only [Bool.or_eq_true, Bool.and_eq_true] at hk
        rcases hk with ⟨hk, hv⟩ | ⟨hk, hv⟩ | ⟨hk, hv⟩ <;> (obtain rfl := Nat.eq_of_beq_eq_true hk; obtain ⟨fs, hfs⟩ := hkd _ hv (by decide); exact ⟨_, _, fs, by decide, by decide, by decide, hfs, rfl, rfl⟩)
      obtain ⟨ci, q, fs, k17, k19, hci, hM9, hc9, ht9⟩ := hkk
      have h4 := s_img_at (cy := cy) (tt := tt) (α := α) h1
      rw [s_im_q k17] at h4
      have h5 := s_img_at (cy := cy) (tt := tt) (α := α) hM9
      rw [show s_im cy tt α (ci, fs) = .inr (ci, fs.map (s_tr tt α)) from if_pos hci] at h5
      refine va_astq hx hb hK.1 hP hD hS a (k - 12) v ci h4 ht9 h5 hc9 h3 hd (fun H1 locs1 hP1 hD1 hS1 => ?_)
      rw [s_qv_set h2, ← List.length_set (as := vs) (i := j.toNatClampNeg) (a := Value.ref v), ← s_im_q (tt := tt) (α := α) k17, s_img_set] at hP1 hD1
      exact kk H1 locs1 hP1 hD1 hS1
    · cases h
  all_goals exact nomatch (show none = some _ from h)
end S10
