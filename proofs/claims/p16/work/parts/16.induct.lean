/-! THE INDUCTION over the small machine's steps -/
theorem s_tol_tr {tt α β : Nat → Nat} {n : Nat} {v : Option Value} {r : List Value} (h : ∀ i, i < n → β i = α i) (hr : s_lok n r) : (v.toList ++ r).map (s_tr tt β) = (v.map (s_tr tt β)).toList ++ r.map (s_tr tt α) := by
  rw [List.map_append, s_trs_eq h hr]
  cases v <;> rfl
theorem s_im_set_i {cy : Nat → ClassId} {tt α : Nat → Nat} {vs ws : List Value} (h : ws.length = vs.length) : (Sum.inl (cy 13, vs.length, Sum.inl (s_iv ws)) : va_E) = s_im cy tt α (13, ws) := by rw [s_im_i, h]
theorem s_im_set_l {cy : Nat → ClassId} {tt α : Nat → Nat} {vs ws : List Value} (h : ws.length = vs.length) : (Sum.inl (cy 14, vs.length, Sum.inr (Sum.inl (s_lv ws))) : va_E) = s_im cy tt α (14, ws) := by rw [s_im_l, h]
set_option maxRecDepth 100000 in
theorem s_w_ac : Cond.native arraycopyName ∈ s_G ∧ Cond.static arraycopyName ∈ s_G ∧ Cond.initialized "java/lang/System" ∈ s_G := ⟨s_inG (by decide +kernel) rfl, s_inG (by decide +kernel) rfl, s_inG (by decide +kernel) rfl⟩
set_option maxRecDepth 100000 in
theorem s_w_mm : Cond.static Lib.Math.min.name ∈ s_G ∧ Cond.static Lib.Math.max.name ∈ s_G ∧ Cond.initialized "java/lang/Math" ∈ s_G ∧ Cond.code Lib.Math.min.name Lib.Math.min.code 2 (some .int) ∈ s_G ∧ Cond.code Lib.Math.max.name Lib.Math.max.code 2 (some .int) ∈ s_G := ⟨s_inG (by decide +kernel) rfl, s_inG (by decide +kernel) rfl, s_inG (by decide +kernel) rfl, s_inG (by decide +kernel) rfl, s_inG (by decide +kernel) rfl⟩
set_option maxRecDepth 100000 in
theorem s_w_oi : Cond.instanceMethod Lib.objectInit ∈ s_G ∧ Cond.code Lib.objectInit ⟨#[0xb1]⟩ 1 none ∈ s_G := ⟨s_inG (by decide +kernel) rfl, s_inG (by decide +kernel) rfl⟩
set_option maxHeartbeats 8000000 in
theorem s_Fp_succ {l : Launch} {n : Nat} (hn : s_Fp l n) : s_Fp l (n + 1) := by
  intro p e R s m args below meth c Q own ini cc D cy tt E A μ MC MS o M' α0 n0 hF hC hL hK hT hA hMC hMS hret d pc ls st M α H locs cells slots lsR hdf hdl hn0 hα hls hst hM hP hD hS hl hx hcl hsl
  have hMt := s_met_of hn
  obtain ⟨hx1, hb, hml, hown, hts, hin⟩ := id hF
  rw [s_xs] at hx
  obtain ⟨i, len, hf, hx⟩ := s_step_sp hx
  obtain ⟨r, hd, hr⟩ := hC pc (i, len) hf
  have hn2 := hL pc (i, len) hf
  dsimp only at hd hr hn2
  -- what follows a call
  have after : ∀ {d' : Nat} {v : Option Value} {as rr : List Value} {M2 : sM} {ν : sMeth}, d = d' + 1 → s_lok M.length as → s_lok M.length rr → s_x s_prog s_fty s_ft E n d' ν 0 (lv_args 0 as) [] M = some (v, M2) → s_x s_prog s_fty s_ft E n (d' + 1) μ (pc + 3) ls (v.toList ++ rr) M2 = some (o, M') → (M.length ≤ M2.length ∧ s_slots M ≤ s_slots M2 ∧ M2.length ≤ M'.length ∧ s_slots M2 ≤ s_slots M') ∧ ∀ (β : Nat → Nat) (H1 : Heap) (locs1 : List Loc), (∀ i, i < M.length → β i = α i) → va_P D vwCl (s_img cy tt β M2) H1 → va_D A (s_img cy tt β M2) → va_S A s.heap H1 locs1 → W p l e R s m args below meth c H1 locs1 (cells + (M2.length - M.length)) (slots + (s_slots M2 - s_slots M)) Q (F0 m (pc + 3) lsR ((v.map (s_tr tt β)).toList ++ rr.map (s_tr tt α))) := by
    intro d' v as rr M2 ν hd' has hrr h1 h2
    subst hd'
    obtain ⟨g1, g2, g3, g4⟩ := s_inv n _ _ _ _ _ _ _ _ h1 (s_args_ok has 0) s_lok_nil hM
    have k2 := s_tol_ok g4 (s_lok_le g1 hrr)
    obtain ⟨f1, f2, f3, f4⟩ := s_inv n _ _ _ _ _ _ _ _ h2 (s_sok_le g1 hls) k2 g3
    refine ⟨⟨g1, g2, f1, f2⟩, fun β H1 locs1 hβ hP1 hD1 hS1 => ?_⟩
    rw [← s_tol_tr hβ hrr]
    exact hn p e R s m args below meth c Q own ini cc D cy tt E A μ MC MS o M' α0 n0 hF hC hL hK hT hA hMC hMS hret (d' + 1) (pc + 3) ls (v.toList ++ rr) M2 β H1 locs1 _ _ lsR hdf hdl (Nat.le_trans hn0 g1) (fun i hi => (hβ i (Nat.lt_of_lt_of_le hi hn0)).trans (hα i hi)) (s_sok_le g1 hls) k2 g3 hP1 hD1 hS1 (by rw [s_trl_eq hβ hls]; exact hl) h2 (by omega) (by omega)
  rcases hx with ⟨w, as, x, rr, ν, rfl, h1, h2, h3, h4⟩ | ⟨x, rr, d', rfl, rfl, rfl, h1, h2⟩ | ⟨w, as, x, rr, ν, rfl, hw0, h1, h2, h4⟩ | ⟨w, as, rr, ν, rfl, h1, h2, h4⟩ | ⟨w, k, as, rr, ν, rfl, h1, h2, h4⟩ | ⟨rr, d', M2, rfl, rfl, h1, h2⟩ | ⟨w, x, y, rr, d', rfl, hw0, rfl, rfl, h1, h2⟩ | ⟨x, rfl, rfl, h1, rfl, rfl⟩ | ⟨x, rfl, rfl, h1, rfl, rfl⟩ | ⟨x, rfl, rfl, h1, rfl, rfl⟩ | ⟨rfl, rfl, h1, rfl, rfl⟩ | ⟨rfl, rfl, h1, rfl, rfl⟩ | ⟨rr, M2, h1, h2⟩ | ⟨rr, M2, h1, h2⟩ | ⟨P, ls', st', h1, h2⟩
  · -- invokevirtual
    obtain ⟨xi, rfl, hlk⟩ := s_res_invokevirtual hr
    obtain rfl : len = 3 := (of_decide_eq_true hn2).symm
    obtain ⟨en, he1, he2, he3, he4, he5⟩ := s_kVat hlk
    obtain ⟨en', he', rfl⟩ := s_prog_ent h2
    cases he1.symm.trans he'
    obtain ⟨d', v, M2, rfl, hroom, hrun, hcont⟩ := s_call_sp h4
    obtain ⟨hs1, hs2⟩ := s_split_sp _ _ _ _ _ h1
    obtain ⟨ho1, ho2⟩ := s_split_ok h1 hst
    have has : s_lok M.length (.ref x :: as) := s_lok_c.mpr ⟨(s_lok_c.mp ho2).1, ho1⟩
    obtain ⟨⟨a1, a2, a3, a4⟩, kk⟩ := after rfl has (s_lok_c.mp ho2).2 hrun hcont
    exact s_callW hMt hF hK hT hP hD hS hA hl.1 he1 hroom hrun has hM a1 a2 hdf hdl (by omega) (by omega) (Or.inl ⟨x, as, rfl, hs1.symm, h3, hd, he2, he4, he5, by rw [he3, hs2]; simp⟩) kk
  · -- Object.<init>
    obtain ⟨xi, rfl, hlk⟩ := s_res_invokespecial hr
    obtain rfl : len = 3 := (of_decide_eq_true hn2).symm
    refine W.objInit hx1 hb hown (hts _ (s_kI0 hlk)) (hts _ s_w_oi.1) (hts _ s_w_oi.2) (g := F0 m pc lsR (.ref (α x) :: rr.map (s_tr tt α))) rfl (hl.1.trans hml.symm) rfl hd (Nat.le_trans (Nat.le_add_left 1 d') hdf) ?_ ?_
    · have h9 : 2 * (F0 m pc lsR (.ref (α x) :: rr.map (s_tr tt α))).monitorRoom + ((rr.map (s_tr tt α)).map fun v => v.category).sum ≤ 8 := lv_room (by rw [s_cat_sum]; exact h1)
      omega
    · exact hn p e R s m args below meth c Q own ini cc D cy tt E A μ MC MS o M' α0 n0 hF hC hL hK hT hA hMC hMS hret (d' + 1) (pc + 3) ls rr M α H locs cells slots lsR hdf hdl hn0 hα hls (s_lok_c.mp hst).2 hM hP hD hS hl h2 hcl hsl
  · -- invokespecial
    obtain ⟨xi, rfl, hlk⟩ := s_res_invokespecial hr
    obtain rfl : len = 3 := (of_decide_eq_true hn2).symm
    obtain ⟨en, he1, he2, he3, he4⟩ := s_kIat hlk hw0
    obtain ⟨en', he', rfl⟩ := s_prog_ent h2
    cases he1.symm.trans he'
    obtain ⟨d', v, M2, rfl, hroom, hrun, hcont⟩ := s_call_sp h4
    obtain ⟨hs1, hs2⟩ := s_split_sp _ _ _ _ _ h1
    obtain ⟨ho1, ho2⟩ := s_split_ok h1 hst
    have has : s_lok M.length (.ref x :: as) := s_lok_c.mpr ⟨(s_lok_c.mp ho2).1, ho1⟩
    obtain ⟨⟨a1, a2, a3, a4⟩, kk⟩ := after rfl has (s_lok_c.mp ho2).2 hrun hcont
    exact s_callW hMt hF hK hT hP hD hS hA hl.1 he1 hroom hrun has hM a1 a2 hdf hdl (by omega) (by omega) (Or.inr (Or.inl ⟨x, as, rfl, hs1.symm, hd, he2, he4, by rw [he3, hs2]; simp⟩)) kk
  · -- invokestatic
    obtain ⟨xi, rfl, hlk⟩ := (s_res_static hr).1 _ rfl
    obtain rfl : len = 3 := (of_decide_eq_true hn2).symm
    obtain ⟨en, he1, he2, he3, he4⟩ := s_kTat hlk
    obtain ⟨en', he', rfl⟩ := s_prog_ent h2
    cases he1.symm.trans he'
    obtain ⟨d', v, M2, rfl, hroom, hrun, hcont⟩ := s_call_sp h4
    obtain ⟨hs1, hs2⟩ := s_split_sp _ _ _ _ _ h1
    obtain ⟨ho1, ho2⟩ := s_split_ok h1 hst
    obtain ⟨⟨a1, a2, a3, a4⟩, kk⟩ := after rfl ho1 ho2 hrun hcont
    exact s_callW hMt hF hK hT hP hD hS hA hl.1 he1 hroom hrun ho1 hM a1 a2 hdf hdl (by omega) (by omega) (Or.inr (Or.inr ⟨hs1.symm, hd, Or.inl he2, he4, by rw [he3, hs2]; simp⟩)) kk
  · -- a nest mate's static method
    obtain ⟨xi, rfl, hlk⟩ := (s_res_static hr).2.2 _ _ rfl
    obtain rfl : len = 3 := (of_decide_eq_true hn2).symm
    obtain ⟨en, he1, he2, he3, he4⟩ := s_kHat hlk
    obtain ⟨en', he', rfl⟩ := s_prog_ent h2
    cases he1.symm.trans he'
    obtain ⟨d', v, M2, rfl, hroom, hrun, hcont⟩ := s_call_sp h4
    obtain ⟨hs1, hs2⟩ := s_split_sp _ _ _ _ _ h1
    obtain ⟨ho1, ho2⟩ := s_split_ok h1 hst
    obtain ⟨⟨a1, a2, a3, a4⟩, kk⟩ := after rfl ho1 ho2 hrun hcont
    exact s_callW hMt hF hK hT hP hD hS hA hl.1 he1 hroom hrun ho1 hM a1 a2 hdf hdl (by omega) (by omega) (Or.inr (Or.inr ⟨hs1.symm, hd, Or.inr he2, he4, by rw [he3, hs2]; simp⟩)) kk
  · -- arraycopy
    obtain ⟨xi, rfl, hlk⟩ := (s_res_static hr).2.1 _ rfl
    obtain rfl : len = 3 := (of_decide_eq_true hn2).symm
    obtain ⟨hw3, hlink⟩ := s_kNat hlk
    rw [if_pos rfl] at hlink
    obtain ⟨k1, k2, k3, k4⟩ := s_ac_ok h1 hst hM
    obtain ⟨n1, dp, b1, sp, a, k, va, vb, rfl, g1, g2, g3, g4, g5, g6, g7, g8, g9, rfl⟩ := s_ac_sp h1
    have q0 := s_img_at (cy := cy) (tt := tt) (α := α) g1
    have q1 := s_img_at (cy := cy) (tt := tt) (α := α) g2
    have hro : ((rr.map (s_tr tt α)).map fun v => v.category).sum + (nativeFrameWords "java/lang/System" "arraycopy" 5 + 11) ≤ R.locals := by
      have e9 : nativeFrameWords "java/lang/System" "arraycopy" 5 = 7 := by decide
      rw [s_cat_sum, e9]
      omega
    have go : ∀ (H1 : Heap) (locs1 : List Loc), va_P D vwCl (s_img cy tt α (M.set b1 (k, s_cpy va vb sp.toNatClampNeg dp.toNatClampNeg n1.toNatClampNeg))) H1 → va_D A (s_img cy tt α (M.set b1 (k, s_cpy va vb sp.toNatClampNeg dp.toNatClampNeg n1.toNatClampNeg))) → va_S A s.heap H1 locs1 → W p l e R s m args below meth c H1 locs1 cells slots Q (F0 m (pc + 3) lsR (rr.map (s_tr tt α))) := fun H1 locs1 hP1 hD1 hS1 =>
      hn p e R s m args below meth c Q own ini cc D cy tt E A μ MC MS o M' α0 n0 hF hC hL hK hT hA hMC hMS hret (d' + 1) (pc + 3) ls rr _ α H1 locs1 cells slots lsR hdf hdl (by rw [k2]; exact hn0) hα (by rw [k2]; exact hls) (by rw [k2]; exact k1) (by rw [k2]; exact k4) hP1 hD1 hS1 hl h2 (by rw [k2]; exact hcl) (by rw [k3]; exact hsl)
    rcases g3 with rfl | rfl
    · rw [s_im_i] at q0 q1
      refine va_copyi hx1 hb (hml.trans hl.1.symm) hown (hts _ hlink) (hts _ s_w_ac.1) (hts _ s_w_ac.2.1) (hts _ s_w_ac.2.2) hK.1 hP hD hS a b1 1 1 q0 q1 rfl rfl rfl g4 g5 g6 g7 g8 (fun _ _ => rfl) (Nat.le_trans (Nat.le_add_left 1 d') hdf) hro hd (fun H1 locs1 hP1 hD1 hS1 => ?_)
      rw [s_iv_cpy g7 g8, s_im_set_i (tt := tt) (α := α) (s_cpy_len g7 g8), s_img_set] at hP1 hD1
      exact go H1 locs1 hP1 hD1 hS1
    · rw [s_im_l] at q0 q1
      refine va_copyl hx1 hb (hml.trans hl.1.symm) hown (hts _ hlink) (hts _ s_w_ac.1) (hts _ s_w_ac.2.1) (hts _ s_w_ac.2.2) hK.1 hP hD hS a b1 2 2 q0 q1 rfl rfl rfl g4 g5 g6 g7 g8 (fun _ _ => rfl) (Nat.le_trans (Nat.le_add_left 1 d') hdf) hro hd (fun H1 locs1 hP1 hD1 hS1 => ?_)
      rw [s_lv_cpy g7 g8, s_im_set_l (tt := tt) (α := α) (s_cpy_len g7 g8), s_img_set] at hP1 hD1
      exact go H1 locs1 hP1 hD1 hS1
  · -- min, max
    obtain ⟨xi, rfl, hlk⟩ := (s_res_static hr).2.1 _ rfl
    obtain rfl : len = 3 := (of_decide_eq_true hn2).symm
    obtain ⟨hw3, hlink⟩ := s_kNat hlk
    rw [if_neg hw0] at hlink
    have hro : ((rr.map (s_tr tt α)).map fun v => v.category).sum + 13 ≤ R.locals := by
      have h9 : (rr.map fun v => v.category).sum ≤ 8 := h1
      rw [s_cat_sum]
      omega
    have hmono := s_inv n _ _ _ _ _ _ _ _ h2 hls (s_lok_c.mpr ⟨s_vok_i, (s_lok_c.mp (s_lok_c.mp hst).2).2⟩) hM
    have hc9 : cells ≤ R.cells := by have := hmono.1; omega
    have hs9 : slots ≤ R.slots := by have := hmono.2.1; omega
    have go := hn p e R s m args below meth c Q own ini cc D cy tt E A μ MC MS o M' α0 n0 hF hC hL hK hT hA hMC hMS hret (d' + 1) (pc + 3) ls _ M α H locs cells slots lsR hdf hdl hn0 hα hls (s_lok_c.mpr ⟨s_vok_i, (s_lok_c.mp (s_lok_c.mp hst).2).2⟩) hM hP hD hS hl h2 hcl hsl
    rcases (show w = 1 ∨ w = 2 by omega) with rfl | rfl
    · exact va_mmin hx1 hb (hml.trans hl.1.symm) hown (hts _ hlink) (hts _ s_w_mm.1) (hts _ s_w_mm.2.2.1) (hts _ s_w_mm.2.2.2.1) (Nat.le_trans (Nat.le_add_left 1 d') hdf) hro hc9 hs9 hd go
    · exact va_mmax hx1 hb (hml.trans hl.1.symm) hown (hts _ hlink) (hts _ s_w_mm.2.1) (hts _ s_w_mm.2.2.1) (hts _ s_w_mm.2.2.2.2) (Nat.le_trans (Nat.le_add_left 1 d') hdf) hro hc9 hs9 hd go
  · have e := s_res_pl rfl hr
    subst e
    obtain rfl : len = 1 := (of_decide_eq_true hn2).symm
    exact W.widen (by omega) (by omega) (hret α H locs pc lsR _ hα hP hD hS (Or.inl ⟨x, rfl, rfl, h1⟩) hd)
  · have e := s_res_pl rfl hr
    subst e
    obtain rfl : len = 1 := (of_decide_eq_true hn2).symm
    exact W.widen (by omega) (by omega) (hret α H locs pc lsR _ hα hP hD hS (Or.inr (Or.inl ⟨x, rfl, rfl, h1⟩)) hd)
  · have e := s_res_pl rfl hr
    subst e
    obtain rfl : len = 1 := (of_decide_eq_true hn2).symm
    exact W.widen (by omega) (by omega) (hret α H locs pc lsR _ hα hP hD hS (Or.inr (Or.inr (Or.inl ⟨x, rfl, rfl, h1⟩))) hd)
  · have e := s_res_pl rfl hr
    subst e
    obtain rfl : len = 1 := (of_decide_eq_true hn2).symm
    exact W.widen (by omega) (by omega) (hret α H locs pc lsR _ hα hP hD hS (Or.inr (Or.inr (Or.inr (Or.inl ⟨rfl, rfl, h1⟩)))) hd)
  · have e := s_res_pl rfl hr
    subst e
    obtain rfl : len = 1 := (of_decide_eq_true hn2).symm
    exact W.widen (by omega) (by omega) (hret α H locs pc lsR _ hα hP hD hS (Or.inr (Or.inr (Or.inr (Or.inr ⟨rfl, rfl, h1⟩)))) hd)
  · obtain ⟨k1, k2, k3, k4⟩ := s_wr_ok h1 hst hM
    exact s_simW hF hK hP hD hS hd hr hn2 h1 (fun H1 locs1 hP1 hD1 hS1 => hn p e R s m args below meth c Q own ini cc D cy tt E A μ MC MS o M' α0 n0 hF hC hL hK hT hA hMC hMS hret d (pc + len) ls rr M2 α H1 locs1 cells slots lsR hdf hdl (by rw [k2]; exact hn0) hα (by rw [k2]; exact hls) (by rw [k2]; exact k1) (by rw [k2]; exact k4) hP1 hD1 hS1 hl h2 (by rw [k2]; exact hcl) (by rw [k3]; exact hsl))
  · obtain ⟨k1, k2, k3, k4⟩ := s_al_ok h1 hst hM
    have hls2 : s_sok M2.length ls := s_sok_le (by omega) hls
    obtain ⟨f1, f2, -, -⟩ := s_inv n _ _ _ _ _ _ _ _ h2 hls2 k1 k4
    exact s_simA hF hK hP hD hS hA hM hst hd hr hn2 h1 (by omega) (by omega) (fun q H1 hP1 hD1 hS1 => hn p e R s m args below meth c Q own ini cc D cy tt E A μ MC MS o M' α0 n0 hF hC hL hK hT hA hMC hMS hret d (pc + len) ls rr M2 (s_up α M.length q) H1 locs (cells + 1) (slots + s_newslots M M2) lsR hdf hdl (by omega) (fun i hi => (s_up_ne (Nat.lt_of_lt_of_le hi hn0)).trans (hα i hi)) hls2 k1 k4 hP1 hD1 hS1 (by rw [s_trl_eq (fun i hi => s_up_ne hi) hls]; exact hl) h2 (by omega) (by omega))
  · obtain ⟨k1, k2⟩ := s_pure_ok h1 hls hst hM
    exact s_simP hF hK hT hP hS hl hd hr hn2 h1 (fun lsR' hl' => hn p e R s m args below meth c Q own ini cc D cy tt E A μ MC MS o M' α0 n0 hF hC hL hK hT hA hMC hMS hret d P ls' st' M α H locs cells slots lsR' hdf hdl hn0 hα k1 k2 hM hP hD hS hl' h2 hcl hsl)
theorem s_main (l : Launch) : ∀ n, s_Fp l n
  | 0 => by
    intro p e R s m args below meth c Q own ini cc D cy tt E A μ MC MS o M' α0 n0 hF hC hL hK hT hA hMC hMS hret d pc ls st M α H locs cells slots lsR hdf hdl hn0 hα hls hst hM hP hD hS hl hx hcl hsl
    cases hx
  | n + 1 => s_Fp_succ (s_main l n)
theorem s_met (l : Launch) (n : Nat) : s_Mt l n := s_met_of (s_main l n)
