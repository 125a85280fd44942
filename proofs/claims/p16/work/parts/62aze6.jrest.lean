/-! meant and under leave all as it was; the quiet calls; bodies and shelves touch nothing of it -/
theorem jq_q {α : Type} {s : vS} {o : Option (α × vS)} (h : v_T o (fun _ t => v_fr s t)) : v_P o (fun _ u => j_E jb_C s u) := v_Pm2 (v_PT h) (fun _ _ x => j_E_fr x jb_C_sc)
theorem jq_n {α : Type} {s : vS} {o : Option (α × vS)} (h : v_T o (fun _ t => t = s)) : v_P o (fun _ u => j_E jb_C s u) := v_Pm2 (v_PT h) (fun _ _ x => by rw [x]; exact j_E_rf)
theorem jq_F {α : Type} {P : Nat → Nat → Prop} {s : vS} {o : Option (α × vS)} (hP : ∀ a j, P a j → 132 ≤ a) (h : v_T o (fun _ t => v_CI t ∧ v_F P s t)) : v_P o (fun _ u => j_E jb_C s u) := v_Pm2 (v_PT h) (fun _ _ x => j_E_F x.2 (fun a j q z => by have := jb_C_lo a j q; have := hP a j z; omega))
theorem jm_q {α : Type} {s : vS} {o : Option (α × vS)} (h : v_T o (fun _ t => v_F v_sd s t)) : v_P o (fun _ u => j_E jb_M s u) := v_Pm2 (v_PT h) (fun _ _ x => j_E_F x jb_M_sd)
theorem jm_n {α : Type} {s : vS} {o : Option (α × vS)} (h : v_T o (fun _ t => t = s)) : v_P o (fun _ u => j_E jb_M s u) := v_Pm2 (v_PT h) (fun _ _ x => by rw [x]; exact j_E_rf)
theorem jm_F {α : Type} {P : Nat → Nat → Prop} {s : vS} {o : Option (α × vS)} (hP : ∀ a j, P a j → 179 ≤ a ∨ (a = 151 ∧ 40 ≤ j)) (h : v_T o (fun _ t => v_RI t ∧ v_F P s t)) : v_P o (fun _ u => j_E jb_M s u) := v_Pm2 (v_PT h) (fun _ _ x => j_E_F x.2 (fun a j q z => by have := jb_M_hi a j q; have := hP a j z; omega))
theorem jp_cB : ∀ a j, c_B a j → 132 ≤ a := fun a j h => by unfold c_B at h; omega
theorem jp_cS : ∀ a j, c_S a j → 132 ≤ a := fun a j h => by unfold c_S at h; omega
theorem jp_mB : ∀ a j, m_B a j → 179 ≤ a ∨ (a = 151 ∧ 40 ≤ j) := fun a j h => by unfold m_B at h; omega
theorem jp_mS : ∀ a j, m_S a j → 179 ≤ a ∨ (a = 151 ∧ 40 ≤ j) := fun a j h => by unfold m_S at h; omega
theorem v_KQ_w1 {s : vS} {a i : Nat} {x : Int32} (h : v_KQ s) (ha : a < 132 ∧ ¬ (a = 8 ∧ i = 1)) : v_KQ (v_w1 s a i x) := by
  refine ⟨?_, fun b hb => ?_⟩
  · rw [v_w1_1, if_neg (by omega)]; exact h.1
  · have h6 := v_k6 hb
    rw [v_w1_1, if_neg (by omega)]; exact h.2 b hb
theorem y_to (b : Int32) (s : vS) (hb : 0 ≤ b.toInt ∧ b.toInt ≤ 2) : f_Ws_to b s = some (s.1 10 b.toNatClampNeg, s) := by
  unfold f_Ws_to
  rw [if_neg (by omega), if_neg (by omega), if_pos (show v_in b 3 from ⟨hb.1, by omega⟩)]
theorem y_from (b : Int32) (s : vS) (hb : 0 ≤ b.toInt ∧ b.toInt ≤ 2) : f_Ws_from b s = some (s.1 11 b.toNatClampNeg, s) := by
  unfold f_Ws_from
  rw [if_neg (by omega), if_neg (by omega), if_pos (show v_in b 3 from ⟨hb.1, by omega⟩)]
theorem y_Ol_meant (b c : Int32) (s : vS) (h : v_KQ s) : v_P (f_Ol_meant b c s) (fun _ t => j_E jb_C s t) := by
  unfold f_Ol_meant
  rw [jz_isWord, v_bi_some, v_bif]
  by_cases hb : 0 ≤ b.toInt ∧ b.toInt ≤ 2
  · rw [if_pos hb]
    refine v_Pbi (v_PT (n_isEither _ _)) ?_
    rintro _ s rfl
    refine v_Pif (fun _ => v_Pret j_E_rf) (fun _ => ?_)
    refine v_Pbi (v_PT (q_hear _ h)) (fun _ t1 h1 => ?_)
    refine v_Pbi (v_PT (q_remember _ (v_KQ_fr h h1))) (fun _ t2 h2 => ?_)
    have h2 := v_fr_tr h1 h2
    rw [y_to b t2 hb, v_bi_some, y_from b t2 hb, v_bi_some]
    refine v_Pbi (y_move b (-1) 0 t2 hb) ?_
    rintro _ t3 rfl
    have k3 : v_KQ (v_w1 (v_w1 t2 10 b.toNatClampNeg (-1)) 11 b.toNatClampNeg 0) := v_KQ_w1 (v_KQ_w1 (v_KQ_fr h h2) (by omega)) (by omega)
    have g3 : j_E (fun a j => jb_C a j ∧ ¬ (a = 10 ∨ a = 11)) s (v_w1 (v_w1 t2 10 b.toNatClampNeg (-1)) 11 b.toNatClampNeg 0) := j_E_w1 (j_E_w1 (j_E_im (j_E_fr h2 jb_C_sc) (fun a j q => q.1)) (fun q => q.2 (Or.inl rfl))) (fun q => q.2 (Or.inr rfl))
    have g10 : ∀ j, ¬ j = b.toNatClampNeg → (v_w1 (v_w1 t2 10 b.toNatClampNeg (-1)) 11 b.toNatClampNeg 0).1 10 j = s.1 10 j ∧ (v_w1 (v_w1 t2 10 b.toNatClampNeg (-1)) 11 b.toNatClampNeg 0).1 11 j = s.1 11 j := fun j hj => ⟨by rw [v_w1_1, if_neg (by omega), v_w1_1, if_neg (by omega)]; exact (h2 10 j (by unfold v_sc; omega)).1, by rw [v_w1_1, if_neg (by omega), v_w1_1, if_neg (by omega)]; exact (h2 11 j (by unfold v_sc; omega)).1⟩
    have e10 : t2.1 10 b.toNatClampNeg = s.1 10 b.toNatClampNeg := (h2 10 _ (by unfold v_sc; omega)).1
    have e11 : t2.1 11 b.toNatClampNeg = s.1 11 b.toNatClampNeg := (h2 11 _ (by unfold v_sc; omega)).1
    rw [e10, e11]
    generalize v_w1 (v_w1 t2 10 b.toNatClampNeg (-1)) 11 b.toNatClampNeg 0 = t3 at k3 g3 g10 ⊢
    refine v_Pbi (v_PT (q_hear _ k3)) (fun _ t4 h4 => ?_)
    refine v_Pbi (v_PT (q_changed _ (v_KQ_fr k3 h4))) (fun _ t5 h5 => ?_)
    have h5 := v_fr_tr h4 h5
    refine v_Pbi (y_move b _ _ t5 hb) ?_
    rintro _ t6 rfl
    have hfin : j_E jb_C s (v_w1 (v_w1 t5 10 b.toNatClampNeg (s.1 10 b.toNatClampNeg)) 11 b.toNatClampNeg (s.1 11 b.toNatClampNeg)) := fun a j q => by
      have h6 := (h5 a j (jb_C_sc a j q)).1
      by_cases ha : a = 10
      · subst ha
        rw [v_w1_1, if_neg (by omega), v_w1_1]
        by_cases hj : j = b.toNatClampNeg
        · rw [if_pos ⟨rfl, hj⟩, hj]
        · rw [if_neg (fun z => hj z.2), h6]; exact (g10 j hj).1
      · by_cases hb : a = 11
        · subst hb
          rw [v_w1_1]
          by_cases hj : j = b.toNatClampNeg
          · rw [if_pos ⟨rfl, hj⟩, hj]
          · rw [if_neg (fun z => hj z.2), v_w1_1, if_neg (by omega), h6]; exact (g10 j hj).2
        · rw [v_w1_1, if_neg (by omega), v_w1_1, if_neg (by omega), h6]
          exact g3 a j ⟨q, by omega⟩
    generalize v_w1 (v_w1 t5 10 b.toNatClampNeg (s.1 10 b.toNatClampNeg)) 11 b.toNatClampNeg (s.1 11 b.toNatClampNeg) = t6 at hfin ⊢
    refine v_Pif (fun _ => ?_) (fun _ => ?_)
    · refine v_Pbi (v_PT (n_size _ _)) ?_
      rintro _ _ rfl
      exact v_Pret hfin
    · refine v_Pbi (v_PT (n_first _ _)) ?_
      rintro _ _ rfl
      exact v_Pret hfin
  · rw [if_neg hb]
    exact v_Pret j_E_rf
theorem y_Ol_under (b c : Int32) (s : vS) (h : v_KQ s) : v_P (f_Ol_under b c s) (fun _ t => j_E jb_C s t) := by
  have hm := h.1
  unfold f_Ol_under
  rw [jz_knows, v_bi_some, v_bif]
  by_cases hb : 0 ≤ b.toInt ∧ b.toInt < (s.1 8 1).toInt
  · rw [if_pos hb]
    refine v_Pbi (v_PT (n_isEither _ _)) ?_
    rintro _ s rfl
    refine v_Pif (fun _ => v_Pret j_E_rf) (fun _ => ?_)
    refine v_Pbi (v_PT (n_isThere _ _)) ?_
    rintro _ s ⟨rfl, -⟩
    refine v_Pif (fun _ => v_Pret j_E_rf) (fun _ => ?_)
    refine v_Pbi (v_PT (q_hear _ h)) (fun _ t1 h1 => ?_)
    refine v_Pbi (v_PT (q_remember _ (v_KQ_fr h h1))) (fun _ t2 h2 => ?_)
    have h2 := v_fr_tr h1 h2
    rw [jz_at b t2 ⟨hb.1, by omega⟩, v_bi_some]
    refine v_Pif (fun _ => v_Plet ?_) (fun _ => v_Pnone)
    have hn : b.toNatClampNeg ≤ 9 := by rw [v_nc]; omega
    have e1 : t2.1 (23 + 5 * b.toNatClampNeg) 1 = s.1 (23 + 5 * b.toNatClampNeg) 1 := (h2 _ 1 (by unfold v_sc; omega)).1
    rw [e1]
    have hRb : 23 ≤ 23 + 5 * b.toNatClampNeg ∧ 23 + 5 * b.toNatClampNeg ≤ 68 := ⟨by omega, by omega⟩
    generalize 23 + 5 * b.toNatClampNeg = R at e1 hRb ⊢
    have k3 : v_KQ (v_w1 t2 R 1 (-1)) := v_KQ_w1 (v_KQ_fr h h2) (by omega)
    have g3 : j_E (fun a j => jb_C a j ∧ ¬ (a = R ∧ j = 1)) s (v_w1 t2 R 1 (-1)) := j_E_w1 (j_E_im (j_E_fr h2 jb_C_sc) (fun a j q => q.1)) (fun q => q.2 ⟨rfl, rfl⟩)
    generalize v_w1 t2 R 1 (-1) = t3 at k3 g3 ⊢
    refine v_Pbi (v_PT (q_hear _ k3)) (fun _ t4 h4 => ?_)
    refine v_Pbi (v_PT (q_changed _ (v_KQ_fr k3 h4))) (fun _ t5 h5 => v_Plet ?_)
    have h5 := v_fr_tr h4 h5
    have hfin : j_E jb_C s (v_w1 t5 R 1 (s.1 R 1)) := fun a j q => by
      rw [v_w1_1]
      by_cases ha : a = R ∧ j = 1
      · rw [if_pos ha, ha.1, ha.2]
      · rw [if_neg ha, (h5 a j (jb_C_sc a j q)).1]
        exact g3 a j ⟨q, ha⟩
    generalize v_w1 t5 R 1 (s.1 R 1) = t6 at hfin ⊢
    refine v_Pif (fun _ => ?_) (fun _ => v_Pret hfin)
    refine v_Pbi (v_PT (n_size _ _)) ?_
    rintro _ _ rfl
    exact v_Pret hfin
  · rw [if_neg hb]
    exact v_Pret j_E_rf
theorem y_Md_meant (b c : Int32) (t : vS) (h : v_RI t) : v_P (f_Md_meant b c t) (fun _ u => j_E jb_M t u) := by
  unfold f_Md_meant
  rw [z_in, v_bi_some, v_bif]
  by_cases hb : (0 : Int32).toInt ≤ b.toInt ∧ b.toInt ≤ (2 : Int32).toInt
  · rw [if_pos hb, z_in, v_bi_some, v_bif]
    refine v_Pif (fun _ => ?_) (fun _ => v_Pret j_E_rf)
    refine v_Pbi (v_PT (v_Tand (m_quiet h (fun hq => m_findAll t hq)) (m_findAll t h.1))) ?_
    rintro _ t1 ⟨⟨a1, -⟩, b1⟩
    refine v_Pbi (v_PT (v_Tand (m_quiet a1 (fun hq => m_keepVerdicts _ t1 hq.1)) (m_keepVerdicts _ t1 a1.1.1))) ?_
    rintro _ t2 ⟨⟨a2, -⟩, b2⟩
    have b2 := v_F_tr b1 b2
    refine v_Pif (fun _ => v_Pif (fun _ => v_Plet ?_) (fun _ => v_Pnone)) (fun _ => v_Pnone)
    have a3 := (v_RI_n a2 (a := 163) (j := b.toNatClampNeg) (x := -1) (by unfold m_N; omega)).1
    have g3 : j_E (fun a j => jb_M a j ∧ ¬ a = 163) t (v_w1 t2 163 b.toNatClampNeg (-1)) := j_E_w1 (j_E_im (j_E_F b2 jb_M_sd) (fun a j q => q.1)) (fun q => q.2 rfl)
    have g163 : ∀ j, ¬ j = b.toNatClampNeg → (v_w1 t2 163 b.toNatClampNeg (-1)).1 163 j = t.1 163 j := fun j hj => by
      rw [v_w1_1, if_neg (fun z => hj z.2)]
      exact (b2 163 j (by unfold v_sd; omega)).1
    have e163 : t2.1 163 b.toNatClampNeg = t.1 163 b.toNatClampNeg := (b2 163 _ (by unfold v_sd; omega)).1
    rw [e163]
    generalize v_w1 t2 163 b.toNatClampNeg (-1) = t3 at a3 g3 g163 ⊢
    refine v_Pbi (v_PT (v_Tand (m_quiet a3 (fun hq => m_findAll t3 hq)) (m_findAll t3 a3.1))) ?_
    rintro _ t4 ⟨⟨a4, -⟩, b4⟩
    refine v_Pbi (v_PT (m_unlikeNow _ _ t4 a4.1.1)) ?_
    rintro r _ rfl
    refine v_Pif (fun _ => v_Plet (v_Pret (fun a j q => ?_))) (fun _ => v_Pnone)
    have h6 := (b4 a j (jb_M_sd a j q)).1
    rw [v_w1_1]
    by_cases ha : a = 163
    · subst ha
      by_cases hj : j = b.toNatClampNeg
      · rw [if_pos ⟨rfl, hj⟩, hj]
      · rw [if_neg (fun z => hj z.2), h6]
        exact g163 j hj
    · rw [if_neg (fun z => ha z.1), h6]
      exact g3 a j ⟨q, ha⟩
  · rw [if_neg hb]
    exact v_Pret j_E_rf
theorem jr_meant {s t : vS} (h : j_R s t) (hR : v_RI t) (hK : v_KQ s) (b c : Int32) : j_S0 (f_Ol_meant b c s) (f_Md_meant b c t) := j_S0q h (y_Ol_meant b c s hK) (y_Md_meant b c t hR)
theorem jr_under {s t : vS} (h : j_R s t) (hR : v_RI t) (hK : v_KQ s) (b c : Int32) : j_S0 (f_Ol_under b c s) (f_Md_under b c t) := j_S0q h (y_Ol_under b c s hK) (jm_q (m_under b c t hR.1))
/-- what laws wants of the shelves, where the class has gone first -/
def j_X (s t : vS) : Prop := ∀ a j, 151 ≤ a → t.2 a j = s.2 a j
theorem j_Xc {α : Type} {P : Nat → Nat → Prop} {s : vS} {o : Option (α × vS)} (hP : ∀ a j, P a j → a < 151) (h : v_T o (fun _ t => v_CI t ∧ v_F P s t)) : v_P o (fun _ t => j_X s t) := v_Pm2 (v_PT h) (fun _ _ x a j ha => (x.2 a j (fun z => by have := hP a j z; omega)).2)
theorem jr_laws {s t : vS} (h : v_I7 s) (hl : v_lo s t) (hR : v_RI t) (hX : j_X s t) (b c d : Int32) : j_S (f_Ol_laws b c d s) (f_Md_laws b c d t) := by
  refine j_laws (j_R_M h.2 (j_loM hl)) hR h.1.1.1.1.1.1.1 (fun k hk => ?_) (fun k hk hk2 i hi => ?_) b c d
  · have h1 := h.1.1.2 k hk
    unfold z_r0 at h1
    unfold z_r0x
    rw [hl 181 k (by decide), hl 182 k (by decide)]
    exact h1
  · rw [hl 181 k (by decide)] at hk2
    rw [hX 183 _ (by decide)]
    exact h.1.2 k hk hk2 i hi
