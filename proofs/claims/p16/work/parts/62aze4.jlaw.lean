/-! law -/
theorem c_ls_len {g : Nat → Int32} (hg : g_ltr g) (mny : Nat) : ∀ (k i : Nat) (acc : List gL), i ≤ 60 → (g_cls acc).length ≤ i → (g_ls g mny k i acc).1 = true → (g_cls (g_ls g mny k i acc).2.2).length ≤ 61
  | 0, _, _, _, _, h => by cases h
  | k + 1, i, acc, hi, hl, h => by
    have e : g_ls g mny (k + 1) i acc = if (g_li g i).1 = true then (if (g (g_li g i).2.1).toInt = 59 then g_ls g mny k ((g_li g i).2.1 + 1) (acc ++ [(g_li g i).2.2]) else if mny ≤ (g_li g i).2.1 then (true, ((g_li g i).2.1, acc ++ [(g_li g i).2.2])) else (false, ((g_li g i).2.1, acc))) else (false, ((g_li g i).2.1, acc)) := rfl
    rw [e] at h ⊢
    by_cases a1 : (g_li g i).1 = true
    · rw [if_pos a1] at h ⊢
      have hlen := c_len_of hg hi a1 (acc := acc) (by show (g_cls acc).length + 0 ≤ i; omega)
      have hok := g_li_ok hg hi
      by_cases hq : (g (g_li g i).2.1).toInt = 59
      · rw [if_pos hq] at h ⊢
        have hj6 : (g_li g i).2.1 < 60 := g_lt hg (by omega)
        exact c_ls_len hg mny k _ _ (by omega) hlen h
      · rw [if_neg hq] at h ⊢
        by_cases hm : mny ≤ (g_li g i).2.1
        · rw [if_pos hm]
          exact Nat.le_trans hlen (by omega)
        · rw [if_neg hm] at h
          cases h
    · rw [if_neg a1] at h
      cases h
theorem c_rd_len {g : Nat → Int32} (hg : g_ltr g) (mny : Nat) (h : (g_rd g mny).1 = true) : (g_cls (g_rd g mny).2.2).length ≤ 61 := c_ls_len hg mny 61 0 [] (by decide) (Nat.le_refl _) h
/-- a law comes -/
def jp_adm (m a j : Nat) : Prop := (a = 8 ∧ j = 1) ∨ (a = 23 + 5 * m ∧ 1 ≤ j ∧ j ≤ 3) ∨ (a = 24 + 5 * m ∧ j = 2) ∨ a = 25 + 5 * m
def j_adm (b c d : Int32) (m : Nat) (s t : vS) : Prop := j_E (fun a j => ¬ jp_adm m a j) s t ∧ t.1 8 1 = s.1 8 1 + 1 ∧ (t.1 (23 + 5 * m) 1 = b ∧ t.1 (23 + 5 * m) 2 = c ∧ t.1 (23 + 5 * m) 3 = d) ∧ t.1 (24 + 5 * m) 2 = s.1 4 2 ∧ (∀ j, j < 61 → t.1 (25 + 5 * m) j = s.1 5 j) ∧ t.2 = s.2
theorem y_adm (b c d : Int32) (s : vS) {m : Nat} (hm : (s.1 8 1).toInt = m) (h9 : m ≤ 9) : v_P (f_Ct_admit b c d 4 s) (fun r t => r = s.1 (23 + 5 * m) 0 ∧ j_adm b c d m s t) := by
  unfold f_Ct_admit
  rw [if_pos (by omega), y_at10 (by omega) (by omega), v_bi_some, show (s.1 8 1).toInt.toNat = m by omega]
  refine v_Pif (fun _ => v_Plet (v_Plet (v_Plet ?_))) (fun _ => v_Pnone)
  have hE : j_E (fun a j => ¬ (a = 23 + 5 * m ∧ 1 ≤ j ∧ j ≤ 3)) s (v_w1 (v_w1 (v_w1 s (23 + 5 * m) 1 b) (23 + 5 * m) 2 c) (23 + 5 * m) 3 d) := j_E_w1 (j_E_w1 (j_E_w1 j_E_rf (fun q => q (by omega))) (fun q => q (by omega))) (fun q => q (by omega))
  have h1 : (v_w1 (v_w1 (v_w1 s (23 + 5 * m) 1 b) (23 + 5 * m) 2 c) (23 + 5 * m) 3 d).1 (23 + 5 * m) 1 = b := by rw [v_w1_1, if_neg (by omega), v_w1_1, if_neg (by omega), v_w1_1, if_pos ⟨rfl, rfl⟩]
  have h2 : (v_w1 (v_w1 (v_w1 s (23 + 5 * m) 1 b) (23 + 5 * m) 2 c) (23 + 5 * m) 3 d).1 (23 + 5 * m) 2 = c := by rw [v_w1_1, if_neg (by omega), v_w1_1, if_pos ⟨rfl, rfl⟩]
  have h3 : (v_w1 (v_w1 (v_w1 s (23 + 5 * m) 1 b) (23 + 5 * m) 2 c) (23 + 5 * m) 3 d).1 (23 + 5 * m) 3 = d := by rw [v_w1_1, if_pos ⟨rfl, rfl⟩]
  have h2e : (v_w1 (v_w1 (v_w1 s (23 + 5 * m) 1 b) (23 + 5 * m) 2 c) (23 + 5 * m) 3 d).2 = s.2 := rfl
  generalize v_w1 (v_w1 (v_w1 s (23 + 5 * m) 1 b) (23 + 5 * m) 2 c) (23 + 5 * m) 3 d = u at hE h1 h2 h3 h2e ⊢
  unfold f_Tx_copyFrom
  refine v_Pbi (P := fun _ t => t = v_w1 (v_cp1 u 5 0 (25 + 5 * m) 0 61) (24 + 5 * m) 2 (u.1 4 2)) (v_Pif (fun _ => v_Plet (v_Plet (v_Pret ?_))) (fun _ => v_Pnone)) ?_
  · show v_w1 (v_cp1 u (4 + 1) 0 (23 + 5 * m + 1 + 1) 0 61) (23 + 5 * m + 1) 2 ((v_cp1 u (4 + 1) 0 (23 + 5 * m + 1 + 1) 0 61).1 4 2) = _
    rw [show (v_cp1 u (4 + 1) 0 (23 + 5 * m + 1 + 1) 0 61).1 4 2 = u.1 4 2 from if_neg (by omega), show 23 + 5 * m + 1 + 1 = 25 + 5 * m by omega, show 23 + 5 * m + 1 = 24 + 5 * m by omega]
  · rintro _ t rfl
    have tE : j_E (fun a j => ¬ ((a = 24 + 5 * m ∧ j = 2) ∨ a = 25 + 5 * m)) u (v_w1 (v_cp1 u 5 0 (25 + 5 * m) 0 61) (24 + 5 * m) 2 (u.1 4 2)) := j_E_w1 (j_E_cp1 j_E_rf (fun j q => q (by omega))) (fun q => q (by omega))
    have t2 : (v_w1 (v_cp1 u 5 0 (25 + 5 * m) 0 61) (24 + 5 * m) 2 (u.1 4 2)).1 (24 + 5 * m) 2 = s.1 4 2 := by rw [v_w1_1, if_pos ⟨rfl, rfl⟩, hE 4 2 (by omega)]
    have t5 : ∀ j, j < 61 → (v_w1 (v_cp1 u 5 0 (25 + 5 * m) 0 61) (24 + 5 * m) 2 (u.1 4 2)).1 (25 + 5 * m) j = s.1 5 j := fun j hj => by
      rw [v_w1_1, if_neg (by omega)]
      show (if 25 + 5 * m = 25 + 5 * m ∧ 0 ≤ j ∧ j < 0 + 61 then u.1 5 (0 + (j - 0)) else u.1 (25 + 5 * m) j) = _
      rw [if_pos ⟨rfl, Nat.zero_le _, by omega⟩, Nat.zero_add, Nat.sub_zero, hE 5 j (by omega)]
    have t2e : (v_w1 (v_cp1 u 5 0 (25 + 5 * m) 0 61) (24 + 5 * m) 2 (u.1 4 2)).2 = u.2 := rfl
    generalize v_w1 (v_cp1 u 5 0 (25 + 5 * m) 0 61) (24 + 5 * m) 2 (u.1 4 2) = t at tE t2 t5 t2e ⊢
    have e8 : t.1 8 1 = s.1 8 1 := (tE 8 1 (by omega)).trans (hE 8 1 (by omega))
    refine v_Plet (v_Pret ⟨by rw [v_w1_1, if_neg (by omega), tE _ _ (by omega), hE _ _ (by omega)], j_E_w1 (j_E_tr (j_E_im hE (fun a j q => by unfold jp_adm at q; omega)) (j_E_im tE (fun a j q => by unfold jp_adm at q; omega))) (fun q => q (by unfold jp_adm; omega)), by rw [v_w1_1, if_pos ⟨rfl, rfl⟩, e8], ⟨by rw [v_w1_1, if_neg (by omega), tE _ _ (by omega), h1], by rw [v_w1_1, if_neg (by omega), tE _ _ (by omega), h2], by rw [v_w1_1, if_neg (by omega), tE _ _ (by omega), h3]⟩, by rw [v_w1_1, if_neg (by omega), t2], fun j hj => by rw [v_w1_1, if_neg (by omega), t5 j hj], t2e.trans h2e⟩)
def j_adl (b c d : Int32) (m : Nat) (s t : vS) : Prop := j_E (fun a j => ¬ ((a = 151 ∧ j = 14) ∨ ((160 ≤ a ∧ a ≤ 162) ∧ j = m))) s t ∧ t.1 151 14 = s.1 151 14 + 1 ∧ t.1 160 m = b ∧ t.1 161 m = c ∧ t.1 162 m = d ∧ t.2 = s.2
theorem y_addLaw (b c d : Int32) (s : vS) {m : Nat} (hm : (s.1 151 14).toInt = m) (h9 : m ≤ 9) : v_P (f_Md_addLaw b c d s) (fun r t => r = s.1 151 14 ∧ j_adl b c d m s t) := by
  have em : (s.1 151 14).toNatClampNeg = m := by rw [v_nc]; omega
  unfold f_Md_addLaw
  rw [em]
  refine v_Pif (fun _ => v_Plet ?_) (fun _ => v_Pnone)
  have e1 : (v_w1 s 160 m b).1 151 14 = s.1 151 14 := by rw [v_w1_1, if_neg (by omega)]
  rw [e1, em]
  refine v_Pif (fun _ => v_Plet ?_) (fun _ => v_Pnone)
  have e2 : (v_w1 (v_w1 s 160 m b) 161 m c).1 151 14 = s.1 151 14 := by rw [v_w1_1, if_neg (by omega), v_w1_1, if_neg (by omega)]
  rw [e2, em]
  refine v_Pif (fun _ => v_Plet ?_) (fun _ => v_Pnone)
  have e3 : (v_w1 (v_w1 (v_w1 s 160 m b) 161 m c) 162 m d).1 151 14 = s.1 151 14 := by rw [v_w1_1, if_neg (by omega), v_w1_1, if_neg (by omega), v_w1_1, if_neg (by omega)]
  rw [e3]
  refine v_Plet (v_Pret ⟨?_, j_E_w1 (j_E_w1 (j_E_w1 (j_E_w1 j_E_rf (fun q => q (by omega))) (fun q => q (by omega))) (fun q => q (by omega))) (fun q => q (by omega)), by rw [v_w1_1, if_pos ⟨rfl, rfl⟩], by rw [v_w1_1, if_neg (by omega), v_w1_1, if_neg (by omega), v_w1_1, if_neg (by omega), v_w1_1, if_pos ⟨rfl, rfl⟩], by rw [v_w1_1, if_neg (by omega), v_w1_1, if_neg (by omega), v_w1_1, if_pos ⟨rfl, rfl⟩], by rw [v_w1_1, if_neg (by omega), v_w1_1, if_pos ⟨rfl, rfl⟩], rfl⟩)
  rw [v_w1_1, if_pos ⟨rfl, rfl⟩]
  have hinc : (s.1 151 14 + 1).toInt = (s.1 151 14).toInt + 1 := v_inc (by omega)
  apply Int32.toInt_inj.mp
  rw [v_sub (y := 1) (show -2147483648 ≤ (s.1 151 14 + 1).toInt - 1 by omega) (show (s.1 151 14 + 1).toInt - 1 < 2147483648 by omega)]
  show (s.1 151 14 + 1).toInt - 1 = _
  omega
/-- the cells that a new law touches, with what reading it touches -/
def jp_law (p a j : Nat) : Prop := jp_adm p a j ∨ (a = 0 ∧ j = 1) ∨ m_px p a j ∨ a = 152 ∨ a = 165 ∨ (a = 151 ∧ j = 14) ∨ ((160 ≤ a ∧ a ≤ 162) ∧ j = p)
theorem m_px_out {p k : Nat} {t t2 : vS} {acc : List gL} (hk : k < p) (hp : p ≤ 9) (h : m_text t k acc) (ht : j_E (fun a j => ¬ jp_law p a j) t t2) : m_text t2 k acc := by
  have hx : ∀ a j, 151 ≤ a → (((a = 153 ∨ a = 154) ∧ j < 1300 ∧ ¬ (130 * p ≤ j ∧ j < 130 * p + 130)) ∨ (a = 155 ∧ j < p) ∨ ((a = 156 ∨ a = 157) ∧ j < 610 ∧ ¬ (61 * p ≤ j ∧ j < 61 * p + 61))) → t2.1 a j = t.1 a j := fun a j h0 h1 => ht a j (fun z => by unfold jp_law jp_adm m_px m_pl m_pd at z; omega)
  exact m_text_eq h (hx 155 k (by decide) (by omega)) (fun j q1 q2 => ⟨hx 153 j (by decide) (by omega), hx 154 j (by decide) (by omega)⟩) (fun j q1 q2 => ⟨hx 156 j (by decide) (by omega), hx 157 j (by decide) (by omega)⟩)
/-- a law that came on both sides, of one text -/
theorem j_came {s t s2 t2 : vS} (h : j_R s t) {p : Nat} (hp : (t.1 151 14).toInt = p) (h9 : p ≤ 9) (hs : j_E (fun a j => ¬ jp_law p a j) s s2) (ht : j_E (fun a j => ¬ jp_law p a j) t t2) (hm : s2.1 8 1 = s.1 8 1 + 1 ∧ t2.1 151 14 = t.1 151 14 + 1) (hl : s2.1 (23 + 5 * p) 1 = t2.1 160 p ∧ s2.1 (23 + 5 * p) 2 = t2.1 161 p ∧ s2.1 (23 + 5 * p) 3 = t2.1 162 p) {acc : List gL} (hc : c_text s2 p acc) (ht2 : m_text t2 p acc) (htape : j_tape s2 t2) (hok : j_ok 0 (s2.1 (23 + 5 * p) 1) ∧ j_ok 1 (s2.1 (23 + 5 * p) 2) ∧ j_ok 2 (s2.1 (23 + 5 * p) 3)) : j_R s2 t2 := by
  have em : s.1 8 1 = t.1 151 14 := h.1
  have hrn := h.2.2.2.2.2.2.2.2.2
  have hmi : (s2.1 8 1).toInt = p + 1 := by rw [hm.1, em, v_inc (by omega), hp]
  have hlaw := h.2.2.2.1
  have htext := h.2.2.2.2.2.1
  have himg := h.2.2.2.2.2.2.2.1
  refine j_mix (jp_law p) h hs ht (Or.inr ?_) (Or.inr htape) (Or.inl (fun a j q z => ?_)) (Or.inr (fun k hk hk9 => ?_)) (Or.inl (fun a j q z => ?_)) (Or.inr (fun k hk hk9 => ?_)) (Or.inl (fun a j q z => ?_)) (Or.inr ?_) (Or.inl (fun a j q z => ?_)) (Or.inr ⟨fun k hk hk9 => ?_, ?_, fun k hk hk9 => ?_, fun j hj => ?_⟩)
  · unfold j_many; rw [hm.1, hm.2, em]
  · unfold jb_num at q; unfold jp_law jp_adm m_px m_pl m_pd at z; omega
  · by_cases hz : k = p
    · subst hz; exact hl
    · have h3 := hlaw k (by rw [em, hp]; omega) hk9
      have f1 : ∀ j, 1 ≤ j → j ≤ 3 → s2.1 (23 + 5 * k) j = s.1 (23 + 5 * k) j := fun j q1 q2 => hs _ _ (fun z => by unfold jp_law jp_adm m_px m_pl m_pd at z; omega)
      have f2 : ∀ a, 160 ≤ a → a ≤ 162 → t2.1 a k = t.1 a k := fun a q1 q2 => ht _ _ (fun z => by unfold jp_law jp_adm m_px m_pl m_pd at z; omega)
      rw [f1 1 (by decide) (by decide), f1 2 (by decide) (by decide), f1 3 (by decide) (by decide), f2 160 (by decide) (by decide), f2 161 (by decide) (by decide), f2 162 (by decide) (by decide)]
      exact h3
  · unfold jb_rt at q; unfold jp_law jp_adm m_px m_pl m_pd at z; omega
  · by_cases hz : k = p
    · subst hz; exact ⟨acc, ht2, hc⟩
    · obtain ⟨acc2, g1, g2⟩ := htext k (by rw [em, hp]; omega) hk9
      exact ⟨acc2, m_px_out (by omega) h9 g1 ht, c_textE g2 (hs _ _ (fun z => by unfold jp_law jp_adm m_px m_pl m_pd at z; omega)) (fun j => hs _ _ (fun z => by unfold jp_law jp_adm m_px m_pl m_pd at z; omega))⟩
  · unfold jb_word at q; unfold jp_law jp_adm m_px m_pl m_pd at z; omega
  · have f0 : s2.1 0 11 = s.1 0 11 := hs _ _ (fun z => by unfold jp_law jp_adm m_px m_pl m_pd at z; omega)
    have f35 : t2.1 151 35 = t.1 151 35 := ht _ _ (fun z => by unfold jp_law jp_adm m_px m_pl m_pd at z; omega)
    have f36 : t2.1 151 36 = t.1 151 36 := ht _ _ (fun z => by unfold jp_law jp_adm m_px m_pl m_pd at z; omega)
    unfold j_img at himg ⊢
    rw [f0, f35, f36, hmi]
    rcases himg with z | ⟨z1, z2, z3, z4, z5⟩
    · exact Or.inl z
    · refine Or.inr ⟨z1, z2, by rw [em, hp] at z3; omega, fun k hk hk9 => ?_, fun w hw => ?_⟩
      · have g1 : ∀ j, 9 ≤ j → s2.1 (23 + 5 * k) j = s.1 (23 + 5 * k) j := fun j q1 => hs _ _ (fun z => by unfold jp_law jp_adm m_px m_pl m_pd at z; omega)
        have g2 : ∀ a, 174 ≤ a → t2.1 a k = t.1 a k := fun a q1 => ht _ _ (fun z => by unfold jp_law jp_adm m_px m_pl m_pd at z; omega)
        rw [g1 9 (by decide), g1 10 (by decide), g1 11 (by decide), g2 174 (by decide), g2 175 (by decide), g2 176 (by decide)]
        exact z4 k hk hk9
      · have g1 : ∀ a, a = 12 ∨ a = 13 → s2.1 a w = s.1 a w := fun a q1 => hs _ _ (fun z => by unfold jp_law jp_adm m_px m_pl m_pd at z; omega)
        have g2 : ∀ a, 177 ≤ a → t2.1 a w = t.1 a w := fun a q1 => ht _ _ (fun z => by unfold jp_law jp_adm m_px m_pl m_pd at z; omega)
        rw [g1 12 (Or.inl rfl), g1 13 (Or.inr rfl), g2 177 (by decide), g2 178 (by decide)]
        exact z5 w hw
  · unfold jb_chg at q; unfold jp_law jp_adm m_px m_pl m_pd at z; omega
  · by_cases hz : k = p
    · subst hz; exact hok
    · have f1 : ∀ j, 1 ≤ j → j ≤ 3 → s2.1 (23 + 5 * k) j = s.1 (23 + 5 * k) j := fun j q1 q2 => hs _ _ (fun z => by unfold jp_law jp_adm m_px m_pl m_pd at z; omega)
      rw [f1 1 (by decide) (by decide), f1 2 (by decide) (by decide), f1 3 (by decide) (by decide)]
      exact hrn.1 k (by rw [em, hp]; omega) hk9
  · rw [hs 8 2 (fun z => by unfold jp_law jp_adm m_px m_pl m_pd at z; omega), hs 8 3 (fun z => by unfold jp_law jp_adm m_px m_pl m_pd at z; omega)]
    exact hrn.2.1
  · have f1 : ∀ j, 9 ≤ j → s2.1 (23 + 5 * k) j = s.1 (23 + 5 * k) j := fun j q1 => hs _ _ (fun z => by unfold jp_law jp_adm m_px m_pl m_pd at z; omega)
    rw [hs 0 11 (fun z => by unfold jp_law jp_adm m_px m_pl m_pd at z; omega)] at hk
    rw [f1 9 (by decide), f1 10 (by decide), f1 11 (by decide)]
    exact hrn.2.2.1 k hk hk9
  · rw [hs 73 1 (fun z => by unfold jp_law jp_adm m_px m_pl m_pd at z; omega)] at hj
    rw [hs 75 _ (fun z => by unfold jp_law jp_adm m_px m_pl m_pd at z; omega), hs 76 _ (fun z => by unfold jp_law jp_adm m_px m_pl m_pd at z; omega), hs 77 _ (fun z => by unfold jp_law jp_adm m_px m_pl m_pd at z; omega)]
    exact hrn.2.2.2 j hj
/-- no law came, the tape alone is another -/
theorem j_came0 {s t s2 t2 : vS} (h : j_R s t) {p : Nat} (hp : (t.1 151 14).toInt = p) (h9 : p ≤ 9) (hs : j_E (fun a j => ¬ (a = 0 ∧ j = 1)) s s2) (ht : j_E (fun a j => ¬ m_px p a j) t t2) (htape : j_tape s2 t2) : j_R s2 t2 := by
  have em : s.1 8 1 = t.1 151 14 := h.1
  have htext := h.2.2.2.2.2.1
  have hs2 : j_E (fun a j => ¬ ((a = 0 ∧ j = 1) ∨ m_px p a j)) s s2 := j_E_im hs (fun a j q z => q (Or.inl z))
  have ht2 : j_E (fun a j => ¬ ((a = 0 ∧ j = 1) ∨ m_px p a j)) t t2 := j_E_im ht (fun a j q z => q (Or.inr z))
  refine j_mix (fun a j => (a = 0 ∧ j = 1) ∨ m_px p a j) h hs2 ht2 (Or.inl (fun a j q z => ?_)) (Or.inr htape) (Or.inl (fun a j q z => ?_)) (Or.inl (fun a j q z => ?_)) (Or.inl (fun a j q z => ?_)) (Or.inr (fun k hk hk9 => ?_)) (Or.inl (fun a j q z => ?_)) (Or.inl (fun a j q z => ?_)) (Or.inl (fun a j q z => ?_)) (Or.inl (fun a j q z => ?_))
  case refine_5 =>
    have e8 : s2.1 8 1 = s.1 8 1 := hs 8 1 (by omega)
    rw [e8] at hk
    obtain ⟨acc2, g1, g2⟩ := htext k hk hk9
    exact ⟨acc2, m_px_out (by rw [em, hp] at hk; omega) h9 g1 (j_E_im ht (fun a j q z => q (by unfold jp_law; exact Or.inr (Or.inr (Or.inl z))))), c_textE g2 (hs _ _ (by omega)) (fun j => hs _ _ (by omega))⟩
  all_goals
    try dsimp only at z
    unfold m_px m_pl m_pd at z
    first
    | (unfold jb_many at q; omega)
    | (unfold jb_num at q; omega)
    | (unfold jb_law at q; omega)
    | (unfold jb_rt at q; omega)
    | (unfold jb_word at q; omega)
    | (unfold jb_img at q; omega)
    | (unfold jb_chg at q; omega)
    | (unfold jb_ran at q; omega)
/-- the letters that both read -/
theorem j_letters {s t : vS} (h : j_tape s t) : (fun j : Nat => g_ab (if (s.1 0 1).toInt ≤ (j : Int) then -1 else s.1 1 j)) = fun j => g_ab (m_let t j) := by
  funext j
  unfold m_let
  rw [← h.1]
  by_cases hj : (s.1 0 1).toInt ≤ (j : Int)
  · rw [if_pos hj, if_pos hj]
  · rw [if_neg hj, if_neg hj]
    exact (h.2 j (by omega)).1
theorem c_W_text {g : Nat → Int32} {s t : vS} {cs : List gL} {i m : Nat} (h : c_W g s (g_cls cs) i) (hl : (g_cls cs).length ≤ 61) (htk : g_tok cs) (h2 : t.1 (24 + 5 * m) 2 = s.1 4 2) (h5 : ∀ j, j < 61 → t.1 (25 + 5 * m) j = s.1 5 j) : c_text t m cs := by
  refine ⟨by rw [h2]; exact h.2.2.2.1, hl, g_row_eq h.2.2.2.2 (fun j _ hj => ?_), htk⟩
  exact h5 j (by omega)
theorem j_tape_0 {s t : vS} (h1 : s.1 0 1 = 0) (h2 : t.1 151 2 = 0) : j_tape s t := ⟨by rw [h1, h2], fun j hj => by rw [h1] at hj; exact absurd hj (by show ¬ (j : Int) < 0; omega)⟩
theorem j_law_ {s t : vS} (h : j_R s t) (hR : v_RI t) (hK : v_KQ s) (b c : Int32) : j_S (f_Ol_law b c s) (f_Md_law b c t) := by
  have hm := hR.1.1
  have htp := hR.2.1
  have em : s.1 8 1 = t.1 151 14 := h.1
  have et := h.2.1
  intro r1 s1 r2 t1 e1 e2
  unfold f_Ol_law at e1
  unfold f_Md_law at e2
  rw [jz_isDate, v_bi_some, v_bif] at e1
  rw [z_in, v_bi_some, v_bif] at e2
  by_cases h1 : 0 ≤ b.toInt ∧ b.toInt ≤ 99
  · rw [if_pos h1, jz_isSaying, v_bi_some, v_bif] at e1
    rw [if_pos (show (0 : Int32).toInt ≤ b.toInt ∧ b.toInt ≤ (99 : Int32).toInt from h1), z_in, v_bi_some, v_bif] at e2
    by_cases h2 : 0 ≤ c.toInt ∧ c.toInt ≤ 2
    · rw [if_pos h2] at e1
      rw [if_pos (show (0 : Int32).toInt ≤ c.toInt ∧ c.toInt ≤ (2 : Int32).toInt from h2)] at e2
      by_cases h3 : (t.1 151 14).toInt = 10
      · rw [if_neg (by rw [em]; omega)] at e1
        rw [if_pos h3] at e2
        obtain ⟨rfl, rfl⟩ := v_so e1
        obtain ⟨rfl, rfl⟩ := v_so e2
        exact ⟨h, rfl⟩
      · rw [if_pos (by rw [em]; omega)] at e1
        rw [if_neg h3] at e2
        have hp : (t.1 151 14).toInt = ((t.1 151 14).toInt.toNat : Nat) := by omega
        have h9 : (t.1 151 14).toInt.toNat ≤ 9 := by omega
        generalize hpp : (t.1 151 14).toInt.toNat = p at hp h9
        have hln : v_ln 1 = 60 := by decide +kernel
        have hgC := v_PT (c_read (b := 1) (Or.inl rfl) (c := s.1 0 1) (s := s) (by rw [et.1]; exact htp.1) (by rw [et.1]; exact htp.2) (by rw [hln, et.1]; exact htp.2) (g := fun j => g_ab (m_let t j)) (fun j => (congrFun (j_letters et) j).symm))
        have hgM := v_PT (m_readText (g := fun j => g_ab (m_let t j)) hp h9 (m_let_g htp))
        obtain ⟨x1, u1, a1, a2⟩ := v_bd e1
        obtain ⟨x2, u2, b1, b2⟩ := v_bd e2
        obtain ⟨c1, c2⟩ := hgC x1 u1 a1
        obtain ⟨d1, d2, d3⟩ := hgM x2 u2 b1
        have ec : (s.1 0 1).toInt.toNat = (t.1 151 2).toInt.toNat := by rw [et.1]
        rw [ec] at c2
        have hE1 : j_E jb_C s u1 := j_E_fr c1 jb_C_sc
        have hJ : j_R u1 t := j_R_C h hE1
        have e14 : u2.1 151 14 = t.1 151 14 := (d1 151 14 (by unfold m_px m_pl m_pd; omega)).1
        have hw : (v_let (v_w1 u1 0 1 0) (fun s7 => (if x1.toInt = (-1) then (v_bi (f_Ct_admit b c (-1) 4 s7) (fun r9 s9 => (some (r9, s9)))) else (some ((((-100) : Int32) - x1), s7))))) = some (r1, s1) := a2
        have hE2 : j_E (fun a j => ¬ (a = 0 ∧ j = 1)) u1 (v_w1 u1 0 1 0) := j_E_w1 j_E_rf (fun q => q (by omega))
        have e0 : (v_w1 u1 0 1 0).1 0 1 = 0 := v_w1_1.trans (if_pos ⟨rfl, rfl⟩)
        replace hw : (if x1.toInt = (-1) then (v_bi (f_Ct_admit b c (-1) 4 (v_w1 u1 0 1 0)) (fun r9 s9 => (some (r9, s9)))) else (some ((((-100) : Int32) - x1), v_w1 u1 0 1 0))) = some (r1, s1) := hw
        generalize v_w1 u1 0 1 0 = w1 at hE2 e0 hw
        have em1 : u1.1 8 1 = s.1 8 1 := (c1 8 1 (by unfold v_sc; omega)).1
        generalize hrd : g_rd (fun j => g_ab (m_let t j)) (t.1 151 2).toInt.toNat = rd at c2 d3
        rcases d3 with ⟨q1, q2, q3⟩ | ⟨q1, q2, q3⟩
        · rcases c2 with ⟨y1, y2, y3⟩ | ⟨y1, -, -⟩
          · rw [if_pos (by rw [y2]; rfl)] at hw
            rw [if_pos (by rw [q2]; decide)] at b2
            obtain ⟨z1, v1, f1, f2⟩ := v_bd hw
            obtain ⟨z2, v2, g1, g2⟩ := v_bd b2
            obtain ⟨rfl, rfl⟩ := v_so f2
            obtain ⟨rfl, rfl⟩ := v_so g2
            obtain ⟨rfl, k1, k2, ⟨k3, k4, k5⟩, k6, k7, -⟩ := y_adm b c (-1) w1 (m := p) (by rw [hE2 8 1 (by omega), em1, em]; exact hp) h9 _ _ f1
            obtain ⟨rfl, l1, l2, l3, l4, l5, -⟩ := y_addLaw b c (-1) u2 (m := p) (by rw [e14]; exact hp) h9 _ _ g1
            have hlen : (g_cls rd.2.2).length ≤ 61 := by
              rw [← hrd]
              exact c_rd_len (m_g_ltr (m_let_g htp)) _ (by rw [hrd]; exact q1)
            refine ⟨j_came hJ (p := p) hp h9 (j_E_tr (j_E_im hE2 (fun a j q z => q (by unfold jp_law; omega))) (j_E_im k1 (fun a j q z => q (Or.inl z)))) (j_E_tr (j_E_F d1 (fun a j q z => q (by unfold jp_law; exact Or.inr (Or.inr (Or.inl z))))) (j_E_im l1 (fun a j q z => q (by unfold jp_law; omega)))) ⟨by rw [k2, hE2 8 1 (by omega)], by rw [l2, e14]⟩ ⟨by rw [k3, l3], by rw [k4, l4], by rw [k5, l5]⟩ (c_W_text y3 hlen (by rw [← hrd]; exact tk_rd) (by rw [k6, hE2 4 2 (by omega)]) (fun j hj => by rw [k7 j hj, hE2 5 j (by omega)])) (m_text_eq q3 (l1 155 p (by omega)) (fun j _ _ => ⟨l1 153 j (by omega), l1 154 j (by omega)⟩) (fun j _ _ => ⟨l1 156 j (by omega), l1 157 j (by omega)⟩)) (j_tape_0 (by rw [k1 0 1 (by unfold jp_adm; omega), e0]) (by rw [l1 151 2 (by omega), d2])) ⟨by rw [k3]; unfold j_ok; omega, by rw [k4]; unfold j_ok; omega, by rw [k5]; unfold j_ok; exact ⟨fun q => by omega, fun q => by omega, fun _ => by decide, fun q => by omega, fun q => by omega⟩⟩, ?_⟩
            rw [e14]
            apply Int32.toInt_inj.mp
            rw [hE2 (23 + 5 * p) 0 (by omega), hJ.2.2.1 p (by omega)]
            exact hp.symm
          · rw [q1] at y1
            cases y1
        · rcases c2 with ⟨y1, -, -⟩ | ⟨y1, y2, y3⟩
          · rw [q1] at y1
            cases y1
          · have ex : x1 = x2 := Int32.toInt_inj.mp (by rw [y2, q2])
            rw [if_neg (by rw [y2]; omega)] at hw
            rw [if_neg (by rw [q2]; omega)] at b2
            obtain ⟨rfl, rfl⟩ := v_so hw
            obtain ⟨rfl, rfl⟩ := v_so b2
            exact ⟨j_came0 hJ hp h9 hE2 (j_E_F d1 (fun a j q z => q z)) (j_tape_0 e0 d2), by rw [ex]⟩
    · rw [if_neg h2] at e1
      rw [if_neg (show ¬ ((0 : Int32).toInt ≤ c.toInt ∧ c.toInt ≤ (2 : Int32).toInt) from h2)] at e2
      obtain ⟨rfl, rfl⟩ := v_so e1
      obtain ⟨rfl, rfl⟩ := v_so e2
      exact ⟨h, rfl⟩
  · rw [if_neg h1] at e1
    rw [if_neg (show ¬ ((0 : Int32).toInt ≤ b.toInt ∧ b.toInt ≤ (99 : Int32).toInt) from h1)] at e2
    obtain ⟨rfl, rfl⟩ := v_so e1
    obtain ⟨rfl, rfl⟩ := v_so e2
    exact ⟨h, rfl⟩
