/-! the tape, the laws, rule and day, words, image, changes: what is alike on both sides (s: the class's cells, t: the reference's) -/
def j_many (s t : vS) : Prop := s.1 8 1 = t.1 151 14
def j_tape (s t : vS) : Prop := s.1 0 1 = t.1 151 2 ∧ ∀ j : Nat, (j : Int) < (s.1 0 1).toInt → g_ab (s.1 1 j) = g_ab (t.1 152 j) ∧ vp_nar .byte (t.1 152 j) = t.1 152 j
def j_num (s : vS) : Prop := ∀ k, k < 10 → (s.1 (23 + 5 * k) 0).toInt = k
def j_law (s t : vS) : Prop := ∀ k : Nat, (k : Int) < (s.1 8 1).toInt → k < 10 → s.1 (23 + 5 * k) 1 = t.1 160 k ∧ s.1 (23 + 5 * k) 2 = t.1 161 k ∧ s.1 (23 + 5 * k) 3 = t.1 162 k
def j_rt (s t : vS) : Prop := s.1 8 2 = t.1 151 18 ∧ s.1 8 3 = t.1 151 19
def c_text (s : vS) (k : Nat) (acc : List gL) : Prop := (s.1 (24 + 5 * k) 2).toInt = (g_cls acc).length ∧ (g_cls acc).length ≤ 61 ∧ g_row (fun j => s.1 (25 + 5 * k) j) 0 (g_cls acc) ∧ g_tok acc
def j_text (s t : vS) : Prop := ∀ k : Nat, (k : Int) < (s.1 8 1).toInt → k < 10 → ∃ acc, m_text t k acc ∧ c_text s k acc
def j_word (s t : vS) : Prop := ∀ w, w < 3 → s.1 10 w = t.1 163 w ∧ (0 ≤ (s.1 10 w).toInt → s.1 11 w = t.1 164 w)
def j_img (s t : vS) : Prop := ((s.1 0 11).toInt = -1 ∧ (t.1 151 35).toInt = 0) ∨ (¬ (t.1 151 35).toInt = 0 ∧ s.1 0 11 = t.1 151 36 ∧ (0 ≤ (s.1 0 11).toInt ∧ (s.1 0 11).toInt ≤ (s.1 8 1).toInt) ∧ (∀ k : Nat, (k : Int) < (s.1 0 11).toInt → k < 10 → s.1 (23 + 5 * k) 9 = t.1 174 k ∧ s.1 (23 + 5 * k) 10 = t.1 175 k ∧ s.1 (23 + 5 * k) 11 = t.1 176 k) ∧ ∀ w, w < 3 → s.1 12 w = t.1 177 w ∧ (0 ≤ (s.1 12 w).toInt → s.1 13 w = t.1 178 w))
def j_chg (s t : vS) : Prop := s.1 73 0 = t.1 151 23 ∧ (s.1 73 1).toInt = (t.1 151 23).toInt + (t.1 151 24).toInt ∧ ∀ j : Nat, (j : Int) < (s.1 73 1).toInt → ((0 ≤ (s.1 74 j).toInt ∧ (s.1 74 j).toInt ≤ 9) ∧ (0 ≤ (s.1 75 j).toInt ∧ (s.1 75 j).toInt ≤ 4)) ∧ s.1 74 j = t.1 167 j ∧ s.1 75 j = t.1 166 j ∧ s.1 76 j = t.1 168 j ∧ s.1 77 j = t.1 169 j
/-- what may stand where: by what is changed -/
def j_ok (w : Int) (v : Int32) : Prop := (w = 0 → 0 ≤ v.toInt ∧ v.toInt ≤ 99) ∧ (w = 1 → 0 ≤ v.toInt ∧ v.toInt ≤ 2) ∧ (w = 2 → -1 ≤ v.toInt ∧ v.toInt ≤ 9) ∧ (w = 3 → 0 ≤ v.toInt ∧ v.toInt ≤ 3) ∧ (w = 4 → 0 ≤ v.toInt ∧ v.toInt ≤ 99)
def j_ran (s : vS) : Prop := (∀ k : Nat, (k : Int) < (s.1 8 1).toInt → k < 10 → j_ok 0 (s.1 (23 + 5 * k) 1) ∧ j_ok 1 (s.1 (23 + 5 * k) 2) ∧ j_ok 2 (s.1 (23 + 5 * k) 3)) ∧ (j_ok 3 (s.1 8 2) ∧ j_ok 4 (s.1 8 3)) ∧ (∀ k : Nat, (k : Int) < (s.1 0 11).toInt → k < 10 → j_ok 0 (s.1 (23 + 5 * k) 9) ∧ j_ok 1 (s.1 (23 + 5 * k) 10) ∧ j_ok 2 (s.1 (23 + 5 * k) 11)) ∧ ∀ j : Nat, (j : Int) < (s.1 73 1).toInt → j_ok (s.1 75 j).toInt (s.1 76 j) ∧ j_ok (s.1 75 j).toInt (s.1 77 j)
def j_R (s t : vS) : Prop := j_many s t ∧ j_tape s t ∧ j_num s ∧ j_law s t ∧ j_rt s t ∧ j_text s t ∧ j_word s t ∧ j_img s t ∧ j_chg s t ∧ j_ran s
/-- the cells that each speaks of -/
def jb_tape (a j : Nat) : Prop := (a = 0 ∧ j = 1) ∨ a = 1 ∨ (a = 151 ∧ j = 2) ∨ a = 152
def jb_law (a j : Nat) : Prop := (a = 8 ∧ j = 1) ∨ (23 ≤ a ∧ a ≤ 68 ∧ a % 5 = 3 ∧ 1 ≤ j ∧ j ≤ 3) ∨ (160 ≤ a ∧ a ≤ 162 ∧ j < 10)
def jb_num (a j : Nat) : Prop := 23 ≤ a ∧ a ≤ 68 ∧ a % 5 = 3 ∧ j = 0
def jb_rt (a j : Nat) : Prop := (a = 8 ∧ 2 ≤ j ∧ j ≤ 3) ∨ (a = 151 ∧ 18 ≤ j ∧ j ≤ 19)
def jb_textC (a j : Nat) : Prop := (a = 8 ∧ j = 1) ∨ (23 ≤ a ∧ a ≤ 72 ∧ a % 5 = 4 ∧ j = 2) ∨ (23 ≤ a ∧ a ≤ 72 ∧ a % 5 = 0)
def jb_textM (a j : Nat) : Prop := ((a = 153 ∨ a = 154) ∧ j < 1300) ∨ (a = 155 ∧ j < 10) ∨ ((a = 156 ∨ a = 157) ∧ j < 610)
def jb_word (a _ : Nat) : Prop := a = 10 ∨ a = 11 ∨ a = 163 ∨ a = 164
def jb_img (a j : Nat) : Prop := (a = 0 ∧ j = 11) ∨ (a = 8 ∧ j = 1) ∨ (23 ≤ a ∧ a ≤ 68 ∧ a % 5 = 3 ∧ 9 ≤ j ∧ j ≤ 11) ∨ a = 12 ∨ a = 13 ∨ (a = 151 ∧ 35 ≤ j ∧ j ≤ 36) ∨ (174 ≤ a ∧ a ≤ 178)
def jb_chg (a j : Nat) : Prop := (73 ≤ a ∧ a ≤ 77) ∨ (a = 151 ∧ 23 ≤ j ∧ j ≤ 24) ∨ (166 ≤ a ∧ a ≤ 169)
def jb_ran (a j : Nat) : Prop := (a = 8 ∧ 1 ≤ j ∧ j ≤ 3) ∨ (a = 0 ∧ j = 11) ∨ (23 ≤ a ∧ a ≤ 68 ∧ a % 5 = 3 ∧ ((1 ≤ j ∧ j ≤ 3) ∨ (9 ≤ j ∧ j ≤ 11))) ∨ (a = 73 ∧ j = 1) ∨ (75 ≤ a ∧ a ≤ 77)
def jb_many (a j : Nat) : Prop := (a = 8 ∧ j = 1) ∨ (a = 151 ∧ j = 14)
/-- the cells of P are as they were -/
def j_E (P : Nat → Nat → Prop) (s t : vS) : Prop := ∀ a j, P a j → t.1 a j = s.1 a j
theorem j_E_rf {P : Nat → Nat → Prop} {s : vS} : j_E P s s := fun _ _ _ => rfl
theorem j_E_tr {P : Nat → Nat → Prop} {s t u : vS} (h1 : j_E P s t) (h2 : j_E P t u) : j_E P s u := fun a j h => (h2 a j h).trans (h1 a j h)
theorem j_E_w1 {P : Nat → Nat → Prop} {s t : vS} {a i : Nat} {x : Int32} (h : j_E P s t) (hn : ¬ P a i) : j_E P s (v_w1 t a i x) := fun b j hb => by
  rw [v_w1_1, if_neg (fun q => hn (by rw [← q.1, ← q.2]; exact hb))]
  exact h b j hb
theorem j_E_cp1 {P : Nat → Nat → Prop} {s t : vS} {a sp b dp n : Nat} (h : j_E P s t) (hn : ∀ j, ¬ P b j) : j_E P s (v_cp1 t a sp b dp n) := fun c j hc => by
  show (if c = b ∧ dp ≤ j ∧ j < dp + n then t.1 a (sp + (j - dp)) else t.1 c j) = _
  rw [if_neg (fun q => hn j (by rw [← q.1]; exact hc))]
  exact h c j hc
theorem j_E_im {P Q : Nat → Nat → Prop} {s t : vS} (h : j_E P s t) (hq : ∀ a j, Q a j → P a j) : j_E Q s t := fun a j q => h a j (hq a j q)
theorem j_E_F {P Q : Nat → Nat → Prop} {s t : vS} (h : v_F Q s t) (hq : ∀ a j, P a j → ¬ Q a j) : j_E P s t := fun a j q => (h a j (hq a j q)).1
theorem j_E_fr {P : Nat → Nat → Prop} {s t : vS} (h : v_fr s t) (hq : ∀ a j, P a j → ¬ v_sc a j) : j_E P s t := fun a j q => (h a j (hq a j q)).1
/-- each stands on its own cells alone -/
theorem j_manyE {s t s2 t2 : vS} (h : j_many s t) (hs : j_E jb_many s s2) (ht : j_E jb_many t t2) : j_many s2 t2 := by
  unfold j_many at h ⊢
  rw [hs 8 1 (Or.inl ⟨rfl, rfl⟩), ht 151 14 (Or.inr ⟨rfl, rfl⟩)]
  exact h
theorem j_tapeE {s t s2 t2 : vS} (h : j_tape s t) (hs : j_E jb_tape s s2) (ht : j_E jb_tape t t2) : j_tape s2 t2 := by
  unfold j_tape at h ⊢
  rw [hs 0 1 (by unfold jb_tape; omega), ht 151 2 (by unfold jb_tape; omega)]
  exact ⟨h.1, fun j hj => by rw [hs 1 j (by unfold jb_tape; omega), ht 152 j (by unfold jb_tape; omega)]; exact h.2 j hj⟩
theorem j_numE {s s2 : vS} (h : j_num s) (hs : j_E jb_num s s2) : j_num s2 := fun k hk => by
  rw [hs (23 + 5 * k) 0 (by unfold jb_num; omega)]
  exact h k hk
theorem j_lawE {s t s2 t2 : vS} (h : j_law s t) (hs : j_E jb_law s s2) (ht : j_E jb_law t t2) : j_law s2 t2 := fun k hk hk9 => by
  rw [hs 8 1 (by unfold jb_law; omega)] at hk
  rw [hs (23 + 5 * k) 1 (by unfold jb_law; omega), hs (23 + 5 * k) 2 (by unfold jb_law; omega), hs (23 + 5 * k) 3 (by unfold jb_law; omega), ht 160 k (by unfold jb_law; omega), ht 161 k (by unfold jb_law; omega), ht 162 k (by unfold jb_law; omega)]
  exact h k hk hk9
theorem j_rtE {s t s2 t2 : vS} (h : j_rt s t) (hs : j_E jb_rt s s2) (ht : j_E jb_rt t t2) : j_rt s2 t2 := by
  unfold j_rt at h ⊢
  rw [hs 8 2 (by unfold jb_rt; omega), hs 8 3 (by unfold jb_rt; omega), ht 151 18 (by unfold jb_rt; omega), ht 151 19 (by unfold jb_rt; omega)]
  exact h
theorem c_textE {s s2 : vS} {k : Nat} {acc : List gL} (h : c_text s k acc) (h1 : s2.1 (24 + 5 * k) 2 = s.1 (24 + 5 * k) 2) (h2 : ∀ j, s2.1 (25 + 5 * k) j = s.1 (25 + 5 * k) j) : c_text s2 k acc := by
  refine ⟨by rw [h1]; exact h.1, h.2.1, g_row_eq h.2.2.1 (fun j _ _ => h2 j), h.2.2.2⟩
theorem m_textE {t t2 : vS} {k : Nat} {acc : List gL} (hk : k < 10) (h : m_text t k acc) (ht : j_E jb_textM t t2) : m_text t2 k acc :=
  m_text_eq h (ht 155 k (by unfold jb_textM; omega)) (fun j _ _ => ⟨ht 153 j (by unfold jb_textM; omega), ht 154 j (by unfold jb_textM; omega)⟩) (fun j _ _ => ⟨ht 156 j (by unfold jb_textM; omega), ht 157 j (by unfold jb_textM; omega)⟩)
theorem j_textE {s t s2 t2 : vS} (h : j_text s t) (hs : j_E jb_textC s s2) (ht : j_E jb_textM t t2) : j_text s2 t2 := fun k hk hk9 => by
  rw [hs 8 1 (by unfold jb_textC; omega)] at hk
  obtain ⟨acc, h1, h2⟩ := h k hk hk9
  exact ⟨acc, m_textE hk9 h1 ht, c_textE h2 (hs _ _ (by unfold jb_textC; omega)) (fun j => hs _ _ (by unfold jb_textC; omega))⟩
theorem j_wordE {s t s2 t2 : vS} (h : j_word s t) (hs : j_E jb_word s s2) (ht : j_E jb_word t t2) : j_word s2 t2 := fun w hw => by
  rw [hs 10 w (by unfold jb_word; omega), hs 11 w (by unfold jb_word; omega), ht 163 w (by unfold jb_word; omega), ht 164 w (by unfold jb_word; omega)]
  exact h w hw
theorem j_imgE {s t s2 t2 : vS} (h : j_img s t) (hs : j_E jb_img s s2) (ht : j_E jb_img t t2) : j_img s2 t2 := by
  unfold j_img at h ⊢
  rw [hs 0 11 (by unfold jb_img; omega), hs 8 1 (by unfold jb_img; omega), ht 151 35 (by unfold jb_img; omega), ht 151 36 (by unfold jb_img; omega)]
  rcases h with h | ⟨h1, h2, h3, h4, h5⟩
  · exact Or.inl h
  · refine Or.inr ⟨h1, h2, h3, fun k hk hk9 => ?_, fun w hw => ?_⟩
    · rw [hs (23 + 5 * k) 9 (by unfold jb_img; omega), hs (23 + 5 * k) 10 (by unfold jb_img; omega), hs (23 + 5 * k) 11 (by unfold jb_img; omega), ht 174 k (by unfold jb_img; omega), ht 175 k (by unfold jb_img; omega), ht 176 k (by unfold jb_img; omega)]
      exact h4 k hk hk9
    · rw [hs 12 w (by unfold jb_img; omega), hs 13 w (by unfold jb_img; omega), ht 177 w (by unfold jb_img; omega), ht 178 w (by unfold jb_img; omega)]
      exact h5 w hw
theorem j_chgE {s t s2 t2 : vS} (h : j_chg s t) (hs : j_E jb_chg s s2) (ht : j_E jb_chg t t2) : j_chg s2 t2 := by
  unfold j_chg at h ⊢
  rw [hs 73 0 (by unfold jb_chg; omega), hs 73 1 (by unfold jb_chg; omega), ht 151 23 (by unfold jb_chg; omega), ht 151 24 (by unfold jb_chg; omega)]
  refine ⟨h.1, h.2.1, fun j hj => ?_⟩
  rw [hs 74 j (by unfold jb_chg; omega), hs 75 j (by unfold jb_chg; omega), hs 76 j (by unfold jb_chg; omega), hs 77 j (by unfold jb_chg; omega), ht 166 j (by unfold jb_chg; omega), ht 167 j (by unfold jb_chg; omega), ht 168 j (by unfold jb_chg; omega), ht 169 j (by unfold jb_chg; omega)]
  exact h.2.2 j hj
theorem j_ranE {s s2 : vS} (h : j_ran s) (hs : j_E jb_ran s s2) : j_ran s2 := by
  unfold j_ran at h ⊢
  rw [hs 8 1 (by unfold jb_ran; omega), hs 8 2 (by unfold jb_ran; omega), hs 8 3 (by unfold jb_ran; omega), hs 0 11 (by unfold jb_ran; omega), hs 73 1 (by unfold jb_ran; omega)]
  refine ⟨fun k hk hk9 => ?_, h.2.1, fun k hk hk9 => ?_, fun j hj => ?_⟩
  · rw [hs (23 + 5 * k) 1 (by unfold jb_ran; omega), hs (23 + 5 * k) 2 (by unfold jb_ran; omega), hs (23 + 5 * k) 3 (by unfold jb_ran; omega)]
    exact h.1 k hk hk9
  · rw [hs (23 + 5 * k) 9 (by unfold jb_ran; omega), hs (23 + 5 * k) 10 (by unfold jb_ran; omega), hs (23 + 5 * k) 11 (by unfold jb_ran; omega)]
    exact h.2.2.1 k hk hk9
  · rw [hs 75 j (by unfold jb_ran; omega), hs 76 j (by unfold jb_ran; omega), hs 77 j (by unfold jb_ran; omega)]
    exact h.2.2.2 j hj
/-- all of it -/
def jb_C (a j : Nat) : Prop := (a = 0 ∧ (j = 1 ∨ j = 11)) ∨ a = 1 ∨ (a = 8 ∧ 1 ≤ j ∧ j ≤ 3) ∨ (10 ≤ a ∧ a ≤ 13) ∨ (23 ≤ a ∧ a ≤ 72 ∧ ((a % 5 = 3 ∧ (j ≤ 3 ∨ 9 ≤ j)) ∨ (a % 5 = 4 ∧ j = 2) ∨ a % 5 = 0)) ∨ (73 ≤ a ∧ a ≤ 77)
def jb_M (a j : Nat) : Prop := (a = 151 ∧ (j = 2 ∨ j = 14 ∨ j = 18 ∨ j = 19 ∨ j = 23 ∨ j = 24 ∨ j = 35 ∨ j = 36)) ∨ (152 ≤ a ∧ a ≤ 157) ∨ (160 ≤ a ∧ a ≤ 162 ∧ j < 10) ∨ a = 163 ∨ a = 164 ∨ (166 ≤ a ∧ a ≤ 169) ∨ (174 ≤ a ∧ a ≤ 178)
theorem j_R_C {s t s2 : vS} (h : j_R s t) (hs : j_E jb_C s s2) : j_R s2 t := by
  obtain ⟨h1, h2, h3, h4, h5, h6, h7, h8, h9, h10⟩ := h
  have f1 : s2.1 8 1 = s.1 8 1 := hs 8 1 (by unfold jb_C; omega)
  refine ⟨?_, ?_, ?_, ?_, ?_, ?_, ?_, ?_, ?_, j_ranE h10 (j_E_im hs (fun a j q => by unfold jb_ran at q; unfold jb_C; omega))⟩
  · unfold j_many at h1 ⊢; rw [f1]; exact h1
  · unfold j_tape at h2 ⊢
    rw [hs 0 1 (by unfold jb_C; omega)]
    exact ⟨h2.1, fun j hj => by rw [hs 1 j (by unfold jb_C; omega)]; exact h2.2 j hj⟩
  · exact j_numE h3 (j_E_im hs (fun a j q => by unfold jb_num at q; unfold jb_C; omega))
  · intro k hk hk9
    rw [f1] at hk
    rw [hs (23 + 5 * k) 1 (by unfold jb_C; omega), hs (23 + 5 * k) 2 (by unfold jb_C; omega), hs (23 + 5 * k) 3 (by unfold jb_C; omega)]
    exact h4 k hk hk9
  · unfold j_rt at h5 ⊢
    rw [hs 8 2 (by unfold jb_C; omega), hs 8 3 (by unfold jb_C; omega)]
    exact h5
  · exact j_textE h6 (j_E_im hs (fun a j q => by unfold jb_textC at q; unfold jb_C; omega)) j_E_rf
  · intro w hw
    rw [hs 10 w (by unfold jb_C; omega), hs 11 w (by unfold jb_C; omega)]
    exact h7 w hw
  · unfold j_img at h8 ⊢
    rw [hs 0 11 (by unfold jb_C; omega), f1]
    rcases h8 with h | ⟨g1, g2, g3, g4, g5⟩
    · exact Or.inl h
    · refine Or.inr ⟨g1, g2, g3, fun k hk hk9 => ?_, fun w hw => ?_⟩
      · rw [hs (23 + 5 * k) 9 (by unfold jb_C; omega), hs (23 + 5 * k) 10 (by unfold jb_C; omega), hs (23 + 5 * k) 11 (by unfold jb_C; omega)]
        exact g4 k hk hk9
      · rw [hs 12 w (by unfold jb_C; omega), hs 13 w (by unfold jb_C; omega)]
        exact g5 w hw
  · unfold j_chg at h9 ⊢
    rw [hs 73 0 (by unfold jb_C; omega), hs 73 1 (by unfold jb_C; omega)]
    refine ⟨h9.1, h9.2.1, fun j hj => ?_⟩
    rw [hs 74 j (by unfold jb_C; omega), hs 75 j (by unfold jb_C; omega), hs 76 j (by unfold jb_C; omega), hs 77 j (by unfold jb_C; omega)]
    exact h9.2.2 j hj
theorem j_R_M {s t t2 : vS} (h : j_R s t) (ht : j_E jb_M t t2) : j_R s t2 := by
  obtain ⟨h1, h2, h3, h4, h5, h6, h7, h8, h9, h10⟩ := h
  refine ⟨?_, ?_, h3, ?_, ?_, ?_, ?_, ?_, ?_, h10⟩
  · unfold j_many at h1 ⊢; rw [ht 151 14 (by unfold jb_M; omega)]; exact h1
  · unfold j_tape at h2 ⊢
    rw [ht 151 2 (by unfold jb_M; omega)]
    exact ⟨h2.1, fun j hj => by rw [ht 152 j (by unfold jb_M; omega)]; exact h2.2 j hj⟩
  · intro k hk hk9
    rw [ht 160 k (by unfold jb_M; omega), ht 161 k (by unfold jb_M; omega), ht 162 k (by unfold jb_M; omega)]
    exact h4 k hk hk9
  · unfold j_rt at h5 ⊢
    rw [ht 151 18 (by unfold jb_M; omega), ht 151 19 (by unfold jb_M; omega)]
    exact h5
  · exact j_textE h6 j_E_rf (j_E_im ht (fun a j q => by unfold jb_textM at q; unfold jb_M; omega))
  · intro w hw
    rw [ht 163 w (by unfold jb_M; omega), ht 164 w (by unfold jb_M; omega)]
    exact h7 w hw
  · unfold j_img at h8 ⊢
    rw [ht 151 35 (by unfold jb_M; omega), ht 151 36 (by unfold jb_M; omega)]
    rcases h8 with h | ⟨g1, g2, g3, g4, g5⟩
    · exact Or.inl h
    · refine Or.inr ⟨g1, g2, g3, fun k hk hk9 => ?_, fun w hw => ?_⟩
      · rw [ht 174 k (by unfold jb_M; omega), ht 175 k (by unfold jb_M; omega), ht 176 k (by unfold jb_M; omega)]
        exact g4 k hk hk9
      · rw [ht 177 w (by unfold jb_M; omega), ht 178 w (by unfold jb_M; omega)]
        exact g5 w hw
  · unfold j_chg at h9 ⊢
    rw [ht 151 23 (by unfold jb_M; omega), ht 151 24 (by unfold jb_M; omega)]
    refine ⟨h9.1, h9.2.1, fun j hj => ?_⟩
    rw [ht 166 j (by unfold jb_M; omega), ht 167 j (by unfold jb_M; omega), ht 168 j (by unfold jb_M; omega), ht 169 j (by unfold jb_M; omega)]
    exact h9.2.2 j hj
theorem jb_C_sc : ∀ a j, jb_C a j → ¬ v_sc a j := fun a j h => by
  unfold jb_C at h
  unfold v_sc
  omega
theorem jb_M_sd : ∀ a j, jb_M a j → ¬ v_sd a j := fun a j h => by
  unfold jb_M at h
  unfold v_sd
  omega
theorem jb_C_lo : ∀ a j, jb_C a j → a < 132 := fun a j h => by
  unfold jb_C at h
  omega
theorem jb_C_2 : ∀ a j, jb_C a j → ¬ a = 2 := fun a j h => by
  unfold jb_C at h
  omega
theorem jb_M_hi : ∀ a j, jb_M a j → a ≤ 178 ∧ ¬ (a = 151 ∧ 40 ≤ j) := fun a j h => by
  unfold jb_M at h
  omega
set_option maxRecDepth 100000 in
theorem j_R0 : j_R v_s0 v_s0 := by
  have hn : ∀ k, k < 10 → (v_s0.1 (23 + 5 * k) 0).toInt = k := by decide +kernel
  have h0 : (v_s0.1 8 1).toInt = 0 := by decide +kernel
  have h1 : (v_s0.1 0 1).toInt = 0 := by decide +kernel
  have hw : ∀ w, w < 3 → v_s0.1 10 w = v_s0.1 163 w ∧ (v_s0.1 10 w).toInt = -1 := by decide +kernel
  have hc : (v_s0.1 73 1).toInt = 0 := by decide +kernel
  have hi : (v_s0.1 0 11).toInt = -1 := by decide +kernel
  refine ⟨by unfold j_many; decide +kernel, ⟨by decide +kernel, fun j hj => by omega⟩, hn, fun k hk _ => by omega, ⟨by decide +kernel, by decide +kernel⟩, fun k hk _ => by omega, fun w hw2 => ⟨(hw w hw2).1, fun q => ?_⟩, Or.inl ⟨by decide +kernel, by decide +kernel⟩, ⟨by decide +kernel, by decide +kernel, fun j hj => by omega⟩, ⟨fun k hk _ => by omega, ⟨by unfold j_ok; decide +kernel, by unfold j_ok; decide +kernel⟩, fun k hk _ => by omega, fun j hj => by omega⟩⟩
  have := (hw w hw2).2
  omega
theorem v_Pm2 {α : Type} {o : Option (α × vS)} {Q R : α → vS → Prop} (h : v_P o Q) (hq : ∀ r s, Q r s → R r s) : v_P o R := fun r s e => hq r s (h r s e)
/-- what both calls make of it -/
def j_S {α : Type} (o1 o2 : Option (α × vS)) : Prop := ∀ r1 s1 r2 t1, o1 = some (r1, s1) → o2 = some (r2, t1) → j_R s1 t1 ∧ r1 = r2
def j_S0 {α β : Type} (o1 : Option (α × vS)) (o2 : Option (β × vS)) : Prop := ∀ r1 s1 r2 t1, o1 = some (r1, s1) → o2 = some (r2, t1) → j_R s1 t1
theorem j_S_0 {α : Type} {o1 o2 : Option (α × vS)} (h : j_S o1 o2) : j_S0 o1 o2 := fun r1 s1 r2 t1 e1 e2 => (h r1 s1 r2 t1 e1 e2).1
theorem j_SP {α : Type} {o1 o2 : Option (α × vS)} {P1 P2 : α → vS → Prop} (h1 : v_P o1 P1) (h2 : v_P o2 P2) (h : ∀ r1 s1 r2 t1, P1 r1 s1 → P2 r2 t1 → j_R s1 t1 ∧ r1 = r2) : j_S o1 o2 := fun r1 s1 r2 t1 e1 e2 => h r1 s1 r2 t1 (h1 r1 s1 e1) (h2 r2 t1 e2)
theorem j_S0q {α β : Type} {s t : vS} {o1 : Option (α × vS)} {o2 : Option (β × vS)} (h : j_R s t) (h1 : v_P o1 (fun _ u => j_E jb_C s u)) (h2 : v_P o2 (fun _ u => j_E jb_M t u)) : j_S0 o1 o2 := fun r1 s1 r2 t1 e1 e2 => j_R_M (j_R_C h (h1 r1 s1 e1)) (h2 r2 t1 e2)
/-- the invariant of both: what v_I5 says, and this -/
def v_I7 (s : vS) : Prop := v_I5 s ∧ j_R s s
theorem v_I70 : v_I7 v_s0 := ⟨v_I50, j_R0⟩
theorem j_hiC {s t : vS} (h : v_hi s t) : j_E jb_C s t := fun a j q => h a j (by have := jb_C_lo a j q; omega)
theorem j_loM {s t : vS} (h : v_lo s t) : j_E jb_M s t := fun a j q => h a j (by unfold jb_M at q; omega)
theorem jr_stepX {s : vS} {α β : Type} {o : Option (α × vS)} {f : vS → Option (β × vS)} {X : vS → Prop} (h : v_I7 s) (hj : v_T o (fun _ s1 => v_T (f s1) (fun _ s2 => v_I5 s2))) (hc : v_T o (fun _ t => v_CI t ∧ v_lo s t)) (hm : ∀ t, v_RI t → v_T (f t) (fun _ u => v_RI u ∧ v_hi t u)) (hx : v_P o (fun _ t => X t)) (hS : ∀ t, v_lo s t → v_RI t → X t → j_S0 o (f t)) : v_T o (fun _ s1 => v_T (f s1) (fun _ s2 => v_I7 s2)) := by
  obtain ⟨r1, s1, e1, h1, h2, h3⟩ := v_Tand hj hc
  have hR := v_RI_lo h.1.1.1.1.2 h3
  obtain ⟨r2, s2, e2, h4, h5, h6⟩ := v_Tand h1 (hm s1 hR)
  exact ⟨r1, s1, e1, r2, s2, e2, h4, j_R_C (hS s1 h3 hR (hx r1 s1 e1) r1 s1 r2 s2 e1 e2) (j_hiC h6)⟩
theorem jr_stepXE {s : vS} {α : Type} {o : Option (α × vS)} {f : vS → Option (α × vS)} {X : vS → Prop} (h : v_I7 s) (hj : v_T o (fun _ s1 => v_T (f s1) (fun _ s2 => v_I5 s2))) (hc : v_T o (fun _ t => v_CI t ∧ v_lo s t)) (hm : ∀ t, v_RI t → v_T (f t) (fun _ u => v_RI u ∧ v_hi t u)) (hx : v_P o (fun _ t => X t)) (hS : ∀ t, v_lo s t → v_RI t → X t → j_S o (f t)) : v_T o (fun r1 s1 => v_T (f s1) (fun r2 s2 => v_I7 s2 ∧ r1 = r2)) := by
  obtain ⟨r1, s1, e1, h1, h2, h3⟩ := v_Tand hj hc
  have hR := v_RI_lo h.1.1.1.1.2 h3
  obtain ⟨r2, s2, e2, h4, h5, h6⟩ := v_Tand h1 (hm s1 hR)
  have h7 := hS s1 h3 hR (hx r1 s1 e1) r1 s1 r2 s2 e1 e2
  exact ⟨r1, s1, e1, r2, s2, e2, ⟨h4, j_R_C h7.1 (j_hiC h6)⟩, h7.2⟩
theorem jr_step {s : vS} {α β : Type} {o : Option (α × vS)} {f : vS → Option (β × vS)} (h : v_I7 s) (hj : v_T o (fun _ s1 => v_T (f s1) (fun _ s2 => v_I5 s2))) (hc : v_T o (fun _ t => v_CI t ∧ v_lo s t)) (hm : ∀ t, v_RI t → v_T (f t) (fun _ u => v_RI u ∧ v_hi t u)) (hS : ∀ t, j_R s t → v_RI t → j_S0 o (f t)) : v_T o (fun _ s1 => v_T (f s1) (fun _ s2 => v_I7 s2)) :=
  jr_stepX (X := fun _ => True) h hj hc hm (fun _ _ _ => trivial) (fun t hl hR _ => hS t (j_R_M h.2 (j_loM hl)) hR)
theorem jr_stepE {s : vS} {α : Type} {o : Option (α × vS)} {f : vS → Option (α × vS)} (h : v_I7 s) (hj : v_T o (fun _ s1 => v_T (f s1) (fun _ s2 => v_I5 s2))) (hc : v_T o (fun _ t => v_CI t ∧ v_lo s t)) (hm : ∀ t, v_RI t → v_T (f t) (fun _ u => v_RI u ∧ v_hi t u)) (hS : ∀ t, j_R s t → v_RI t → j_S o (f t)) : v_T o (fun r1 s1 => v_T (f s1) (fun r2 s2 => v_I7 s2 ∧ r1 = r2)) :=
  jr_stepXE (X := fun _ => True) h hj hc hm (fun _ _ _ => trivial) (fun t hl hR _ => hS t (j_R_M h.2 (j_loM hl)) hR)
theorem j_T0 {α β : Type} {o : Option (α × vS)} {f : vS → Option (β × vS)} {I : vS → Prop} {E : α → β → Prop} (h : v_T o (fun r1 s1 => v_T (f s1) (fun r2 s2 => I s2 ∧ E r1 r2))) : v_T o (fun _ s1 => v_T (f s1) (fun _ s2 => I s2)) := v_Tm h (fun _ _ h1 => v_Tm h1 (fun _ _ h2 => h2.1))
/-- all but what is changed is as it was; what is changed is shown -/
theorem j_mix (P : Nat → Nat → Prop) {s t s2 t2 : vS} (h : j_R s t) (hs : j_E (fun a j => ¬ P a j) s s2) (ht : j_E (fun a j => ¬ P a j) t t2) (c1 : (∀ a j, jb_many a j → ¬ P a j) ∨ j_many s2 t2) (c2 : (∀ a j, jb_tape a j → ¬ P a j) ∨ j_tape s2 t2) (c3 : (∀ a j, jb_num a j → ¬ P a j) ∨ j_num s2) (c4 : (∀ a j, jb_law a j → ¬ P a j) ∨ j_law s2 t2) (c5 : (∀ a j, jb_rt a j → ¬ P a j) ∨ j_rt s2 t2) (c6 : (∀ a j, jb_textC a j ∨ jb_textM a j → ¬ P a j) ∨ j_text s2 t2) (c7 : (∀ a j, jb_word a j → ¬ P a j) ∨ j_word s2 t2) (c8 : (∀ a j, jb_img a j → ¬ P a j) ∨ j_img s2 t2) (c9 : (∀ a j, jb_chg a j → ¬ P a j) ∨ j_chg s2 t2) (c10 : (∀ a j, jb_ran a j → ¬ P a j) ∨ j_ran s2) : j_R s2 t2 := by
  obtain ⟨h1, h2, h3, h4, h5, h6, h7, h8, h9, h10⟩ := h
  exact ⟨c1.elim (fun c => j_manyE h1 (j_E_im hs c) (j_E_im ht c)) id, c2.elim (fun c => j_tapeE h2 (j_E_im hs c) (j_E_im ht c)) id, c3.elim (fun c => j_numE h3 (j_E_im hs c)) id, c4.elim (fun c => j_lawE h4 (j_E_im hs c) (j_E_im ht c)) id, c5.elim (fun c => j_rtE h5 (j_E_im hs c) (j_E_im ht c)) id, c6.elim (fun c => j_textE h6 (j_E_im hs (fun a j q => c a j (Or.inl q))) (j_E_im ht (fun a j q => c a j (Or.inr q)))) id, c7.elim (fun c => j_wordE h7 (j_E_im hs c) (j_E_im ht c)) id, c8.elim (fun c => j_imgE h8 (j_E_im hs c) (j_E_im ht c)) id, c9.elim (fun c => j_chgE h9 (j_E_im hs c) (j_E_im ht c)) id, c10.elim (fun c => j_ranE h10 (j_E_im hs c)) id⟩
