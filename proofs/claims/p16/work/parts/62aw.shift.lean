/-! shift: what both answer -/
def z_shift (b c d e f h1 z1 h2 z2 : Int32) : Int32 := if 0 ≤ b.toInt ∧ b.toInt ≤ 5 then (if 0 ≤ d.toInt ∧ d.toInt ≤ 5 then (if h1.toInt = -1 then (-11) else if h2.toInt = -1 then (-11) else if 0 ≤ h1.toInt then (-12) else if h1.toInt = h2.toInt then (if 0 ≤ c.toInt ∧ 0 ≤ f.toInt ∧ c.toInt + f.toInt ≤ z1.toInt then (if 0 ≤ e.toInt ∧ 0 ≤ f.toInt ∧ e.toInt + f.toInt ≤ z2.toInt then f else (-13)) else (-13)) else (-12)) else (-1)) else (-1)
theorem w_isBare (a : Nat) (s : vS) : f_Sh_isBare a s = some (v_b ((s.1 a 0).toInt = -1), s) := by
  unfold f_Sh_isBare
  by_cases h : (s.1 a 0).toInt = -1
  · rw [if_pos h, v_b_pos h]
  · rw [if_neg h, v_b_neg h]
theorem w_isRow (a : Nat) (s : vS) : f_Sh_isRow a s = some (v_b (0 ≤ (s.1 a 0).toInt ∧ (s.1 a 0).toInt ≤ 4), s) := by
  unfold f_Sh_isRow
  rw [z_isSort, v_bi_some, if_pos v_b01]
theorem w_places (a : Nat) (c f : Int32) (s : vS) (hz : 0 ≤ (s.1 a 2).toInt ∧ (s.1 a 2).toInt ≤ 60) : f_Sh_hasPlaces a c f s = some (v_b (0 ≤ c.toInt ∧ 0 ≤ f.toInt ∧ c.toInt + f.toInt ≤ (s.1 a 2).toInt), s) := by
  unfold f_Sh_hasPlaces
  by_cases h1 : c.toInt < 0
  · rw [if_pos h1, v_b_neg (by omega)]
  · rw [if_neg h1]
    by_cases h2 : f.toInt < 0
    · rw [if_pos h2, v_b_neg (by omega)]
    · rw [if_neg h2]
      by_cases h3 : (s.1 a 2).toInt < f.toInt
      · rw [if_pos h3, v_b_neg (by omega)]
      · rw [if_neg h3]
        have e : ((s.1 a 2) - f).toInt = (s.1 a 2).toInt - f.toInt := v_sub (by omega) (by omega)
        by_cases h4 : ((s.1 a 2) - f).toInt < c.toInt
        · rw [if_pos h4, v_b_neg (by omega)]
        · rw [if_neg h4, v_b_pos (by omega)]
theorem z_Ol_shift (b c d e f : Int32) (s : vS) (hz : ∀ k, k < 6 → z_r0 s k) (hk : v_KQ s) (h : v_CI s) : v_T (f_Ol_shift b c d e f s) (fun r _ => r = z_shift b c d e f (s.1 181 b.toNatClampNeg) (s.1 182 b.toNatClampNeg) (s.1 181 d.toNatClampNeg) (s.1 182 d.toNatClampNeg)) := by
  obtain ⟨r, t, e0, -⟩ := c_shift b c d e f s h
  refine ⟨r, t, e0, ?_⟩
  have hp : v_P (f_Ol_shift b c d e f s) (fun r _ => r = z_shift b c d e f (s.1 181 b.toNatClampNeg) (s.1 182 b.toNatClampNeg) (s.1 181 d.toNatClampNeg) (s.1 182 d.toNatClampNeg)) := by
    unfold f_Ol_shift z_shift
    rw [z_isShelf, v_bi_some, v_bif]
    by_cases h1 : 0 ≤ b.toInt ∧ b.toInt ≤ 5
    · rw [if_pos h1, if_pos h1, z_isShelf, v_bi_some, v_bif]
      by_cases h2 : 0 ≤ d.toInt ∧ d.toInt ≤ 5
      · rw [if_pos h2, if_pos h2]
        have hB : b.toNatClampNeg < 6 := by rw [v_nc]; omega
        have hD : d.toNatClampNeg < 6 := by rw [v_nc]; omega
        have hrb := hz _ hB
        have hrd := hz _ hD
        have hKb : v_kd (139 + 2 * b.toNatClampNeg) = 6 := n_Ks (s := s) h1
        have hKd : v_kd (139 + 2 * d.toNatClampNeg) = 6 := n_Ks (s := s) h2
        have hsb := hk.2 _ hKb
        have hsd := hk.2 _ hKd
        rw [z_shelfAt b s h1, v_bi_some, if_pos hKb, z_shelfAt d s h2, v_bi_some, if_pos hKd, w_isBare, v_bi_some, v_bif]
        unfold z_r0 at hrb hrd
        generalize 139 + 2 * b.toNatClampNeg = A at hKb hsb hrb ⊢
        generalize 139 + 2 * d.toNatClampNeg = D at hKd hsd hrd ⊢
        generalize s.1 181 b.toNatClampNeg = H1 at hrb ⊢
        generalize s.1 182 b.toNatClampNeg = Z1 at hrb ⊢
        generalize s.1 181 d.toNatClampNeg = H2 at hrd ⊢
        generalize s.1 182 d.toNatClampNeg = Z2 at hrd ⊢
        rcases hrb with ⟨a1, a2⟩ | ⟨a1, a2, -⟩ | ⟨a1, a2, a3, a4⟩
        · rw [if_pos a2, if_pos a1]
          exact v_Pret rfl
        · rw [if_neg (show ¬ (s.1 A 0).toInt = -1 by omega), if_neg (show ¬ H1.toInt = -1 by omega), w_isBare, v_bi_some, v_bif]
          by_cases hd : H2.toInt = -1
          · rw [if_pos (show (s.1 D 0).toInt = -1 by omega), if_pos hd]
            exact v_Pret rfl
          · rw [if_neg (show ¬ (s.1 D 0).toInt = -1 by omega), if_neg hd, if_pos a1, w_isRow, v_bi_some, v_bif, if_neg (show ¬ (0 ≤ (s.1 A 0).toInt ∧ (s.1 A 0).toInt ≤ 4) by omega)]
            exact v_Pret rfl
        · rw [if_neg (show ¬ (s.1 A 0).toInt = -1 by omega), if_neg (show ¬ H1.toInt = -1 by omega), w_isBare, v_bi_some, v_bif]
          by_cases hd : H2.toInt = -1
          · rw [if_pos (show (s.1 D 0).toInt = -1 by omega), if_pos hd]
            exact v_Pret rfl
          · rw [if_neg (show ¬ (s.1 D 0).toInt = -1 by omega), if_neg hd, if_neg (show ¬ 0 ≤ H1.toInt by omega), w_isRow, v_bi_some, v_bif, if_pos (show 0 ≤ (s.1 A 0).toInt ∧ (s.1 A 0).toInt ≤ 4 by omega)]
            by_cases he : H1.toInt = H2.toInt
            · have hdd : (s.1 D 0).toInt = -2 - H2.toInt ∧ s.1 D 2 = Z2 := by
                rcases hrd with ⟨q, -⟩ | ⟨q, -, -⟩ | ⟨-, -, q1, q2⟩
                · omega
                · omega
                · exact ⟨q1, q2⟩
              rw [if_pos (show (s.1 A 0).toInt = (s.1 D 0).toInt by omega), if_pos he, w_places A c f s hsb, v_bi_some, v_bif, a4]
              by_cases p1 : 0 ≤ c.toInt ∧ 0 ≤ f.toInt ∧ c.toInt + f.toInt ≤ Z1.toInt
              · rw [if_pos p1, if_pos p1, w_places D e f s hsd, v_bi_some, v_bif, hdd.2]
                by_cases p2 : 0 ≤ e.toInt ∧ 0 ≤ f.toInt ∧ e.toInt + f.toInt ≤ Z2.toInt
                · rw [if_pos p2, if_pos p2]
                  exact v_Pbi (P := fun _ _ => True) (fun _ _ _ => trivial) (fun _ _ _ => v_Pret rfl)
                · rw [if_neg p2, if_neg p2]
                  exact v_Pret rfl
              · rw [if_neg p1, if_neg p1]
                exact v_Pret rfl
            · rw [if_neg (show ¬ (s.1 A 0).toInt = (s.1 D 0).toInt by omega), if_neg he]
              exact v_Pret rfl
      · rw [if_neg h2, if_neg h2]
        exact v_Pret rfl
    · rw [if_neg h1, if_neg h1]
      exact v_Pret rfl
  exact hp r t e0
theorem z_Md_shift (b c d e f : Int32) (s : vS) (h : v_RI s) : v_T (f_Md_shift b c d e f s) (fun r _ => r = z_shift b c d e f (s.1 181 b.toNatClampNeg) (s.1 182 b.toNatClampNeg) (s.1 181 d.toNatClampNeg) (s.1 182 d.toNatClampNeg)) := by
  obtain ⟨r, t, e0, -⟩ := m_shift b c d e f s h
  refine ⟨r, t, e0, ?_⟩
  have hp : v_P (f_Md_shift b c d e f s) (fun r _ => r = z_shift b c d e f (s.1 181 b.toNatClampNeg) (s.1 182 b.toNatClampNeg) (s.1 181 d.toNatClampNeg) (s.1 182 d.toNatClampNeg)) := by
    unfold f_Md_shift z_shift
    rw [z_MisShelf, v_bi_some, v_bif]
    by_cases h1 : 0 ≤ b.toInt ∧ b.toInt ≤ 5
    · rw [if_pos h1, if_pos h1, z_MisShelf, v_bi_some, v_bif]
      by_cases h2 : 0 ≤ d.toInt ∧ d.toInt ≤ 5
      · rw [if_pos h2, if_pos h2]
        have hv : v_in b 6 := ⟨h1.1, by omega⟩
        have hw : v_in d 6 := ⟨h2.1, by omega⟩
        have hsb := h.1.2.1 b.toNatClampNeg (by rw [v_nc]; omega)
        have hsd := h.1.2.1 d.toNatClampNeg (by rw [v_nc]; omega)
        have hloop : v_P (f_Md_shift_L113 b c d e f (fun s21 => (f_Md_shift_L150 d e f (fun s22 => (some (f, s22))) 4096 0 s21)) 4096 0 s) (fun r _ => r = f) := p_L113 (s0 := s) (fun t ht => p_L150 (s0 := s) (fun t ht => v_Pret rfl) 4096 0 t ht) 4096 0 s rfl
        generalize hH1 : s.1 181 b.toNatClampNeg = H1
        generalize hZ1 : s.1 182 b.toNatClampNeg = Z1 at hsb ⊢
        generalize hH2 : s.1 181 d.toNatClampNeg = H2
        generalize hZ2 : s.1 182 d.toNatClampNeg = Z2 at hsd ⊢
        rw [if_pos hv]
        by_cases a1 : H1.toInt = -1
        · rw [if_pos a1, if_pos a1]
          exact v_Pret rfl
        · rw [if_neg a1, if_neg a1, if_pos hw]
          by_cases a2 : H2.toInt = -1
          · rw [if_pos a2, if_pos a2]
            exact v_Pret rfl
          · rw [if_neg a2, if_neg a2, if_pos hv]
            by_cases a3 : 0 ≤ H1.toInt
            · rw [if_pos a3, if_pos a3]
              exact v_Pret rfl
            · rw [if_neg a3, if_neg a3, if_pos hv, if_pos hw]
              by_cases a4 : H1.toInt = H2.toInt
              · rw [if_pos a4, if_pos a4]
                by_cases p0 : f.toInt < 0
                · rw [if_pos p0, if_neg (show ¬ (0 ≤ c.toInt ∧ 0 ≤ f.toInt ∧ c.toInt + f.toInt ≤ Z1.toInt) by omega)]
                  exact v_Pret rfl
                · rw [if_neg p0]
                  by_cases p1 : c.toInt < 0
                  · rw [if_pos p1, if_neg (show ¬ (0 ≤ c.toInt ∧ 0 ≤ f.toInt ∧ c.toInt + f.toInt ≤ Z1.toInt) by omega)]
                    exact v_Pret rfl
                  · rw [if_neg p1]
                    have hf9 := Int32.toInt_lt f
                    have e1 : (Z1 - f).toInt = Z1.toInt - f.toInt := v_sub (by omega) (by omega)
                    have e2 : (Z2 - f).toInt = Z2.toInt - f.toInt := v_sub (by omega) (by omega)
                    by_cases p2 : e.toInt < 0
                    · rw [if_pos p2]
                      by_cases q : 0 ≤ c.toInt ∧ 0 ≤ f.toInt ∧ c.toInt + f.toInt ≤ Z1.toInt
                      · rw [if_pos q, if_neg (show ¬ (0 ≤ e.toInt ∧ 0 ≤ f.toInt ∧ e.toInt + f.toInt ≤ Z2.toInt) by omega)]
                        exact v_Pret rfl
                      · rw [if_neg q]
                        exact v_Pret rfl
                    · rw [if_neg p2, if_pos hv]
                      by_cases p3 : (Z1 - f).toInt < c.toInt
                      · rw [if_pos p3, if_neg (show ¬ (0 ≤ c.toInt ∧ 0 ≤ f.toInt ∧ c.toInt + f.toInt ≤ Z1.toInt) by omega)]
                        exact v_Pret rfl
                      · rw [if_neg p3, if_pos hw, if_pos (show 0 ≤ c.toInt ∧ 0 ≤ f.toInt ∧ c.toInt + f.toInt ≤ Z1.toInt by omega)]
                        by_cases p4 : e.toInt ≤ (Z2 - f).toInt
                        · rw [if_pos p4, if_pos (show 0 ≤ e.toInt ∧ 0 ≤ f.toInt ∧ e.toInt + f.toInt ≤ Z2.toInt by omega)]
                          exact hloop
                        · rw [if_neg p4, if_neg (show ¬ (0 ≤ e.toInt ∧ 0 ≤ f.toInt ∧ e.toInt + f.toInt ≤ Z2.toInt) by omega)]
                          exact v_Pret rfl
              · rw [if_neg a4, if_neg a4]
                exact v_Pret rfl
      · rw [if_neg h2, if_neg h2]
        exact v_Pret rfl
    · rw [if_neg h1, if_neg h1]
      exact v_Pret rfl
  exact hp r t e0
