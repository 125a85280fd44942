/-! keep and row: what they make of the shelves, alike on both sides -/
def kC (b c : Int32) (s : vS) : vS := if z_keep b c (s.1 132 0) = 1 then (if c.toInt = -1 then v_w1 s (139 + 2 * b.toNatClampNeg) 0 (-1) else v_w1 (v_w1 s (139 + 2 * b.toNatClampNeg) 0 5) (139 + 2 * b.toNatClampNeg) 1 c) else s
def kM (b c : Int32) (s : vS) : vS := if z_keep b c (s.1 151 42) = 1 then v_w1 s 181 b.toNatClampNeg c else s
theorem z_keep1 {b c n : Int32} (h : z_keep b c n = 1) : (0 ≤ b.toInt ∧ b.toInt ≤ 5) ∧ (c.toInt = -1 ∨ 0 ≤ c.toInt) := by
  unfold z_keep at h
  by_cases h1 : 0 ≤ b.toInt ∧ b.toInt ≤ 5
  · rw [if_pos h1] at h
    by_cases h2 : c.toInt = -1
    · exact ⟨h1, Or.inl h2⟩
    · rw [if_neg h2] at h
      by_cases h3 : 0 ≤ c.toInt ∧ c.toInt < n.toInt
      · exact ⟨h1, Or.inr h3.1⟩
      · rw [if_neg h3] at h
        exact absurd h (by decide)
  · rw [if_neg h1] at h
    exact absurd h (by decide)
theorem y_Ol_keep (b c : Int32) (s : vS) : v_T (f_Ol_keep b c s) (fun _ t => t = kC b c s) := by
  unfold f_Ol_keep kC z_keep
  rw [z_isShelf, v_bi_some, v_bif]
  by_cases h1 : 0 ≤ b.toInt ∧ b.toInt ≤ 5
  · rw [if_pos h1, if_pos h1]
    have hsh := z_shelfAt b s h1
    have hk : v_kd (139 + 2 * b.toNatClampNeg) = 6 := n_Ks (s := s) h1
    by_cases h2 : c.toInt = -1
    · rw [if_pos h2, if_pos h2, if_pos h2, if_pos rfl, if_pos h2, hsh, v_bi_some, if_pos hk]
      unfold f_Sh_bare
      exact v_Tbi (P := fun _ t => t = v_w1 s (139 + 2 * b.toNatClampNeg) 0 (-1)) (v_Tlet (v_Tret rfl)) (fun _ _ ht => v_Tret ht)
    · rw [if_neg h2, if_neg h2]
      by_cases h3 : 0 ≤ c.toInt ∧ c.toInt < (s.1 132 0).toInt
      · rw [show f_Cl_knows c s = some (1, s) from by unfold f_Cl_knows; rw [if_neg (by omega), if_neg (by omega)], v_bi_some, if_neg (by decide), if_neg h2, if_pos h3, if_pos rfl, if_neg h2, hsh, v_bi_some, if_pos hk]
        unfold f_Sh_takeBody
        exact v_Tbi (P := fun _ t => t = v_w1 (v_w1 s (139 + 2 * b.toNatClampNeg) 0 5) (139 + 2 * b.toNatClampNeg) 1 c) (v_Tlet (v_Tlet (v_Tret rfl))) (fun _ _ ht => v_Tret ht)
      · rw [show f_Cl_knows c s = some (0, s) from by
          unfold f_Cl_knows
          by_cases h4 : c.toInt < 0
          · rw [if_pos h4]
          · rw [if_neg h4, if_pos (by omega)], v_bi_some, if_pos (by decide), if_neg h3, if_neg (by decide)]
        exact v_Tret rfl
  · rw [if_neg h1, if_neg h1, if_neg (by decide)]
    exact v_Tret rfl
theorem y_Md_keep (b c : Int32) (s : vS) (h : v_RI s) : v_T (f_Md_keep b c s) (fun _ t => t = kM b c s) := by
  have hm := h.2.2.2.2.2.1
  have e : ((s.1 151 42) - (1 : Int32)).toInt = (s.1 151 42).toInt - 1 := v_sub (show -2147483648 ≤ (s.1 151 42).toInt - 1 by omega) (show (s.1 151 42).toInt - 1 < 2147483648 by omega)
  unfold f_Md_keep kM z_keep
  rw [z_MisShelf, v_bi_some, v_bif]
  by_cases h1 : 0 ≤ b.toInt ∧ b.toInt ≤ 5
  · have hv : v_in b 6 := ⟨h1.1, by omega⟩
    rw [if_pos h1, if_pos h1]
    by_cases h2 : c.toInt = -1
    · rw [if_pos h2, if_pos h2, if_pos rfl, if_pos hv]
      exact v_Tlet (v_Tret rfl)
    · rw [if_neg h2, if_neg h2, z_isBody, v_bi_some, v_bif]
      by_cases h3 : 0 ≤ c.toInt ∧ c.toInt < (s.1 151 42).toInt
      · rw [if_pos (show (0 : Int32).toInt ≤ c.toInt ∧ c.toInt ≤ ((s.1 151 42) - (1 : Int32)).toInt from ⟨h3.1, by omega⟩), if_pos hv, if_pos h3, if_pos rfl]
        exact v_Tlet (v_Tret rfl)
      · rw [if_neg (show ¬ ((0 : Int32).toInt ≤ c.toInt ∧ c.toInt ≤ ((s.1 151 42) - (1 : Int32)).toInt) from fun z => h3 ⟨z.1, by omega⟩), if_neg h3, if_neg (by decide)]
        exact v_Tret rfl
  · rw [if_neg h1, if_neg h1, if_neg (by decide)]
    exact v_Tret rfl
theorem r_keep {b c : Int32} {s : vS} (h2 : s.1 132 0 = s.1 151 42) (h : ∀ k, k < 6 → z_r0 s k) (hlo : v_lo s (kC b c s)) : ∀ k, k < 6 → z_r0 (kM b c (kC b c s)) k := by
  unfold kM
  rw [hlo 151 42 (by decide), ← h2]
  by_cases hz : z_keep b c (s.1 132 0) = 1
  · rw [if_pos hz]
    unfold kC
    rw [if_pos hz]
    obtain ⟨hb, hc⟩ := z_keep1 hz
    have hB : b.toNatClampNeg < 6 := by rw [v_nc]; omega
    generalize b.toNatClampNeg = B at hB ⊢
    by_cases h1 : c.toInt = -1
    · rw [if_pos h1]
      refine z_r0_upd hB h (fun a j h3 h4 h5 => ?_) (fun k hk => ⟨?_, ?_⟩) (Or.inl ⟨?_, ?_⟩)
      · rw [v_w1_1, if_neg (by omega), v_w1_1, if_neg (by omega)]
      · rw [v_w1_1, if_neg (by omega), v_w1_1, if_neg (by omega)]
      · rw [v_w1_1, if_neg (by omega), v_w1_1, if_neg (by omega)]
      · rw [v_w1_1, if_pos ⟨rfl, rfl⟩]; exact h1
      · rw [v_w1_1, if_neg (by omega), v_w1_1, if_pos ⟨rfl, rfl⟩]; rfl
    · rw [if_neg h1]
      have hc0 : 0 ≤ c.toInt := hc.resolve_left h1
      refine z_r0_upd hB h (fun a j h3 h4 h5 => ?_) (fun k hk => ⟨?_, ?_⟩) (Or.inr (Or.inl ⟨?_, ?_, ?_⟩))
      · rw [v_w1_1, if_neg (by omega), v_w1_1, if_neg (by omega), v_w1_1, if_neg (by omega)]
      · rw [v_w1_1, if_neg (by omega), v_w1_1, if_neg (by omega), v_w1_1, if_neg (by omega)]
      · rw [v_w1_1, if_neg (by omega), v_w1_1, if_neg (by omega), v_w1_1, if_neg (by omega)]
      · rw [v_w1_1, if_pos ⟨rfl, rfl⟩]; exact hc0
      · rw [v_w1_1, if_neg (by omega), v_w1_1, if_neg (by omega), v_w1_1, if_pos ⟨rfl, rfl⟩]; rfl
      · rw [v_w1_1, if_neg (by omega), v_w1_1, if_pos ⟨rfl, rfl⟩, v_w1_1, if_pos ⟨rfl, rfl⟩]
  · rw [if_neg hz]
    unfold kC
    rw [if_neg hz]
    exact h
def rC (b c d : Int32) (s : vS) : vS := if z_rowA b c d = 1 then z_clr (v_w1 (v_w1 s (139 + 2 * b.toNatClampNeg) 0 c) (139 + 2 * b.toNatClampNeg) 2 d) (139 + 2 * b.toNatClampNeg + 1) 0 60 else s
def rM (b c d : Int32) (s : vS) : vS := if z_rowA b c d = 1 then z_clr (v_w1 (v_w1 s 181 b.toNatClampNeg ((-2) - c)) 182 b.toNatClampNeg d) 183 (60 * b.toNatClampNeg) (60 * b.toNatClampNeg + 60) else s
theorem z_rowA1 {b c d : Int32} (h : z_rowA b c d = 1) : (0 ≤ b.toInt ∧ b.toInt ≤ 5) ∧ 0 ≤ c.toInt ∧ c.toInt ≤ 4 := by
  unfold z_rowA at h
  by_cases h1 : 0 ≤ b.toInt ∧ b.toInt ≤ 5
  · rw [if_pos h1] at h
    by_cases h2 : 0 ≤ c.toInt ∧ c.toInt ≤ 4
    · exact ⟨h1, h2⟩
    · rw [if_neg h2] at h
      exact absurd h (by decide)
  · rw [if_neg h1] at h
    exact absurd h (by decide)
theorem z_clr1 {s : vS} {a i n : Nat} {x j : Nat} : (z_clr s a i n).1 x j = s.1 x j := rfl
theorem r_row {b c d : Int32} {s : vS} (h : ∀ k, k < 6 → z_r0 s k) : ∀ k, k < 6 → z_r0 (rM b c d (rC b c d s)) k := by
  unfold rM rC
  by_cases hz : z_rowA b c d = 1
  · rw [if_pos hz, if_pos hz]
    obtain ⟨hb, hc⟩ := z_rowA1 hz
    have hB : b.toNatClampNeg < 6 := by rw [v_nc]; omega
    generalize b.toNatClampNeg = B at hB ⊢
    have e : ((-2 : Int32) - c).toInt = -2 - c.toInt := v_sub (show -2147483648 ≤ (-2 : Int) - c.toInt by omega) (show (-2 : Int) - c.toInt < 2147483648 by omega)
    refine z_r0_upd hB h (fun a j h3 h4 h5 => ?_) (fun k hk => ⟨?_, ?_⟩) (Or.inr (Or.inr ⟨?_, ?_, ?_, ?_⟩))
    · rw [z_clr1, v_w1_1, if_neg (by omega), v_w1_1, if_neg (by omega), z_clr1, v_w1_1, if_neg (by omega), v_w1_1, if_neg (by omega)]
    · rw [z_clr1, v_w1_1, if_neg (by omega), v_w1_1, if_neg (by omega), z_clr1, v_w1_1, if_neg (by omega), v_w1_1, if_neg (by omega)]
    · rw [z_clr1, v_w1_1, if_neg (by omega), v_w1_1, if_neg (by omega), z_clr1, v_w1_1, if_neg (by omega), v_w1_1, if_neg (by omega)]
    · rw [z_clr1, v_w1_1, if_neg (by omega), v_w1_1, if_pos ⟨rfl, rfl⟩, e]; omega
    · rw [z_clr1, v_w1_1, if_neg (by omega), v_w1_1, if_pos ⟨rfl, rfl⟩, e]; omega
    · rw [z_clr1, v_w1_1, if_neg (by omega), v_w1_1, if_neg (by omega), z_clr1, v_w1_1, if_neg (by omega), v_w1_1, if_pos ⟨rfl, rfl⟩, z_clr1, v_w1_1, if_neg (by omega), v_w1_1, if_pos ⟨rfl, rfl⟩, e]; omega
    · rw [z_clr1, v_w1_1, if_neg (by omega), v_w1_1, if_neg (by omega), z_clr1, v_w1_1, if_pos ⟨rfl, rfl⟩, z_clr1, v_w1_1, if_pos ⟨rfl, rfl⟩]
  · rw [if_neg hz, if_neg hz]
    exact h
theorem k_keep {b c : Int32} {s : vS} (h : v_I3 s) (hj : v_T (f_Ol_keep b c s) (fun _ s1 => v_T (f_Md_keep b c s1) (fun _ s2 => v_I2 s2))) : v_T (f_Ol_keep b c s) (fun _ s1 => v_T (f_Md_keep b c s1) (fun _ s2 => v_I3 s2)) :=
  v_Tm (v_Tand hj (v_Tand (y_Ol_keep b c s) (i_c i_cS (c_keep b c s h.1.1.1)))) (fun _ t ht => v_Tm (v_Tand ht.1 (y_Md_keep b c t (v_RI_lo h.1.1.2 ht.2.2.2))) (fun _ u hu => ⟨hu.1, by
    have e := ht.2.1
    have hlo := ht.2.2.2
    rw [e] at hlo
    rw [hu.2, e]
    exact r_keep h.1.2 h.2 hlo⟩))
theorem k_row {b c d : Int32} {s : vS} (h : v_I3 s) (hj : v_T (f_Ol_row b c d s) (fun _ s1 => v_T (f_Md_row b c d s1) (fun _ s2 => v_I2 s2))) : v_T (f_Ol_row b c d s) (fun _ s1 => v_T (f_Md_row b c d s1) (fun _ s2 => v_I3 s2)) :=
  v_Tm (v_Tand hj (show v_T (f_Ol_row b c d s) (fun _ t => t = rC b c d s) from ⟨_, _, z_Ol_row b c d s, rfl⟩)) (fun _ t ht => v_Tm (v_Tand ht.1 (show v_T (f_Md_row b c d t) (fun _ u => u = rM b c d t) from ⟨_, _, z_Md_row b c d t, rfl⟩)) (fun _ u hu => ⟨hu.1, by
    rw [hu.2, ht.2]
    exact r_row h.2⟩))
