/-! moved: what both answer -/
theorem z_in (b c d : Int32) (s : vS) : f_Md_in b c d s = some (v_b (c.toInt ≤ b.toInt ∧ b.toInt ≤ d.toInt), s) := by
  unfold f_Md_in
  by_cases h1 : b.toInt < c.toInt
  · rw [if_pos h1, v_b_neg (by omega)]
  · rw [if_neg h1]
    by_cases h2 : d.toInt < b.toInt
    · rw [if_pos h2, v_b_neg (by omega)]
    · rw [if_neg h2, v_b_pos (by omega)]
theorem z_isWord (b : Int32) (s : vS) : f_Ol_isWord b s = some (v_b (0 ≤ b.toInt ∧ b.toInt ≤ 2), s) := by
  unfold f_Ol_isWord
  by_cases h1 : b.toInt < 0
  · rw [if_pos h1, v_b_neg (by omega)]
  · rw [if_neg h1]
    by_cases h2 : 3 ≤ b.toInt
    · rw [if_pos h2, v_b_neg (by omega)]
    · rw [if_neg h2, v_b_pos (by omega)]
theorem z_isDate (b : Int32) (s : vS) : f_Ol_isDate b s = some (v_b (0 ≤ b.toInt ∧ b.toInt ≤ 99), s) := by
  unfold f_Ol_isDate
  by_cases h1 : b.toInt < 0
  · rw [if_pos h1, v_b_neg (by omega)]
  · rw [if_neg h1]
    by_cases h2 : 99 < b.toInt
    · rw [if_pos h2, v_b_neg (by omega)]
    · rw [if_neg h2, v_b_pos (by omega)]
def z_moved (b c d : Int32) : Int32 := if 0 ≤ b.toInt ∧ b.toInt ≤ 2 then (if c.toInt = -1 then 1 else if 0 ≤ c.toInt ∧ c.toInt ≤ 2 then (if c.toInt = b.toInt then -1 else if 0 ≤ d.toInt ∧ d.toInt ≤ 99 then 1 else -1) else -1) else -1
theorem z_Ol_moved (b c d : Int32) (s : vS) (h : v_KC s) : v_T (f_Ol_moved b c d s) (fun r _ => r = z_moved b c d) := by
  unfold f_Ol_moved z_moved
  rw [z_isWord, v_bi_some, v_bif]
  by_cases h1 : 0 ≤ b.toInt ∧ b.toInt ≤ 2
  · rw [if_pos h1, if_pos h1]
    by_cases h2 : c.toInt = -1
    · rw [if_pos h2, if_pos h2]
      exact v_Tbi (g_move b (-1) 0 s h) (fun _ _ _ => v_Tret rfl)
    · rw [if_neg h2, if_neg h2, z_isWord, v_bi_some, v_bif]
      by_cases h3 : 0 ≤ c.toInt ∧ c.toInt ≤ 2
      · rw [if_pos h3, if_pos h3]
        by_cases h4 : c.toInt = b.toInt
        · rw [if_pos h4, if_pos h4]
          exact v_Tret rfl
        · rw [if_neg h4, if_neg h4, z_isDate, v_bi_some, v_bif]
          by_cases h5 : 0 ≤ d.toInt ∧ d.toInt ≤ 99
          · rw [if_pos h5, if_pos h5]
            exact v_Tbi (g_move b c d s h) (fun _ _ _ => v_Tret rfl)
          · rw [if_neg h5, if_neg h5]
            exact v_Tret rfl
      · rw [if_neg h3, if_neg h3]
        exact v_Tret rfl
  · rw [if_neg h1, if_neg h1]
    exact v_Tret rfl
theorem z_Md_moved (b c d : Int32) (s : vS) : v_T (f_Md_moved b c d s) (fun r _ => r = z_moved b c d) := by
  unfold f_Md_moved z_moved
  rw [z_in, v_bi_some, v_bif]
  by_cases h1 : 0 ≤ b.toInt ∧ b.toInt ≤ 2
  · have hv : v_in b 3 := ⟨h1.1, by omega⟩
    rw [if_pos (show (0 : Int32).toInt ≤ b.toInt ∧ b.toInt ≤ (2 : Int32).toInt from h1), if_pos h1]
    by_cases h2 : c.toInt = -1
    · rw [if_pos h2, if_pos h2, if_pos hv]
      exact v_Tlet (v_Tret rfl)
    · rw [if_neg h2, if_neg h2, z_in, v_bi_some, v_bif]
      by_cases h3 : 0 ≤ c.toInt ∧ c.toInt ≤ 2
      · rw [if_pos (show (0 : Int32).toInt ≤ c.toInt ∧ c.toInt ≤ (2 : Int32).toInt from h3), if_pos h3]
        by_cases h4 : c.toInt = b.toInt
        · rw [if_pos h4, if_pos h4]
          exact v_Tret rfl
        · rw [if_neg h4, if_neg h4, z_in, v_bi_some, v_bif]
          by_cases h5 : 0 ≤ d.toInt ∧ d.toInt ≤ 99
          · rw [if_pos (show (0 : Int32).toInt ≤ d.toInt ∧ d.toInt ≤ (99 : Int32).toInt from h5), if_pos h5, if_pos hv]
            refine v_Tlet ?_
            rw [if_pos hv]
            exact v_Tlet (v_Tret rfl)
          · rw [if_neg (show ¬ ((0 : Int32).toInt ≤ d.toInt ∧ d.toInt ≤ (99 : Int32).toInt) from h5), if_neg h5]
            exact v_Tret rfl
      · rw [if_neg (show ¬ ((0 : Int32).toInt ≤ c.toInt ∧ c.toInt ≤ (2 : Int32).toInt) from h3), if_neg h3]
        exact v_Tret rfl
  · rw [if_neg (show ¬ ((0 : Int32).toInt ≤ b.toInt ∧ b.toInt ≤ (2 : Int32).toInt) from h1), if_neg h1]
    exact v_Tret rfl
