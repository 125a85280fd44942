/-! keep: what both answer -/
def z_keep (b c n : Int32) : Int32 := if 0 ≤ b.toInt ∧ b.toInt ≤ 5 then (if c.toInt = -1 then 1 else if 0 ≤ c.toInt ∧ c.toInt < n.toInt then 1 else -1) else -1
theorem z_Ol_keep (b c : Int32) (s : vS) : v_T (f_Ol_keep b c s) (fun r _ => r = z_keep b c (s.1 132 0)) := by
  unfold f_Ol_keep z_keep
  rw [z_isShelf, v_bi_some, v_bif]
  by_cases h1 : 0 ≤ b.toInt ∧ b.toInt ≤ 5
  · rw [if_pos h1, if_pos h1]
    have hbare : v_T (v_bi (f_Ol_shelfAt b s) (fun r5 s5 => if v_kd r5 = 6 then (v_bi (f_Sh_bare r5 s5) (fun _ s7 => (some ((1 : Int32), s7)))) else none)) (fun r _ => r = 1) := by
      refine v_Tbi (n_shAt b s h1) ?_
      rintro r t ⟨-, h6, -⟩
      rw [if_pos h6]
      unfold f_Sh_bare
      exact v_Tbi (P := fun _ _ => True) (v_Tlet (v_Tret trivial)) (fun _ _ _ => v_Tret rfl)
    have hbody : v_T (v_bi (f_Ol_shelfAt b s) (fun r8 s8 => if v_kd r8 = 6 then (v_bi (f_Sh_takeBody r8 c s8) (fun _ s10 => (some ((1 : Int32), s10)))) else none)) (fun r _ => r = 1) := by
      refine v_Tbi (n_shAt b s h1) ?_
      rintro r t ⟨-, h6, -⟩
      rw [if_pos h6]
      unfold f_Sh_takeBody
      exact v_Tbi (P := fun _ _ => True) (v_Tlet (v_Tlet (v_Tret trivial))) (fun _ _ _ => v_Tret rfl)
    by_cases h2 : c.toInt = -1
    · rw [if_pos h2, if_pos h2, if_pos h2]
      exact hbare
    · rw [if_neg h2, if_neg h2]
      by_cases h3 : 0 ≤ c.toInt ∧ c.toInt < (s.1 132 0).toInt
      · rw [show f_Cl_knows c s = some (1, s) from by unfold f_Cl_knows; rw [if_neg (by omega), if_neg (by omega)], v_bi_some, if_neg (by decide), if_neg h2, if_pos h3]
        exact hbody
      · rw [show f_Cl_knows c s = some (0, s) from by
          unfold f_Cl_knows
          by_cases h4 : c.toInt < 0
          · rw [if_pos h4]
          · rw [if_neg h4, if_pos (by omega)], v_bi_some, if_pos (by decide), if_neg h3]
        exact v_Tret rfl
  · rw [if_neg h1, if_neg h1]
    exact v_Tret rfl
theorem z_isBody (c : Int32) (s : vS) : f_Md_isBody c s = some (v_b ((0 : Int32).toInt ≤ c.toInt ∧ c.toInt ≤ ((s.1 151 42) - (1 : Int32)).toInt), s) := by
  unfold f_Md_isBody
  rw [z_in, v_bi_some, if_pos v_b01]
theorem z_Md_keep (b c : Int32) (s : vS) (h : v_RI s) : v_T (f_Md_keep b c s) (fun r _ => r = z_keep b c (s.1 151 42)) := by
  have hm := h.2.2.2.2.2.1
  have e : ((s.1 151 42) - (1 : Int32)).toInt = (s.1 151 42).toInt - 1 := v_sub (show -2147483648 ≤ (s.1 151 42).toInt - 1 by omega) (show (s.1 151 42).toInt - 1 < 2147483648 by omega)
  unfold f_Md_keep z_keep
  rw [z_MisShelf, v_bi_some, v_bif]
  by_cases h1 : 0 ≤ b.toInt ∧ b.toInt ≤ 5
  · have hv : v_in b 6 := ⟨h1.1, by omega⟩
    rw [if_pos h1, if_pos h1]
    by_cases h2 : c.toInt = -1
    · rw [if_pos h2, if_pos h2, if_pos hv]
      exact v_Tlet (v_Tret rfl)
    · rw [if_neg h2, if_neg h2, z_isBody, v_bi_some, v_bif]
      by_cases h3 : 0 ≤ c.toInt ∧ c.toInt < (s.1 151 42).toInt
      · rw [if_pos (show (0 : Int32).toInt ≤ c.toInt ∧ c.toInt ≤ ((s.1 151 42) - (1 : Int32)).toInt from ⟨h3.1, by omega⟩), if_pos hv, if_pos h3]
        exact v_Tlet (v_Tret rfl)
      · rw [if_neg (show ¬ ((0 : Int32).toInt ≤ c.toInt ∧ c.toInt ≤ ((s.1 151 42) - (1 : Int32)).toInt) from fun z => h3 ⟨z.1, by omega⟩), if_neg h3]
        exact v_Tret rfl
  · rw [if_neg h1, if_neg h1]
    exact v_Tret rfl
theorem j_keepC (b c : Int32) (s : vS) (h : v_CI s) : v_T (f_Ol_keep b c s) (fun r t => r = z_keep b c (s.1 132 0) ∧ t.1 132 0 = s.1 132 0) :=
  v_Tm (v_Tand (z_Ol_keep b c s) (c_keep b c s h)) (fun _ _ ht => ⟨ht.1, (ht.2.2 132 0 (by unfold c_S; omega)).1⟩)
theorem j_keepM (b c : Int32) (s : vS) (h : v_RI s) : v_T (f_Md_keep b c s) (fun r t => r = z_keep b c (s.1 151 42) ∧ t.1 151 42 = s.1 151 42) :=
  v_Tm (v_Tand (z_Md_keep b c s h) (m_keep2 b c s h)) (fun _ _ ht => ⟨ht.1, (ht.2.2 151 42 (by unfold m_S; omega)).1⟩)
