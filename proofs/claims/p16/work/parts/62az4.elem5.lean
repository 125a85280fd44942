/-! the elements: row, put, shift keep them alike; element's answers -/
theorem z_clr2 {s : vS} {a i n x j : Nat} : (z_clr s a i n).2 x j = if x = a ∧ i ≤ j ∧ j < n then 0 else s.2 x j := rfl
theorem v_cp2_2 {s : vS} {a sp b dp n c j : Nat} : (v_cp2 s a sp b dp n).2 c j = if c = b ∧ dp ≤ j ∧ j < dp + n then s.2 a (sp + (j - dp)) else s.2 c j := rfl
theorem r_rowE {b c d : Int32} {s : vS} (h : v_el s) : v_el (rM b c d (rC b c d s)) := by
  intro k hk hz i hi
  unfold rM rC at hz ⊢
  by_cases z1 : z_rowA b c d = 1
  · rw [if_pos z1, if_pos z1] at hz
    rw [if_pos z1, if_pos z1]
    have hB : b.toNatClampNeg < 6 := by have := (z_rowA1 z1).1; rw [v_nc]; omega
    generalize b.toNatClampNeg = B at hB hz ⊢
    rw [z_clr2, if_neg (by omega), v_w1_2, v_w1_2, z_clr2, v_w1_2, v_w1_2, z_clr2, v_w1_2, v_w1_2]
    by_cases e : k = B
    · rw [if_pos ⟨by omega, by omega, by omega⟩, if_pos ⟨rfl, by omega, by omega⟩]
    · rw [if_neg (by omega), if_neg (by omega), z_clr2, if_neg (by omega), v_w1_2, v_w1_2]
      rw [z_clr1, v_w1_1, if_neg (by omega), v_w1_1, if_neg (by omega), z_clr1, v_w1_1, if_neg (by omega), v_w1_1, if_neg (by omega)] at hz
      exact h k hk hz i hi
  · rw [if_neg z1, if_neg z1] at hz
    rw [if_neg z1, if_neg z1]
    exact h k hk hz i hi
theorem o_row {b c d : Int32} {s : vS} (h : v_I5 s) (hj : v_T (f_Ol_row b c d s) (fun _ s1 => v_T (f_Md_row b c d s1) (fun _ s2 => v_I3 s2))) : v_T (f_Ol_row b c d s) (fun _ s1 => v_T (f_Md_row b c d s1) (fun _ s2 => v_I5 s2)) :=
  v_Tm (v_Tand hj (show v_T (f_Ol_row b c d s) (fun _ t => t = rC b c d s) from ⟨_, _, z_Ol_row b c d s, rfl⟩)) (fun _ t ht => v_Tm (v_Tand ht.1 (show v_T (f_Md_row b c d t) (fun _ u => u = rM b c d t) from ⟨_, _, z_Md_row b c d t, rfl⟩)) (fun _ u hu => ⟨hu.1, by
    rw [hu.2, ht.2]
    exact r_rowE h.2⟩))
theorem r_putE {b c : Int32} {d : Int64} {s : vS} (h : v_el s) (h60 : (s.1 182 b.toNatClampNeg).toInt ≤ 60) : v_el (e_pM b c d (e_pC b c d s)) := by
  intro k hk hz i hi
  have h1 : (e_pC b c d s).1 = s.1 := by
    unfold e_pC
    by_cases z1 : (z_why b c (s.1 181 b.toNatClampNeg) (s.1 182 b.toNatClampNeg)).toInt = 0
    · rw [if_pos z1]; rfl
    · rw [if_neg z1]
  unfold e_pM at hz ⊢
  rw [h1] at hz ⊢
  unfold e_pC at hz ⊢
  by_cases z1 : (z_why b c (s.1 181 b.toNatClampNeg) (s.1 182 b.toNatClampNeg)).toInt = 0
  · rw [if_pos z1, if_pos z1] at hz
    rw [if_pos z1, if_pos z1]
    obtain ⟨q1, q2, q3, q4⟩ := z_why0 z1
    have hB : b.toNatClampNeg < 6 := by rw [v_nc]; omega
    have hc : c.toNatClampNeg < 60 := by rw [v_nc]; omega
    have hidx : (((60 : Int32) * b) + c).toNatClampNeg = 60 * b.toNatClampNeg + c.toNatClampNeg := by
      rw [v_nc, e_60 q1 ⟨q3, by omega⟩]; omega
    rw [hidx]
    have hzs : (s.1 181 k).toInt ≤ -2 := hz
    rw [v_w2_2, if_neg (by omega), v_w2_2, v_w2_2]
    generalize b.toNatClampNeg = B at hB ⊢
    generalize c.toNatClampNeg = C at hc ⊢
    by_cases e : k = B ∧ i = C
    · rw [if_pos ⟨by omega, e.2⟩, if_pos ⟨rfl, by omega⟩]
    · rw [if_neg (by omega), if_neg (by omega), v_w2_2, if_neg (by omega)]
      exact h k hk hzs i hi
  · rw [if_neg z1, if_neg z1] at hz
    rw [if_neg z1, if_neg z1]
    exact h k hk hz i hi
theorem o_put {b c : Int32} {d : Int64} {s : vS} (h : v_I5 s) (hj : v_T (f_Ol_put b c d s) (fun _ s1 => v_T (f_Md_put b c d s1) (fun _ s2 => v_I3 s2))) : v_T (f_Ol_put b c d s) (fun _ s1 => v_T (f_Md_put b c d s1) (fun _ s2 => v_I5 s2)) :=
  v_Tm (v_Tand hj (v_TP (i_c i_cS (c_put b c d s h.1.1.1.1)) (x_Ol_put b c d s h.1.2 h.1.1.1.1.1.1))) (fun _ t ht => by
    have hR := v_RI_lo h.1.1.1.2 ht.2.1.2
    have hlo := ht.2.1.2
    have h6 : -6 ≤ (t.1 181 b.toNatClampNeg).toInt ∨ ¬ (z_why b c (t.1 181 b.toNatClampNeg) (t.1 182 b.toNatClampNeg)).toInt = 0 := by
      rw [hlo 181 _ (by decide), hlo 182 _ (by decide)]
      by_cases q : (z_why b c (s.1 181 b.toNatClampNeg) (s.1 182 b.toNatClampNeg)).toInt = 0
      · obtain ⟨q1, q2, q3, q4⟩ := z_why0 q
        have hr := h.1.2 b.toNatClampNeg (by rw [v_nc]; omega)
        unfold z_r0 at hr
        have hr3 := (hr.resolve_left (fun z => by omega)).resolve_left (fun z => by omega)
        exact Or.inl hr3.1
      · exact Or.inr q
    refine v_Tm (v_Tand ht.1 (v_TP (m_put b c d t hR) (x_Md_put b c d t hR h6))) (fun _ u hu => ⟨hu.1, ?_⟩)
    rw [hu.2.2, ht.2.2]
    by_cases q : (z_why b c (s.1 181 b.toNatClampNeg) (s.1 182 b.toNatClampNeg)).toInt = 0
    · have q1 := (z_why0 q).1
      exact r_putE h.2 (h.1.1.1.2.1.2.1 b.toNatClampNeg (by rw [v_nc]; omega)).2
    · have e1 : e_pC b c d s = s := by unfold e_pC; rw [if_neg q]
      have e2 : e_pM b c d s = s := by unfold e_pM; rw [if_neg q]
      rw [e1, e2]
      exact h.2)
