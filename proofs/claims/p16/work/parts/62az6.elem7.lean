/-! element: what both answer -/
theorem z_Ol_element (b c : Int32) (s : vS) (hz : ∀ k, k < 6 → z_r0 s k) (hk : v_KQ s) : v_T (f_Ol_element b c s) (fun r _ => r = if (z_why b c (s.1 181 b.toNatClampNeg) (s.1 182 b.toNatClampNeg)).toInt = 0 then s.2 (140 + 2 * b.toNatClampNeg) c.toNatClampNeg else (-9223372036854775808)) := by
  unfold f_Ol_element
  refine v_Tbi (z_refEl b c s hz hk) ?_
  rintro r t ⟨rfl, rfl⟩
  refine v_Tif (fun q => ?_) (fun q => v_Tret (by rw [if_neg q]))
  rw [if_pos q]
  obtain ⟨h1, h2, h3, h4⟩ := z_why0 q
  have hr := hz b.toNatClampNeg (by rw [v_nc]; omega)
  have hK : v_kd (139 + 2 * b.toNatClampNeg) = 6 := n_Ks (s := t) h1
  have hsz := hk.2 _ hK
  rw [z_shelfAt b t h1, v_bi_some, if_pos hK]
  unfold z_r0 at hr
  have hr3 := (hr.resolve_left (fun z => by omega)).resolve_left (fun z => by omega)
  obtain ⟨r1, r2, r3, r4⟩ := hr3
  rw [← r4] at h4
  rw [show 140 + 2 * b.toNatClampNeg = 139 + 2 * b.toNatClampNeg + 1 by omega]
  generalize 139 + 2 * b.toNatClampNeg = A at hK hsz r3 r4 h4 ⊢
  rw [show f_Sh_at A c t = some (t.2 (A + 1) c.toNatClampNeg, t) from by
    unfold f_Sh_at
    rw [if_neg (show ¬ c.toInt < 0 by omega), if_neg (show ¬ (t.1 A 2).toInt ≤ c.toInt by omega), if_neg (show ¬ 60 ≤ c.toInt by omega), if_pos (show v_in c 60 from ⟨by omega, by omega⟩)], v_bi_some]
  exact v_Tret rfl
theorem z_Md_element (b c : Int32) (s : vS) (h : v_RI s) : v_T (f_Md_element b c s) (fun r _ => r = if (z_why b c (s.1 181 b.toNatClampNeg) (s.1 182 b.toNatClampNeg)).toInt = 0 then s.2 183 (60 * b.toNatClampNeg + c.toNatClampNeg) else (-9223372036854775808)) := by
  unfold f_Md_element
  rw [z_whyM b c s h.1, v_bi_some]
  rcases z_whyC (b := b) (c := c) (h := s.1 181 b.toNatClampNeg) (z := s.1 182 b.toNatClampNeg) with q | q
  · obtain ⟨h1, h2, h3, h4⟩ := z_why0 q
    have hz := (h.1.2.1 b.toNatClampNeg (by rw [v_nc]; omega)).2
    have e := e_60 h1 (c := c) ⟨h3, by omega⟩
    have hi : v_in (((60 : Int32) * b) + c) 360 := ⟨by rw [e]; omega, by rw [e, v_nc, v_nc]; omega⟩
    have hx : (((60 : Int32) * b) + c).toNatClampNeg = 60 * b.toNatClampNeg + c.toNatClampNeg := by rw [v_nc, e]; omega
    rw [if_pos (show 0 ≤ (z_why b c (s.1 181 b.toNatClampNeg) (s.1 182 b.toNatClampNeg)).toInt by omega), if_pos q, if_pos hi, hx]
    exact v_Tret rfl
  · rw [if_neg q, if_neg (show ¬ (z_why b c (s.1 181 b.toNatClampNeg) (s.1 182 b.toNatClampNeg)).toInt = 0 by omega)]
    exact v_Tret rfl
theorem o_element {b c : Int32} {s : vS} (h : v_I5 s) (hj : v_T (f_Ol_element b c s) (fun _ s1 => v_T (f_Md_element b c s1) (fun _ s2 => v_I5 s2))) : v_T (f_Ol_element b c s) (fun r1 s1 => v_T (f_Md_element b c s1) (fun r2 s2 => v_I5 s2 ∧ r1 = r2)) :=
  v_Tm (v_Tand hj (v_Tand (c_element b c s) (z_Ol_element b c s h.1.2 h.1.1.1.1.1.1))) (fun r t ht => by
    obtain ⟨h1, e, hr⟩ := ht
    subst e
    refine v_Tm (v_Tand h1 (z_Md_element b c _ h.1.1.1.2)) (fun _ u hu => ⟨hu.1, ?_⟩)
    rw [hr, hu.2]
    by_cases q : (z_why b c (t.1 181 b.toNatClampNeg) (t.1 182 b.toNatClampNeg)).toInt = 0
    · rw [if_pos q, if_pos q]
      obtain ⟨h1, h2, h3, h4⟩ := z_why0 q
      have hz := (h.1.1.1.2.1.2.1 b.toNatClampNeg (by rw [v_nc]; omega)).2
      exact h.2 _ (by rw [v_nc]; omega) h2 _ (by rw [v_nc]; omega)
    · rw [if_neg q, if_neg q])
