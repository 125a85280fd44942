/-! the elements: what put makes of them -/
def z_cut (n : Int) (d : Int64) : Int64 := if n = 0 then Int32.toInt64 (Int8.toInt32 (Int32.toInt8 (Int64.toInt32 d))) else if n = 1 then Int32.toInt64 (Int16.toInt32 (Int32.toInt16 (Int64.toInt32 d))) else if n = 2 then Int32.toInt64 (Int64.toInt32 d) else if n = 3 then d else if (lg_cmp d (0 : Int64)).toInt = 0 then 0 else 1
theorem z_Shcut {A : Nat} {d : Int64} {s : vS} (h : 0 ≤ (s.1 A 0).toInt ∧ (s.1 A 0).toInt ≤ 4) : f_Sh_cut A d s = some (z_cut (s.1 A 0).toInt d, s) := by
  unfold f_Sh_cut z_cut
  by_cases h0 : (s.1 A 0).toInt = 0
  · rw [if_neg (show ¬ ((s.1 A 0).toInt < 0 ∨ 3 < (s.1 A 0).toInt) by omega), if_pos h0, if_pos h0]
  · by_cases h1 : (s.1 A 0).toInt = 1
    · rw [if_neg (show ¬ ((s.1 A 0).toInt < 0 ∨ 3 < (s.1 A 0).toInt) by omega), if_neg h0, if_pos h1, if_neg h0, if_pos h1]
    · by_cases h2 : (s.1 A 0).toInt = 2
      · rw [if_neg (show ¬ ((s.1 A 0).toInt < 0 ∨ 3 < (s.1 A 0).toInt) by omega), if_neg h0, if_neg h1, if_pos h2, if_neg h0, if_neg h1, if_pos h2]
      · by_cases h3 : (s.1 A 0).toInt = 3
        · rw [if_neg (show ¬ ((s.1 A 0).toInt < 0 ∨ 3 < (s.1 A 0).toInt) by omega), if_neg h0, if_neg h1, if_neg h2, if_neg h0, if_neg h1, if_neg h2, if_pos h3]
        · rw [if_pos (show (s.1 A 0).toInt < 0 ∨ 3 < (s.1 A 0).toInt by omega), if_neg h0, if_neg h1, if_neg h2, if_neg h3]
          by_cases h4 : (lg_cmp d (0 : Int64)).toInt = 0
          · rw [if_pos h4, if_pos h4]
          · rw [if_neg h4, if_neg h4]
theorem z_why0 {b c h z : Int32} (e : (z_why b c h z).toInt = 0) : (0 ≤ b.toInt ∧ b.toInt ≤ 5) ∧ h.toInt ≤ -2 ∧ 0 ≤ c.toInt ∧ c.toInt + 1 ≤ z.toInt := by
  unfold z_why at e
  by_cases h1 : 0 ≤ b.toInt ∧ b.toInt ≤ 5
  · rw [if_pos h1] at e
    by_cases h2 : h.toInt = -1
    · rw [if_pos h2] at e; exact absurd e (by decide)
    · rw [if_neg h2] at e
      by_cases h3 : h.toInt < 0
      · rw [if_pos h3] at e
        by_cases h4 : 0 ≤ c.toInt ∧ c.toInt + 1 ≤ z.toInt
        · exact ⟨h1, by omega, h4⟩
        · rw [if_neg h4] at e; exact absurd e (by decide)
      · rw [if_neg h3] at e; exact absurd e (by decide)
  · rw [if_neg h1] at e; exact absurd e (by decide)
noncomputable def e_pC (b c : Int32) (d : Int64) (s : vS) : vS := if (z_why b c (s.1 181 b.toNatClampNeg) (s.1 182 b.toNatClampNeg)).toInt = 0 then v_w2 s (139 + 2 * b.toNatClampNeg + 1) c.toNatClampNeg (z_cut (-2 - (s.1 181 b.toNatClampNeg).toInt) d) else s
noncomputable def e_pM (b c : Int32) (d : Int64) (s : vS) : vS := if (z_why b c (s.1 181 b.toNatClampNeg) (s.1 182 b.toNatClampNeg)).toInt = 0 then v_w2 s 183 (((60 : Int32) * b) + c).toNatClampNeg (z_cut (-2 - (s.1 181 b.toNatClampNeg).toInt) d) else s
theorem x_Ol_put (b c : Int32) (d : Int64) (s : vS) (hz : ∀ k, k < 6 → z_r0 s k) (hk : v_KQ s) : v_P (f_Ol_put b c d s) (fun _ t => t = e_pC b c d s) := by
  unfold f_Ol_put e_pC
  refine v_Pbi (v_PT (z_refEl b c s hz hk)) ?_
  rintro r t ⟨rfl, rfl⟩
  refine v_Pif (fun q => ?_) (fun q => ?_)
  · rw [if_pos q]
    obtain ⟨h1, h2, h3, h4⟩ := z_why0 q
    have hB : b.toNatClampNeg < 6 := by rw [v_nc]; omega
    have hr := hz _ hB
    have hK : v_kd (139 + 2 * b.toNatClampNeg) = 6 := n_Ks (s := t) h1
    have hsz := hk.2 _ hK
    rw [z_shelfAt b t h1, v_bi_some, if_pos hK]
    unfold z_r0 at hr
    have hr3 := (hr.resolve_left (fun z => by omega)).resolve_left (fun z => by omega)
    obtain ⟨r1, r2, r3, r4⟩ := hr3
    rw [← r4] at h4
    rw [← r3]
    generalize 139 + 2 * b.toNatClampNeg = A at hK hsz r3 r4 h4 ⊢
    unfold f_Sh_set
    rw [if_neg (show ¬ c.toInt < 0 by omega), if_neg (show ¬ (t.1 A 2).toInt ≤ c.toInt by omega), if_neg (show ¬ 60 ≤ c.toInt by omega), z_Shcut ⟨by omega, by omega⟩, v_bi_some, if_pos (show v_in c 60 from ⟨by omega, by omega⟩)]
    exact v_Pbi (P := fun _ u => u = v_w2 t (A + 1) c.toNatClampNeg (z_cut (t.1 A 0).toInt d)) (v_Plet (v_Pret rfl)) (fun _ _ e => v_Pret e)
  · rw [if_neg q]
    exact v_Pret rfl
theorem x_Md_put (b c : Int32) (d : Int64) (s : vS) (h : v_RI s) (h6 : -6 ≤ (s.1 181 b.toNatClampNeg).toInt ∨ ¬ (z_why b c (s.1 181 b.toNatClampNeg) (s.1 182 b.toNatClampNeg)).toInt = 0) : v_P (f_Md_put b c d s) (fun _ t => t = e_pM b c d s) := by
  unfold f_Md_put e_pM
  rw [z_whyM b c s h.1, v_bi_some]
  rcases z_whyC (b := b) (c := c) (h := s.1 181 b.toNatClampNeg) (z := s.1 182 b.toNatClampNeg) with q | q
  · obtain ⟨h1, h2, h3, h4⟩ := z_why0 q
    have hm : -6 ≤ (s.1 181 b.toNatClampNeg).toInt := h6.resolve_right (fun z => z q)
    rw [if_pos (show 0 ≤ (z_why b c (s.1 181 b.toNatClampNeg) (s.1 182 b.toNatClampNeg)).toInt by omega), if_pos q, if_pos (show v_in b 6 from ⟨h1.1, by omega⟩)]
    have e : ((-2 : Int32) - (s.1 181 b.toNatClampNeg)).toInt = -2 - (s.1 181 b.toNatClampNeg).toInt := v_sub (show -2147483648 ≤ (-2 : Int) - (s.1 181 b.toNatClampNeg).toInt by omega) (show (-2 : Int) - (s.1 181 b.toNatClampNeg).toInt < 2147483648 by omega)
    rw [← e]
    generalize ((-2 : Int32) - (s.1 181 b.toNatClampNeg)) = N
    unfold z_cut
    refine v_Pif (fun n0 => ?_) (fun n0 => ?_)
    · rw [if_pos n0]
      exact v_Pif (fun _ => v_Plet (v_Pret rfl)) (fun _ => v_Pnone)
    · rw [if_neg n0]
      refine v_Pif (fun n1 => ?_) (fun n1 => ?_)
      · rw [if_pos n1]
        exact v_Pif (fun _ => v_Plet (v_Pret rfl)) (fun _ => v_Pnone)
      · rw [if_neg n1]
        refine v_Pif (fun n2 => ?_) (fun n2 => ?_)
        · rw [if_pos n2]
          exact v_Pif (fun _ => v_Plet (v_Pret rfl)) (fun _ => v_Pnone)
        · rw [if_neg n2]
          refine v_Pif (fun n3 => ?_) (fun n3 => ?_)
          · rw [if_pos n3]
            exact v_Pif (fun _ => v_Plet (v_Pret rfl)) (fun _ => v_Pnone)
          · rw [if_neg n3]
            refine v_Pif (fun n4 => ?_) (fun n4 => ?_)
            · rw [if_pos n4]
              exact v_Pif (fun _ => v_Plet (v_Pret rfl)) (fun _ => v_Pnone)
            · rw [if_neg n4]
              exact v_Pif (fun _ => v_Plet (v_Pret rfl)) (fun _ => v_Pnone)
  · rw [if_neg q, if_neg (show ¬ (z_why b c (s.1 181 b.toNatClampNeg) (s.1 182 b.toNatClampNeg)).toInt = 0 by omega)]
    exact v_Pret rfl
