/-! put: what both answer -/
def z_why (b c h z : Int32) : Int32 := if 0 ≤ b.toInt ∧ b.toInt ≤ 5 then (if h.toInt = -1 then (-11) else if h.toInt < 0 then (if 0 ≤ c.toInt ∧ c.toInt + 1 ≤ z.toInt then 0 else (-13)) else (-12)) else (-1)
theorem z_refEl (b c : Int32) (s : vS) (hz : ∀ k, k < 6 → z_r0 s k) (hk : v_KQ s) : v_T (f_Ol_refusalOfElement b c s) (fun r t => t = s ∧ r = z_why b c (s.1 181 b.toNatClampNeg) (s.1 182 b.toNatClampNeg)) := by
  unfold f_Ol_refusalOfElement z_why
  rw [z_isShelf, v_bi_some, v_bif]
  by_cases h1 : 0 ≤ b.toInt ∧ b.toInt ≤ 5
  · rw [if_pos h1, if_pos h1]
    have hB : b.toNatClampNeg < 6 := by rw [v_nc]; omega
    have hr := hz b.toNatClampNeg hB
    have hK : v_kd (139 + 2 * b.toNatClampNeg) = 6 := n_Ks (s := s) h1
    have hsz := hk.2 _ hK
    rw [z_shelfAt b s h1, v_bi_some, if_pos hK]
    unfold z_r0 at hr
    generalize 139 + 2 * b.toNatClampNeg = A at hK hsz hr ⊢
    generalize s.1 181 b.toNatClampNeg = H at hr ⊢
    generalize hZ : s.1 182 b.toNatClampNeg = Z at hr ⊢
    rcases hr with ⟨a1, a2⟩ | ⟨a1, a2, a3⟩ | ⟨a1, a2, a3, a4⟩
    · rw [show f_Sh_isBare A s = some (1, s) from by unfold f_Sh_isBare; rw [if_pos a2], v_bi_some, if_neg (by decide), if_pos a1]
      exact v_Tret ⟨rfl, rfl⟩
    · rw [show f_Sh_isBare A s = some (0, s) from by unfold f_Sh_isBare; rw [if_neg (by omega)], v_bi_some, if_pos (by decide), if_neg (show ¬ H.toInt = -1 by omega), if_neg (show ¬ H.toInt < 0 by omega)]
      rw [show f_Sh_isRow A s = some (0, s) from by unfold f_Sh_isRow; rw [z_isSort, v_bi_some, if_pos v_b01, v_b_neg (by omega)], v_bi_some, if_pos (by decide)]
      exact v_Tret ⟨rfl, rfl⟩
    · rw [show f_Sh_isBare A s = some (0, s) from by unfold f_Sh_isBare; rw [if_neg (by omega)], v_bi_some, if_pos (by decide), if_neg (show ¬ H.toInt = -1 by omega), if_pos (show H.toInt < 0 by omega)]
      rw [show f_Sh_isRow A s = some (1, s) from by unfold f_Sh_isRow; rw [z_isSort, v_bi_some, if_pos v_b01, v_b_pos (by omega)], v_bi_some, if_neg (by decide)]
      rw [a4] at hsz
      have e : (Z - (1 : Int32)).toInt = Z.toInt - 1 := v_sub (show -2147483648 ≤ Z.toInt - 1 by omega) (show Z.toInt - 1 < 2147483648 by omega)
      by_cases hc : 0 ≤ c.toInt ∧ c.toInt + 1 ≤ Z.toInt
      · rw [show f_Sh_hasPlaces A c 1 s = some (1, s) from by
          unfold f_Sh_hasPlaces
          rw [a4, if_neg (by omega), if_neg (by decide), if_neg (show ¬ Z.toInt < (1 : Int32).toInt from fun q => by have q : Z.toInt < 1 := q; omega), if_neg (by omega)], v_bi_some, if_neg (by decide), if_pos hc]
        exact v_Tret ⟨rfl, rfl⟩
      · rw [show f_Sh_hasPlaces A c 1 s = some (0, s) from by
          unfold f_Sh_hasPlaces
          rw [a4]
          by_cases c1 : c.toInt < 0
          · rw [if_pos c1]
          · rw [if_neg c1, if_neg (by decide)]
            by_cases c2 : Z.toInt < (1 : Int32).toInt
            · rw [if_pos c2]
            · rw [if_neg c2, if_pos (by omega)], v_bi_some, if_pos (by decide), if_neg hc]
        exact v_Tret ⟨rfl, rfl⟩
  · rw [if_neg h1, if_neg h1]
    exact v_Tret ⟨rfl, rfl⟩
theorem z_whyM (b c : Int32) (s : vS) (h : v_RQ s) : f_Md_whyNoPlace b c s = some (z_why b c (s.1 181 b.toNatClampNeg) (s.1 182 b.toNatClampNeg), s) := by
  unfold f_Md_whyNoPlace z_why
  rw [z_MisShelf, v_bi_some, v_bif]
  by_cases h1 : 0 ≤ b.toInt ∧ b.toInt ≤ 5
  · have hv : v_in b 6 := ⟨h1.1, by omega⟩
    have hB : b.toNatClampNeg < 6 := by rw [v_nc]; omega
    have hz := h.2.1 _ hB
    have e : (s.1 182 b.toNatClampNeg - (1 : Int32)).toInt = (s.1 182 b.toNatClampNeg).toInt - 1 := v_sub (show -2147483648 ≤ (s.1 182 b.toNatClampNeg).toInt - 1 by omega) (show (s.1 182 b.toNatClampNeg).toInt - 1 < 2147483648 by omega)
    rw [if_pos h1, if_pos h1, if_pos hv]
    by_cases h2 : (s.1 181 b.toNatClampNeg).toInt = -1
    · rw [if_pos h2, if_pos h2]
    · rw [if_neg h2, if_neg h2, if_pos hv]
      by_cases h3 : (s.1 181 b.toNatClampNeg).toInt < 0
      · rw [if_pos h3, if_pos h3, if_pos hv, z_in, v_bi_some, v_bif]
        by_cases h4 : 0 ≤ c.toInt ∧ c.toInt + 1 ≤ (s.1 182 b.toNatClampNeg).toInt
        · rw [if_pos (show (0 : Int32).toInt ≤ c.toInt ∧ c.toInt ≤ (s.1 182 b.toNatClampNeg - (1 : Int32)).toInt from ⟨h4.1, by omega⟩), if_pos h4]
        · rw [if_neg (show ¬ ((0 : Int32).toInt ≤ c.toInt ∧ c.toInt ≤ (s.1 182 b.toNatClampNeg - (1 : Int32)).toInt) from fun q => h4 ⟨q.1, by omega⟩), if_neg h4]
      · rw [if_neg h3, if_neg h3]
  · rw [if_neg h1, if_neg h1]
theorem z_whyC {b c h z : Int32} : (z_why b c h z).toInt = 0 ∨ ¬ 0 ≤ (z_why b c h z).toInt := by
  unfold z_why
  by_cases h1 : 0 ≤ b.toInt ∧ b.toInt ≤ 5
  · rw [if_pos h1]
    by_cases h2 : h.toInt = -1
    · rw [if_pos h2]; exact Or.inr (by decide)
    · rw [if_neg h2]
      by_cases h3 : h.toInt < 0
      · rw [if_pos h3]
        by_cases h4 : 0 ≤ c.toInt ∧ c.toInt + 1 ≤ z.toInt
        · rw [if_pos h4]; exact Or.inl rfl
        · rw [if_neg h4]; exact Or.inr (by decide)
      · rw [if_neg h3]; exact Or.inr (by decide)
  · rw [if_neg h1]; exact Or.inr (by decide)
def z_put (b c h z : Int32) : Int32 := if (z_why b c h z).toInt = 0 then 1 else z_why b c h z
theorem z_Ol_put (b c : Int32) (d : Int64) (s : vS) (hz : ∀ k, k < 6 → z_r0 s k) (hk : v_KQ s) (h : v_CI s) : v_T (f_Ol_put b c d s) (fun r _ => r = z_put b c (s.1 181 b.toNatClampNeg) (s.1 182 b.toNatClampNeg)) := by
  obtain ⟨r, t, e, -⟩ := c_put b c d s h
  refine ⟨r, t, e, ?_⟩
  have hp : v_P (f_Ol_put b c d s) (fun r _ => r = z_put b c (s.1 181 b.toNatClampNeg) (s.1 182 b.toNatClampNeg)) := by
    unfold f_Ol_put z_put
    refine v_Pbi (v_PT (z_refEl b c s hz hk)) ?_
    rintro r t ⟨rfl, rfl⟩
    refine v_Pif (fun q => ?_) (fun q => ?_)
    · rw [if_pos q]
      refine v_Pbi (P := fun _ _ => True) (fun _ _ _ => trivial) (fun r1 t1 _ => ?_)
      refine v_Pif (fun _ => ?_) (fun _ => v_Pnone)
      exact v_Pbi (P := fun _ _ => True) (fun _ _ _ => trivial) (fun _ _ _ => v_Pret rfl)
    · rw [if_neg q]
      exact v_Pret rfl
  exact hp r t e
theorem z_Md_put (b c : Int32) (d : Int64) (s : vS) (h : v_RI s) : v_T (f_Md_put b c d s) (fun r _ => r = z_put b c (s.1 181 b.toNatClampNeg) (s.1 182 b.toNatClampNeg)) := by
  obtain ⟨r, t, e, -⟩ := m_put b c d s h
  refine ⟨r, t, e, ?_⟩
  have hp : v_P (f_Md_put b c d s) (fun r _ => r = z_put b c (s.1 181 b.toNatClampNeg) (s.1 182 b.toNatClampNeg)) := by
    unfold f_Md_put z_put
    rw [z_whyM b c s h.1, v_bi_some]
    rcases z_whyC (b := b) (c := c) (h := s.1 181 b.toNatClampNeg) (z := s.1 182 b.toNatClampNeg) with q | q
    · rw [if_pos (show 0 ≤ (z_why b c (s.1 181 b.toNatClampNeg) (s.1 182 b.toNatClampNeg)).toInt by omega), if_pos q]
      repeat' first
        | ((with_reducible refine v_Pret ?_); (focus exact rfl))
        | with_reducible exact v_Pnone
        | with_reducible refine v_Pif (fun _ => ?_) (fun _ => ?_)
        | with_reducible refine v_Plet ?_
    · rw [if_neg q, if_neg (show ¬ (z_why b c (s.1 181 b.toNatClampNeg) (s.1 182 b.toNatClampNeg)).toInt = 0 by omega)]
      exact v_Pret rfl
  exact hp r t e
