/-! the elements: shift keeps them alike -/
theorem o_shift {b c d e f : Int32} {s : vS} (h : v_I5 s) (hj : v_T (f_Ol_shift b c d e f s) (fun _ s1 => v_T (f_Md_shift b c d e f s1) (fun _ s2 => v_I3 s2))) : v_T (f_Ol_shift b c d e f s) (fun _ s1 => v_T (f_Md_shift b c d e f s1) (fun _ s2 => v_I5 s2)) :=
  v_Tm (v_Tand hj (v_TP (v_Tand (i_c i_cS (c_shift b c d e f s h.1.1.1.1)) (z_Ol_shift b c d e f s h.1.2 h.1.1.1.1.1.1 h.1.1.1.1)) (x_Ol_shift b c d e f s h.1.1.1.1.1.1))) (fun r t ht => by
    have hlo := ht.2.1.1.2
    have hR := v_RI_lo h.1.1.1.2 hlo
    refine v_Tm (v_Tand ht.1 (v_TP (z_Md_shift b c d e f t hR) (x_Md_shift b c d e f t hR))) (fun r2 u hu => ⟨hu.1, ?_⟩)
    have er : r = r2 := by
      rw [ht.2.1.2, hu.2.1, hlo 181 _ (by decide), hlo 182 _ (by decide), hlo 181 _ (by decide), hlo 182 _ (by decide)]
    rcases ht.2.2 with ⟨q1, q2⟩ | ⟨q1, ⟨⟨hb, hd, p1, p2⟩, hr0, hr4, -⟩, q3⟩
    · rcases hu.2.2 with ⟨-, w2⟩ | ⟨w1, -⟩
      · rw [w2, q2]; exact h.2
      · rw [er] at q1; omega
    · rcases hu.2.2 with ⟨w1, -⟩ | ⟨-, w2, w3, w4⟩
      · rw [er] at q1; omega
      · intro k hk hz i hi
        have hKb : v_kd (139 + 2 * b.toNatClampNeg) = 6 := n_Ks (s := s) hb
        have hKd : v_kd (139 + 2 * d.toNatClampNeg) = 6 := n_Ks (s := s) hd
        have hsb := h.1.1.1.1.1.1.2 _ hKb
        have hsd := h.1.1.1.1.1.1.2 _ hKd
        have hB : b.toNatClampNeg < 6 := by rw [v_nc]; omega
        have hD : d.toNatClampNeg < 6 := by rw [v_nc]; omega
        have hrB := h.1.2 _ hB
        have hC : (c.toNatClampNeg : Int) = c.toInt := by rw [v_nc]; omega
        have hE : (e.toNatClampNeg : Int) = e.toInt := by rw [v_nc]; omega
        have hF : (f.toNatClampNeg : Int) = f.toInt := by rw [v_nc]; omega
        have hcf : c.toInt + f.toInt ≤ 60 := by omega
        have hef : e.toInt + f.toInt ≤ 60 := by omega
        have ht1 : t.1 = s.1 := by rw [q3]; rfl
        have hzs : (s.1 181 k).toInt ≤ -2 := by rw [w2, ht1] at hz; exact hz
        unfold z_r0 at hrB
        have hHb : (s.1 181 b.toNatClampNeg).toInt ≤ -2 := by
          rcases hrB with ⟨_, z⟩ | ⟨_, z, _⟩ | ⟨_, z, _, _⟩
          · omega
          · omega
          · exact z
        rw [w4 (140 + 2 * k) i (by omega) (by omega), w3 (60 * k + i), q3, v_cp2_2, v_cp2_2, v_cp2_2, if_neg (show ¬ ((183 : Nat) = _ ∧ _ ∧ _) by omega), if_neg (show ¬ ((183 : Nat) = _ ∧ _ ∧ _) by omega)]
        generalize b.toNatClampNeg = B at hB hKb hsb hHb ⊢
        generalize d.toNatClampNeg = D at hD hKd hsd ⊢
        generalize c.toNatClampNeg = C at hC ⊢
        generalize e.toNatClampNeg = E at hE ⊢
        generalize f.toNatClampNeg = F at hF ⊢
        by_cases z : k = D ∧ E ≤ i ∧ i < E + F
        · rw [if_pos ⟨by omega, z.2.1, z.2.2⟩, if_pos ⟨by omega, by omega⟩]
          have g := h.2 B hB hHb (C + (i - E)) (by omega)
          rw [show 139 + 2 * B + 1 = 140 + 2 * B by omega, g, show 60 * B + C + (60 * k + i - (60 * D + E)) = 60 * B + (C + (i - E)) by omega]
        · rw [if_neg (by omega), if_neg (by omega)]
          exact h.2 k hk hzs i hi)
