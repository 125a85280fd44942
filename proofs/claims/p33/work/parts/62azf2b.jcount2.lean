/-! count, both together -/
def v_I8 (s : vS) : Prop := v_I7 s ∧ v_I6 s
theorem v_I80 : v_I8 v_s0 := ⟨v_I70, v_I60⟩
theorem j8_step {α β : Type} {o : Option (α × vS)} {f : vS → Option (β × vS)} (h7 : v_T o (fun _ s1 => v_T (f s1) (fun _ s2 => v_I7 s2))) (h6 : v_T o (fun _ s1 => v_T (f s1) (fun _ s2 => v_I6 s2))) : v_T o (fun _ s1 => v_T (f s1) (fun _ s2 => v_I8 s2)) :=
  v_Tm (v_Tand h7 h6) (fun _ _ h => v_Tm (v_Tand h.1 h.2) (fun _ _ q => q))
theorem jr_count {s t : vS} (h : v_I8 s) (hl : v_lo s t) (hR : v_RI t) (b : Int32) : ∀ r1 s1 r2 t1, f_Ol_count b s = some (r1, s1) → f_Md_count b t = some (r2, t1) → r1 = r2 := by
  have hJ : j_R s t := j_R_M h.1.2 (j_loM hl)
  have hK : v_KQ s := h.1.1.1.1.1.1.1.1
  have hm := hR.1.1
  have em : s.1 8 1 = t.1 151 14 := hJ.1
  intro r1 s1 r2 t1 e1 e2
  unfold f_Ol_count at e1
  unfold f_Md_count at e2
  by_cases h0 : b.toInt < 0 ∨ 6 < b.toInt
  · rw [if_pos h0] at e1 e2
    rw [← (v_so e1).1, ← (v_so e2).1]
  rw [if_neg h0] at e1 e2
  by_cases h1 : b.toInt = 0
  · rw [if_pos h1] at e1 e2
    rw [← (v_so e1).1, ← (v_so e2).1]
    exact em
  rw [if_neg h1] at e1 e2
  by_cases h1 : b.toInt = 1
  · rw [if_pos h1] at e1 e2
    obtain ⟨x1, u1, a1, a2⟩ := v_bd e1
    obtain ⟨x2, u2, b1, b2⟩ := v_bd e2
    unfold f_Ct_there at a1
    unfold f_Md_thereMany at b1
    have h3 := j_tmL hJ hm 4096 4096 0 0 0 (by decide) hm.1 (by decide) (by decide) x1 u1 x2 u2 a1 b1
    rw [pc_eq, v_bi_some] at a2
    rw [← (v_so a2).1, ← (v_so b2).1]
    exact h3
  rw [if_neg h1] at e1 e2
  by_cases h1 : b.toInt = 2
  · rw [if_pos h1] at e1 e2
    obtain ⟨x1, u1, a1, a2⟩ := v_bd e1
    obtain ⟨x2, u2, b1, b2⟩ := v_bd e2
    obtain ⟨-, hF, hB⟩ := y_hearS s hK hJ.2.2.1 hJ.2.2.2.2.2.2.2.2.2 x1 u1 a1
    rw [pc_eq, v_bi_some] at a2
    unfold f_Md_countStanding at b1
    obtain ⟨x3, u3, c1, c2⟩ := v_bd b1
    obtain ⟨x4, u4, d1, d2⟩ := v_bd c2
    have hd : ∀ k, k < (t.1 151 14).toInt.toNat → 0 ≤ (dM t k).toInt ∧ (dM t k).toInt ≤ 99 := fun k hk => by
      have h3 := hJ.2.2.2.1 k (by rw [em]; omega) (by omega)
      have h4 := (hJ.2.2.2.2.2.2.2.2.2.1 k (by rw [em]; omega) (by omega)).1.1 rfl
      rw [h3.1] at h4
      exact h4
    obtain ⟨wE, -, hM⟩ := y_findStands 0 t hm hd x3 u3 c1
    have heq := j_stEq hJ hR hF hM
    have f14 : u3.1 151 14 = t.1 151 14 := wE _ _ (by omega)
    unfold f_Md_standing at d1
    obtain ⟨-, y, y1, y2⟩ := y_stL (x := u1.1 8 4) (by rw [f14]; exact hm) (fun m hm2 => heq m (by rw [← f14]; exact hm2)) 4096 0 0 0 (by decide) (by rw [f14]; exact hm.1) (by decide) (by decide) (fun m _ => ⟨fun q => (by rw [b_0] at q; cases q), fun q => absurd q.1 (Nat.not_lt_zero m)⟩) x4 u4 d1
    have ey : y = u1.1 8 4 := b_ext (fun i hi => by
      have h5 := y2 i hi
      rw [f14] at h5
      cases hq : bt (u1.1 8 4) i with
      | true => exact h5.mpr ⟨by have := hB i hi hq; rw [em] at this; exact this, hq⟩
      | false =>
        cases hy : bt y i with
        | false => rfl
        | true =>
          have h6 := (h5.mp hy).2
          rw [hq] at h6
          cases h6)
    rw [← (v_so a2).1, ← (v_so b2).1, ← (v_so d2).1, ← y1, ey]
  rw [if_neg h1] at e1 e2
  by_cases h1 : b.toInt = 3
  · rw [if_pos h1] at e1 e2
    rw [← (v_so e1).1, ← (v_so e2).1]
    exact hJ.2.1.1
  rw [if_neg h1] at e1 e2
  by_cases h1 : b.toInt = 4
  · rw [if_pos h1] at e1 e2
    rw [← (v_so e1).1, ← (v_so e2).1]
    exact hJ.2.2.2.2.2.2.2.2.1.1
  rw [if_neg h1] at e1 e2
  by_cases h1 : b.toInt = 5
  · rw [if_pos h1] at e1 e2
    rw [← (v_so e1).1, ← (v_so e2).1, hl 151 42 (by decide)]
    exact h.1.1.1.1.2
  rw [if_neg h1] at e1 e2
  rw [← (v_so e1).1, ← (v_so e2).1, hl 151 44 (by decide)]
  exact h.2.2.1
theorem j8_count {s : vS} (h : v_I8 s) (b : Int32) (hj : v_T (f_Ol_count b s) (fun _ s1 => v_T (f_Md_count b s1) (fun _ s2 => v_I8 s2))) (hc : v_T (f_Ol_count b s) (fun _ t => v_lo s t)) : v_T (f_Ol_count b s) (fun r1 s1 => v_T (f_Md_count b s1) (fun r2 s2 => v_I8 s2 ∧ r1 = r2)) := by
  obtain ⟨r1, s1, e1, h1, h2⟩ := v_Tand hj hc
  obtain ⟨r2, s2, e2, h3⟩ := h1
  exact ⟨r1, s1, e1, r2, s2, e2, h3, jr_count h h2 (v_RI_lo h.1.1.1.1.1.2 h2) b r1 s1 r2 s2 e1 e2⟩
