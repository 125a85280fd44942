/-! the elements: what shift makes of them, both sides -/
def e_f (b c d e f z1 z2 : Int32) : Prop := (0 ≤ b.toInt ∧ b.toInt ≤ 5) ∧ (0 ≤ d.toInt ∧ d.toInt ≤ 5) ∧ (0 ≤ c.toInt ∧ 0 ≤ f.toInt ∧ c.toInt + f.toInt ≤ z1.toInt) ∧ (0 ≤ e.toInt ∧ 0 ≤ f.toInt ∧ e.toInt + f.toInt ≤ z2.toInt)
theorem x_Ol_shift (b c d e f : Int32) (s : vS) (hk : v_KQ s) : v_P (f_Ol_shift b c d e f s) (fun r t => (r.toInt < 0 ∧ t = s) ∨ (0 ≤ r.toInt ∧ (e_f b c d e f (s.1 (139 + 2 * b.toNatClampNeg) 2) (s.1 (139 + 2 * d.toNatClampNeg) 2) ∧ 0 ≤ (s.1 (139 + 2 * b.toNatClampNeg) 0).toInt ∧ (s.1 (139 + 2 * b.toNatClampNeg) 0).toInt ≤ 4 ∧ (s.1 (139 + 2 * b.toNatClampNeg) 0).toInt = (s.1 (139 + 2 * d.toNatClampNeg) 0).toInt) ∧ t = v_cp2 s (139 + 2 * b.toNatClampNeg + 1) c.toNatClampNeg (139 + 2 * d.toNatClampNeg + 1) e.toNatClampNeg f.toNatClampNeg)) := by
  unfold f_Ol_shift
  rw [z_isShelf, v_bi_some, v_bif]
  refine v_Pif (fun h1 => ?_) (fun _ => v_Pret (Or.inl ⟨by decide, rfl⟩))
  rw [z_isShelf, v_bi_some, v_bif]
  refine v_Pif (fun h2 => ?_) (fun _ => v_Pret (Or.inl ⟨by decide, rfl⟩))
  have hKb : v_kd (139 + 2 * b.toNatClampNeg) = 6 := n_Ks (s := s) h1
  have hKd : v_kd (139 + 2 * d.toNatClampNeg) = 6 := n_Ks (s := s) h2
  have hsb := hk.2 _ hKb
  have hsd := hk.2 _ hKd
  rw [z_shelfAt b s h1, v_bi_some, if_pos hKb, z_shelfAt d s h2, v_bi_some, if_pos hKd, w_isBare, v_bi_some, v_bif]
  refine v_Pif (fun _ => v_Pret (Or.inl ⟨by decide, rfl⟩)) (fun _ => ?_)
  rw [w_isBare, v_bi_some, v_bif]
  refine v_Pif (fun _ => v_Pret (Or.inl ⟨by decide, rfl⟩)) (fun _ => ?_)
  rw [w_isRow, v_bi_some, v_bif]
  refine v_Pif (fun hrow => ?_) (fun _ => v_Pret (Or.inl ⟨by decide, rfl⟩))
  refine v_Pif (fun heq => ?_) (fun _ => v_Pret (Or.inl ⟨by decide, rfl⟩))
  rw [w_places _ c f s hsb, v_bi_some, v_bif]
  refine v_Pif (fun p1 => ?_) (fun _ => v_Pret (Or.inl ⟨by decide, rfl⟩))
  rw [w_places _ e f s hsd, v_bi_some, v_bif]
  refine v_Pif (fun p2 => ?_) (fun _ => v_Pret (Or.inl ⟨by decide, rfl⟩))
  unfold f_Sh_copyFrom
  rw [w_places _ c f s hsb, v_bi_some, v_bif, if_pos p1, w_places _ e f s hsd, v_bi_some, v_bif, if_pos p2]
  exact v_Pbi (P := fun _ u => u = v_cp2 s (139 + 2 * b.toNatClampNeg + 1) c.toNatClampNeg (139 + 2 * d.toNatClampNeg + 1) e.toNatClampNeg f.toNatClampNeg) (v_Pif (fun _ => v_Plet (v_Pret rfl)) (fun _ => v_Pnone)) (fun _ u hu => v_Pret (Or.inr ⟨p1.2.1, ⟨⟨h1, h2, p1, p2⟩, hrow.1, hrow.2, heq⟩, hu⟩))
theorem e_60 {b c : Int32} (hb : 0 ≤ b.toInt ∧ b.toInt ≤ 5) (hc : 0 ≤ c.toInt ∧ c.toInt ≤ 60) : ((60 : Int32) * b + c).toInt = ((60 * b.toNatClampNeg + c.toNatClampNeg : Nat) : Int) := by
  have e1 : ((60 : Int32) * b).toInt = 60 * b.toInt := i32_mul (x := 60) (show -2 ^ 31 ≤ (60 : Int) * b.toInt by omega) (show (60 : Int) * b.toInt < 2 ^ 31 by omega)
  rw [i32_add (by omega) (by omega), e1, v_nc, v_nc]
  omega
theorem x_Md_shift (b c d e f : Int32) (s : vS) (h : v_RI s) : v_P (f_Md_shift b c d e f s) (fun r t => (r.toInt < 0 ∧ t = s) ∨ (0 ≤ r.toInt ∧ t.1 = s.1 ∧ (∀ j, t.2 183 j = if 60 * d.toNatClampNeg + e.toNatClampNeg ≤ j ∧ (j : Int) < ((60 * d.toNatClampNeg + e.toNatClampNeg : Nat) : Int) + f.toInt then s.2 183 (60 * b.toNatClampNeg + c.toNatClampNeg + (j - (60 * d.toNatClampNeg + e.toNatClampNeg))) else s.2 183 j) ∧ ∀ a j, a ≠ 183 → a ≠ 184 → t.2 a j = s.2 a j)) := by
  unfold f_Md_shift
  rw [z_MisShelf, v_bi_some, v_bif]
  refine v_Pif (fun h1 => ?_) (fun _ => v_Pret (Or.inl ⟨by decide, rfl⟩))
  rw [z_MisShelf, v_bi_some, v_bif]
  refine v_Pif (fun h2 => ?_) (fun _ => v_Pret (Or.inl ⟨by decide, rfl⟩))
  have hsb := h.1.2.1 b.toNatClampNeg (by rw [v_nc]; omega)
  have hsd := h.1.2.1 d.toNatClampNeg (by rw [v_nc]; omega)
  refine v_Pif (fun _ => ?_) (fun _ => v_Pnone)
  refine v_Pif (fun _ => v_Pret (Or.inl ⟨by decide, rfl⟩)) (fun _ => ?_)
  refine v_Pif (fun _ => ?_) (fun _ => v_Pnone)
  refine v_Pif (fun _ => v_Pret (Or.inl ⟨by decide, rfl⟩)) (fun _ => ?_)
  refine v_Pif (fun _ => ?_) (fun _ => v_Pnone)
  refine v_Pif (fun _ => v_Pret (Or.inl ⟨by decide, rfl⟩)) (fun _ => ?_)
  refine v_Pif (fun _ => ?_) (fun _ => v_Pnone)
  refine v_Pif (fun _ => ?_) (fun _ => v_Pnone)
  refine v_Pif (fun _ => ?_) (fun _ => v_Pret (Or.inl ⟨by decide, rfl⟩))
  refine v_Pif (fun _ => v_Pret (Or.inl ⟨by decide, rfl⟩)) (fun f0 => ?_)
  refine v_Pif (fun _ => v_Pret (Or.inl ⟨by decide, rfl⟩)) (fun c0 => ?_)
  refine v_Pif (fun _ => v_Pret (Or.inl ⟨by decide, rfl⟩)) (fun e0 => ?_)
  refine v_Pif (fun _ => ?_) (fun _ => v_Pnone)
  refine v_Pif (fun _ => v_Pret (Or.inl ⟨by decide, rfl⟩)) (fun q1 => ?_)
  refine v_Pif (fun _ => ?_) (fun _ => v_Pnone)
  refine v_Pif (fun q2 => ?_) (fun _ => v_Pret (Or.inl ⟨by decide, rfl⟩))
  have hf9 := Int32.toInt_lt f
  have ea : ((s.1 182 b.toNatClampNeg) - f).toInt = (s.1 182 b.toNatClampNeg).toInt - f.toInt := v_sub (by omega) (by omega)
  have eb : ((s.1 182 d.toNatClampNeg) - f).toInt = (s.1 182 d.toNatClampNeg).toInt - f.toInt := v_sub (by omega) (by omega)
  have hX := e_60 (b := b) (c := c) h1 ⟨by omega, by omega⟩
  have hY := e_60 (b := d) (c := e) h2 ⟨by omega, by omega⟩
  have hXb : 60 * b.toNatClampNeg + c.toNatClampNeg ≤ 360 := by rw [v_nc, v_nc]; omega
  have hYb : 60 * d.toNatClampNeg + e.toNatClampNeg ≤ 360 := by rw [v_nc, v_nc]; omega
  generalize 60 * b.toNatClampNeg + c.toNatClampNeg = X at hX hXb ⊢
  generalize 60 * d.toNatClampNeg + e.toNatClampNeg = Y at hY hYb ⊢
  refine x_L113 (s0 := s) hX hXb (fun t ht1 ht2 ht3 => ?_) 4096 0 s (by decide) rfl (fun i hi => absurd hi (by show ¬ (i : Int) < 0; omega)) (fun _ _ _ => rfl)
  refine x_L150 (s1 := t) hY hYb (fun u hu1 hu2 hu3 => v_Pret (Or.inr ⟨by omega, hu1.trans ht1, fun j => ?_, fun a j ha1 ha2 => (hu3 a j ha1).trans (ht3 a j ha2)⟩)) 4096 0 t (by decide) (Or.inr rfl) rfl (fun j => ?_) (fun _ _ _ => rfl)
  · rw [if_neg (fun z => by have z2 : (j : Int) < (Y : Int) + 0 := z.2; omega)]
  · rw [hu2 j]
    by_cases hz : Y ≤ j ∧ (j : Int) < Y + f.toInt
    · rw [if_pos hz, if_pos hz, ht2 _ (by omega)]
    · rw [if_neg hz, if_neg hz, ht3 183 j (by decide)]
