/-! feed, moved, mend, undo, redo, both sides together -/
theorem jz_isDate (b : Int32) (s : vS) : f_Ol_isDate b s = some (v_b (0 ≤ b.toInt ∧ b.toInt ≤ 99), s) := by
  unfold f_Ol_isDate
  by_cases h1 : b.toInt < 0
  · rw [if_pos h1, v_b_neg (by omega)]
  · rw [if_neg h1]
    by_cases h2 : 99 < b.toInt
    · rw [if_pos h2, v_b_neg (by omega)]
    · rw [if_neg h2, v_b_pos (by omega)]
theorem jz_isSaying (b : Int32) (s : vS) : f_Ol_isSaying b s = some (v_b (0 ≤ b.toInt ∧ b.toInt ≤ 2), s) := by
  unfold f_Ol_isSaying
  by_cases h1 : b.toInt < 0
  · rw [if_pos h1, v_b_neg (by omega)]
  · rw [if_neg h1]
    by_cases h2 : 2 < b.toInt
    · rw [if_pos h2, v_b_neg (by omega)]
    · rw [if_neg h2, v_b_pos (by omega)]
theorem jz_isStruck (b : Int32) (s : vS) : f_Ol_isStruck b s = some (v_b (-1 ≤ b.toInt ∧ b.toInt ≤ 9), s) := by
  unfold f_Ol_isStruck
  by_cases h1 : b.toInt < -1
  · rw [if_pos h1, v_b_neg (by omega)]
  · rw [if_neg h1]
    by_cases h2 : 10 ≤ b.toInt
    · rw [if_pos h2, v_b_neg (by omega)]
    · rw [if_neg h2, v_b_pos (by omega)]
theorem jz_isWord (b : Int32) (s : vS) : f_Ol_isWord b s = some (v_b (0 ≤ b.toInt ∧ b.toInt ≤ 2), s) := by
  unfold f_Ol_isWord
  by_cases h1 : b.toInt < 0
  · rw [if_pos h1, v_b_neg (by omega)]
  · rw [if_neg h1]
    by_cases h2 : 3 ≤ b.toInt
    · rw [if_pos h2, v_b_neg (by omega)]
    · rw [if_neg h2, v_b_pos (by omega)]
theorem jz_isRule (b : Int32) (s : vS) : f_Ol_isRule b s = some (v_b (0 ≤ b.toInt ∧ b.toInt ≤ 3), s) := by
  unfold f_Ol_isRule
  by_cases h1 : b.toInt < 0
  · rw [if_pos h1, v_b_neg (by omega)]
  · rw [if_neg h1]
    by_cases h2 : 4 ≤ b.toInt
    · rw [if_pos h2, v_b_neg (by omega)]
    · rw [if_neg h2, v_b_pos (by omega)]
theorem jz_knows (b : Int32) (s : vS) : f_Ct_knows b s = some (v_b (0 ≤ b.toInt ∧ b.toInt < (s.1 8 1).toInt), s) := by
  unfold f_Ct_knows
  by_cases h1 : b.toInt < 0
  · rw [if_pos h1, v_b_neg (by omega)]
  · rw [if_neg h1]
    by_cases h2 : (s.1 8 1).toInt ≤ b.toInt
    · rw [if_pos h2, v_b_neg (by omega)]
    · rw [if_neg h2, v_b_pos (by omega)]
theorem jz_isLaw (b : Int32) (s : vS) (h : 0 ≤ (s.1 151 14).toInt) : f_Md_isLaw b s = some (v_b (0 ≤ b.toInt ∧ b.toInt < (s.1 151 14).toInt), s) := by
  have hx := Int32.toInt_lt (s.1 151 14)
  have e : ((s.1 151 14) - (1 : Int32)).toInt = (s.1 151 14).toInt - 1 := v_sub (show -2147483648 ≤ (s.1 151 14).toInt - 1 by omega) (show (s.1 151 14).toInt - 1 < 2147483648 by omega)
  unfold f_Md_isLaw
  rw [z_in, v_bi_some, if_pos v_b01, e]
  by_cases h1 : 0 ≤ b.toInt ∧ b.toInt < (s.1 151 14).toInt
  · rw [v_b_pos h1, v_b_pos (show (0 : Int32).toInt ≤ b.toInt ∧ b.toInt ≤ (s.1 151 14).toInt - 1 from ⟨h1.1, by omega⟩)]
  · rw [v_b_neg h1, v_b_neg (fun z => h1 ⟨z.1, by omega⟩)]
theorem jz_at (b : Int32) (s : vS) (h : 0 ≤ b.toInt ∧ b.toInt ≤ 9) : f_Ct_at b s = some (23 + 5 * b.toNatClampNeg, s) := by
  unfold f_Ct_at
  have hv : v_in b 10 := ⟨h.1, by omega⟩
  rw [if_neg (by omega), if_neg (by omega), if_pos hv, if_pos hv]
set_option maxRecDepth 100000 in
theorem jz_kd4 : ∀ k, k < 10 → v_kd (23 + 5 * k) = 4 := by decide +kernel
/-- a change laid, either side -/
def j_setC (b c d : Int32) (s : vS) : vS := if c.toInt = 0 then v_w1 s (23 + 5 * b.toNatClampNeg) 1 d else if c.toInt = 1 then v_w1 s (23 + 5 * b.toNatClampNeg) 2 d else if c.toInt = 2 then v_w1 s (23 + 5 * b.toNatClampNeg) 3 d else if c.toInt = 3 then v_w1 s 8 2 d else v_w1 s 8 3 d
def j_setM (b c d : Int32) (t : vS) : vS := if c.toInt = 0 then v_w1 t 160 b.toNatClampNeg d else if c.toInt = 1 then v_w1 t 161 b.toNatClampNeg d else if c.toInt = 2 then v_w1 t 162 b.toNatClampNeg d else if c.toInt = 3 then v_w1 t 151 18 d else v_w1 t 151 19 d
theorem y_set (b c d : Int32) (s : vS) (hb : 0 ≤ b.toInt ∧ b.toInt ≤ 9) (hc : 0 ≤ c.toInt ∧ c.toInt ≤ 4) : v_P (f_Ct_set b c d s) (fun _ t => t = j_setC b c d s) := by
  unfold f_Ct_set j_setC
  rw [jz_at b s hb, v_bi_some]
  refine v_Pif (fun _ => ?_) (fun _ => v_Pnone)
  by_cases h4 : c.toInt = 4
  · rw [if_pos (Or.inr (by omega)), if_neg (by omega), if_neg (by omega), if_neg (by omega), if_neg (by omega)]
    exact v_Plet (v_Pret rfl)
  · rw [if_neg (by omega)]
    by_cases h0 : c.toInt = 0
    · rw [if_pos h0, if_pos h0]
      exact v_Plet (v_Pret rfl)
    · rw [if_neg h0, if_neg h0]
      by_cases h1 : c.toInt = 1
      · rw [if_pos h1, if_pos h1]
        exact v_Plet (v_Pret rfl)
      · rw [if_neg h1, if_neg h1]
        by_cases h2 : c.toInt = 2
        · rw [if_pos h2, if_pos h2]
          exact v_Plet (v_Pret rfl)
        · rw [if_neg h2, if_neg h2, if_pos (show c.toInt = 3 by omega)]
          exact v_Plet (v_Pret rfl)
theorem y_lays (b c d : Int32) (t : vS) : v_P (f_Md_lays c b d t) (fun _ u => u = j_setM b c d t) := by
  unfold f_Md_lays j_setM
  by_cases h0 : c.toInt = 0
  · rw [if_pos h0, if_pos h0]
    exact v_Pif (fun _ => v_Plet (v_Pret rfl)) (fun _ => v_Pnone)
  · rw [if_neg h0, if_neg h0]
    by_cases h1 : c.toInt = 1
    · rw [if_pos h1, if_pos h1]
      exact v_Pif (fun _ => v_Plet (v_Pret rfl)) (fun _ => v_Pnone)
    · rw [if_neg h1, if_neg h1]
      by_cases h2 : c.toInt = 2
      · rw [if_pos h2, if_pos h2]
        exact v_Pif (fun _ => v_Plet (v_Pret rfl)) (fun _ => v_Pnone)
      · rw [if_neg h2, if_neg h2]
        by_cases h3 : c.toInt = 3
        · rw [if_pos h3, if_pos h3]
          exact v_Plet (v_Pret rfl)
        · rw [if_neg h3, if_neg h3]
          exact v_Plet (v_Pret rfl)
theorem j_E_setC {P : Nat → Nat → Prop} (b c d : Int32) (s : vS) (hb : b.toInt ≤ 9) (hP : ∀ a j, P a j → ¬ ((23 ≤ a ∧ a ≤ 68 ∧ a % 5 = 3 ∧ 1 ≤ j ∧ j ≤ 3) ∨ (a = 8 ∧ 2 ≤ j ∧ j ≤ 3))) : j_E P s (j_setC b c d s) := by
  have hn : b.toNatClampNeg ≤ 9 := by rw [v_nc]; omega
  unfold j_setC
  by_cases h0 : c.toInt = 0
  · rw [if_pos h0]; exact j_E_w1 j_E_rf (fun q => hP _ _ q (by omega))
  · rw [if_neg h0]
    by_cases h1 : c.toInt = 1
    · rw [if_pos h1]; exact j_E_w1 j_E_rf (fun q => hP _ _ q (by omega))
    · rw [if_neg h1]
      by_cases h2 : c.toInt = 2
      · rw [if_pos h2]; exact j_E_w1 j_E_rf (fun q => hP _ _ q (by omega))
      · rw [if_neg h2]
        by_cases h3 : c.toInt = 3
        · rw [if_pos h3]; exact j_E_w1 j_E_rf (fun q => hP _ _ q (by omega))
        · rw [if_neg h3]; exact j_E_w1 j_E_rf (fun q => hP _ _ q (by omega))
theorem j_E_setM {P : Nat → Nat → Prop} (b c d : Int32) (t : vS) (hP : ∀ a j, P a j → ¬ ((160 ≤ a ∧ a ≤ 162) ∨ (a = 151 ∧ 18 ≤ j ∧ j ≤ 19))) : j_E P t (j_setM b c d t) := by
  unfold j_setM
  by_cases h0 : c.toInt = 0
  · rw [if_pos h0]; exact j_E_w1 j_E_rf (fun q => hP _ _ q (by omega))
  · rw [if_neg h0]
    by_cases h1 : c.toInt = 1
    · rw [if_pos h1]; exact j_E_w1 j_E_rf (fun q => hP _ _ q (by omega))
    · rw [if_neg h1]
      by_cases h2 : c.toInt = 2
      · rw [if_pos h2]; exact j_E_w1 j_E_rf (fun q => hP _ _ q (by omega))
      · rw [if_neg h2]
        by_cases h3 : c.toInt = 3
        · rw [if_pos h3]; exact j_E_w1 j_E_rf (fun q => hP _ _ q (by omega))
        · rw [if_neg h3]; exact j_E_w1 j_E_rf (fun q => hP _ _ q (by omega))
/-- a write to the law n's field i on one side, to place n of the row 159 + i on the other -/
theorem j_law_w {s t : vS} (h : j_law s t) (n i : Nat) (d : Int32) (hi : i = 1 ∨ i = 2 ∨ i = 3) : j_law (v_w1 s (23 + 5 * n) i d) (v_w1 t (159 + i) n d) := fun k hk hk9 => by
  rw [v_w1_1, if_neg (by omega)] at hk
  obtain ⟨a1, a2, a3⟩ := h k hk hk9
  simp only [v_w1_1]
  by_cases hz : k = n
  · subst hz
    rcases hi with rfl | rfl | rfl
    · exact ⟨by rw [if_pos ⟨rfl, rfl⟩, if_pos ⟨rfl, rfl⟩], by rw [if_neg (by omega), if_neg (by omega)]; exact a2, by rw [if_neg (by omega), if_neg (by omega)]; exact a3⟩
    · exact ⟨by rw [if_neg (by omega), if_neg (by omega)]; exact a1, by rw [if_pos ⟨rfl, rfl⟩, if_pos ⟨rfl, rfl⟩], by rw [if_neg (by omega), if_neg (by omega)]; exact a3⟩
    · exact ⟨by rw [if_neg (by omega), if_neg (by omega)]; exact a1, by rw [if_neg (by omega), if_neg (by omega)]; exact a2, by rw [if_pos ⟨rfl, rfl⟩, if_pos ⟨rfl, rfl⟩]⟩
  · exact ⟨by rw [if_neg (by omega), if_neg (by omega)]; exact a1, by rw [if_neg (by omega), if_neg (by omega)]; exact a2, by rw [if_neg (by omega), if_neg (by omega)]; exact a3⟩
theorem j_set {s t : vS} (h : j_law s t ∧ j_rt s t) (b c d : Int32) : j_law (j_setC b c d s) (j_setM b c d t) ∧ j_rt (j_setC b c d s) (j_setM b c d t) := by
  obtain ⟨h1, h2⟩ := h
  unfold j_setC j_setM
  by_cases h0 : c.toInt = 0
  · rw [if_pos h0, if_pos h0]
    exact ⟨j_law_w h1 _ 1 d (Or.inl rfl), j_rtE h2 (j_E_w1 j_E_rf (fun q => by unfold jb_rt at q; omega)) (j_E_w1 j_E_rf (fun q => by unfold jb_rt at q; omega))⟩
  · rw [if_neg h0, if_neg h0]
    by_cases h3 : c.toInt = 1
    · rw [if_pos h3, if_pos h3]
      exact ⟨j_law_w h1 _ 2 d (Or.inr (Or.inl rfl)), j_rtE h2 (j_E_w1 j_E_rf (fun q => by unfold jb_rt at q; omega)) (j_E_w1 j_E_rf (fun q => by unfold jb_rt at q; omega))⟩
    · rw [if_neg h3, if_neg h3]
      by_cases h4 : c.toInt = 2
      · rw [if_pos h4, if_pos h4]
        exact ⟨j_law_w h1 _ 3 d (Or.inr (Or.inr rfl)), j_rtE h2 (j_E_w1 j_E_rf (fun q => by unfold jb_rt at q; omega)) (j_E_w1 j_E_rf (fun q => by unfold jb_rt at q; omega))⟩
      · rw [if_neg h4, if_neg h4]
        by_cases h5 : c.toInt = 3
        · rw [if_pos h5, if_pos h5]
          refine ⟨j_lawE h1 (j_E_w1 j_E_rf (fun q => by unfold jb_law at q; omega)) (j_E_w1 j_E_rf (fun q => by unfold jb_law at q; omega)), ?_⟩
          unfold j_rt at h2 ⊢
          exact ⟨by rw [v_w1_1, if_pos ⟨rfl, rfl⟩, v_w1_1, if_pos ⟨rfl, rfl⟩], by rw [v_w1_1, if_neg (by omega), v_w1_1, if_neg (by omega)]; exact h2.2⟩
        · rw [if_neg h5, if_neg h5]
          refine ⟨j_lawE h1 (j_E_w1 j_E_rf (fun q => by unfold jb_law at q; omega)) (j_E_w1 j_E_rf (fun q => by unfold jb_law at q; omega)), ?_⟩
          unfold j_rt at h2 ⊢
          exact ⟨by rw [v_w1_1, if_neg (by omega), v_w1_1, if_neg (by omega)]; exact h2.1, by rw [v_w1_1, if_pos ⟨rfl, rfl⟩, v_w1_1, if_pos ⟨rfl, rfl⟩]⟩
theorem j_ran_set {s : vS} (h : j_ran s) {b c d : Int32} (hb : 0 ≤ b.toInt ∧ b.toInt ≤ 9) (hc : 0 ≤ c.toInt ∧ c.toInt ≤ 4) (hd : j_ok c.toInt d) : j_ran (j_setC b c d s) := by
  have hlaw : ∀ i : Nat, 1 ≤ i → i ≤ 3 → j_ok ((i : Int) - 1) d → j_ran (v_w1 s (23 + 5 * b.toNatClampNeg) i d) := fun i i1 i3 ho => by
    have hn : b.toNatClampNeg ≤ 9 := by rw [v_nc]; omega
    generalize b.toNatClampNeg = n at hn ⊢
    have e1 : ∀ a j, ¬ (a = 23 + 5 * n ∧ j = i) → (v_w1 s (23 + 5 * n) i d).1 a j = s.1 a j := fun a j q => v_w1_1.trans (if_neg q)
    refine ⟨fun k hk hk9 => ?_, ?_, fun k hk hk9 => ?_, fun j hj => ?_⟩
    · rw [e1 8 1 (by omega)] at hk
      obtain ⟨a1, a2, a3⟩ := h.1 k hk hk9
      by_cases hz : k = n
      · subst hz
        have e2 : (v_w1 s (23 + 5 * k) i d).1 (23 + 5 * k) i = d := v_w1_1.trans (if_pos ⟨rfl, rfl⟩)
        rcases (show i = 1 ∨ i = 2 ∨ i = 3 by omega) with rfl | rfl | rfl
        · exact ⟨by rw [e2]; exact ho, by rw [e1 _ _ (by omega)]; exact a2, by rw [e1 _ _ (by omega)]; exact a3⟩
        · exact ⟨by rw [e1 _ _ (by omega)]; exact a1, by rw [e2]; exact ho, by rw [e1 _ _ (by omega)]; exact a3⟩
        · exact ⟨by rw [e1 _ _ (by omega)]; exact a1, by rw [e1 _ _ (by omega)]; exact a2, by rw [e2]; exact ho⟩
      · rw [e1 _ _ (by omega), e1 _ _ (by omega), e1 _ _ (by omega)]
        exact ⟨a1, a2, a3⟩
    · rw [e1 8 2 (by omega), e1 8 3 (by omega)]
      exact h.2.1
    · rw [e1 0 11 (by omega)] at hk
      rw [e1 _ _ (by omega), e1 _ _ (by omega), e1 _ _ (by omega)]
      exact h.2.2.1 k hk hk9
    · rw [e1 73 1 (by omega)] at hj
      rw [e1 75 _ (by omega), e1 76 _ (by omega), e1 77 _ (by omega)]
      exact h.2.2.2 j hj
  unfold j_setC
  by_cases h0 : c.toInt = 0
  · rw [if_pos h0]; rw [h0] at hd; exact hlaw 1 (by decide) (by decide) hd
  · rw [if_neg h0]
    by_cases h1 : c.toInt = 1
    · rw [if_pos h1]; rw [h1] at hd; exact hlaw 2 (by decide) (by decide) hd
    · rw [if_neg h1]
      by_cases h2 : c.toInt = 2
      · rw [if_pos h2]; rw [h2] at hd; exact hlaw 3 (by decide) (by decide) hd
      · rw [if_neg h2]
        have hE : ∀ i, i = 2 ∨ i = 3 → j_E (fun a j => ¬ (a = 8 ∧ j = i)) s (v_w1 s 8 i d) := fun i _ => j_E_w1 j_E_rf (fun q => q ⟨rfl, rfl⟩)
        have hgo : ∀ i, i = 2 ∨ i = 3 → (j_ok 3 ((v_w1 s 8 i d).1 8 2) ∧ j_ok 4 ((v_w1 s 8 i d).1 8 3)) → j_ran (v_w1 s 8 i d) := fun i hi ho => by
          have e := hE i hi
          refine ⟨fun k hk hk9 => ?_, ho, fun k hk hk9 => ?_, fun j hj => ?_⟩
          · rw [e 8 1 (by omega)] at hk
            rw [e _ _ (by omega), e _ _ (by omega), e _ _ (by omega)]
            exact h.1 k hk hk9
          · rw [e 0 11 (by omega)] at hk
            rw [e _ _ (by omega), e _ _ (by omega), e _ _ (by omega)]
            exact h.2.2.1 k hk hk9
          · rw [e 73 1 (by omega)] at hj
            rw [e 75 _ (by omega), e 76 _ (by omega), e 77 _ (by omega)]
            exact h.2.2.2 j hj
        by_cases h3 : c.toInt = 3
        · rw [if_pos h3]
          rw [h3] at hd
          exact hgo 2 (Or.inl rfl) ⟨by rw [v_w1_1, if_pos ⟨rfl, rfl⟩]; exact hd, by rw [v_w1_1, if_neg (by omega)]; exact h.2.1.2⟩
        · rw [if_neg h3]
          refine hgo 3 (Or.inr rfl) ⟨by rw [v_w1_1, if_neg (by omega)]; exact h.2.1.1, ?_⟩
          rw [v_w1_1, if_pos ⟨rfl, rfl⟩]
          rw [show c.toInt = 4 by omega] at hd
          exact hd
/-! feed -/
theorem j_byte0 : (List.range 256).all (fun j => decide (g_ab (vp_nar .byte (Int8.toInt32 (Int32.toInt8 (Int32.ofNat j)))) = g_ab (Int32.ofNat j)) && decide (vp_nar .byte (vp_nar .byte (Int8.toInt32 (Int32.toInt8 (Int32.ofNat j)))) = vp_nar .byte (Int8.toInt32 (Int32.toInt8 (Int32.ofNat j))))) = true := by decide +kernel
theorem j_byte {b : Int32} (h : 0 ≤ b.toInt ∧ b.toInt ≤ 255) : g_ab (vp_nar .byte (Int8.toInt32 (Int32.toInt8 b))) = g_ab b ∧ vp_nar .byte (vp_nar .byte (Int8.toInt32 (Int32.toInt8 b))) = vp_nar .byte (Int8.toInt32 (Int32.toInt8 b)) := by
  have h1 := List.all_eq_true.mp j_byte0 b.toInt.toNat (List.mem_range.mpr (by omega))
  rw [Bool.and_eq_true, decide_eq_true_eq, decide_eq_true_eq, ← v_of h.1] at h1
  exact h1
def j_fd (b n : Int32) : Int32 := if 0 ≤ b.toInt ∧ b.toInt ≤ 255 then (if n.toInt = 60 then -3 else n + 1) else -1
theorem y_Ol_feed (b : Int32) (s : vS) (h : 0 ≤ (s.1 0 1).toInt ∧ (s.1 0 1).toInt ≤ 60) : v_P (f_Ol_feed b s) (fun r t => r = j_fd b (s.1 0 1) ∧ t = if 0 ≤ b.toInt ∧ b.toInt ≤ 255 ∧ ¬ (s.1 0 1).toInt = 60 then v_w1 (v_w1 s 1 (s.1 0 1).toNatClampNeg b) 0 1 (s.1 0 1 + 1) else s) := by
  unfold f_Ol_feed j_fd
  by_cases h1 : b.toInt < 0
  · rw [if_pos h1, if_neg (by omega), if_neg (by omega)]
    exact v_Pret ⟨rfl, rfl⟩
  · rw [if_neg h1]
    by_cases h2 : b.toInt ≤ 255
    · rw [if_pos h2, if_neg (show ¬ (s.1 0 1).toInt < 0 by omega), if_pos (show 0 ≤ b.toInt ∧ b.toInt ≤ 255 by omega)]
      by_cases h3 : (s.1 0 1).toInt = 60
      · rw [if_neg (show ¬ (s.1 0 1).toInt < 60 by omega), if_pos h3, if_neg (by omega)]
        exact v_Pret ⟨rfl, rfl⟩
      · rw [if_pos (show (s.1 0 1).toInt < 60 by omega), if_neg h3, if_pos (show 0 ≤ b.toInt ∧ b.toInt ≤ 255 ∧ ¬ (s.1 0 1).toInt = 60 by omega)]
        refine v_Pif (fun _ => v_Plet (v_Plet (v_Pret ⟨?_, ?_⟩))) (fun _ => v_Pnone)
        · rw [v_w1_1, if_pos ⟨rfl, rfl⟩, v_w1_1, if_neg (by omega)]
        · rw [show (v_w1 s 1 (s.1 0 1).toNatClampNeg b).1 0 1 = s.1 0 1 from v_w1_1.trans (if_neg (by omega))]
    · rw [if_neg h2, if_neg (by omega), if_neg (by omega)]
      exact v_Pret ⟨rfl, rfl⟩
theorem y_Md_feed (b : Int32) (s : vS) : v_P (f_Md_feed b s) (fun r t => r = j_fd b (s.1 151 2) ∧ t = if 0 ≤ b.toInt ∧ b.toInt ≤ 255 ∧ ¬ (s.1 151 2).toInt = 60 then v_w1 (v_w1 s 152 (s.1 151 2).toNatClampNeg (vp_nar .byte (Int8.toInt32 (Int32.toInt8 b)))) 151 2 (s.1 151 2 + 1) else s) := by
  unfold f_Md_feed j_fd
  rw [z_in, v_bi_some, v_bif]
  by_cases h1 : 0 ≤ b.toInt ∧ b.toInt ≤ 255
  · rw [if_pos (show (0 : Int32).toInt ≤ b.toInt ∧ b.toInt ≤ (255 : Int32).toInt from h1), if_pos h1]
    by_cases h3 : (s.1 151 2).toInt = 60
    · rw [if_pos h3, if_pos h3, if_neg (by omega)]
      exact v_Pret ⟨rfl, rfl⟩
    · rw [if_neg h3, if_neg h3, if_pos (show 0 ≤ b.toInt ∧ b.toInt ≤ 255 ∧ ¬ (s.1 151 2).toInt = 60 from ⟨h1.1, h1.2, h3⟩)]
      refine v_Pif (fun _ => v_Plet (v_Plet (v_Pret ⟨?_, ?_⟩))) (fun _ => v_Pnone)
      · rw [v_w1_1, if_pos ⟨rfl, rfl⟩, v_w1_1, if_neg (by omega)]
      · rw [show (v_w1 s 152 (s.1 151 2).toNatClampNeg (vp_nar .byte (Int8.toInt32 (Int32.toInt8 b)))).1 151 2 = s.1 151 2 from v_w1_1.trans (if_neg (by omega))]
  · rw [if_neg (show ¬ ((0 : Int32).toInt ≤ b.toInt ∧ b.toInt ≤ (255 : Int32).toInt) from h1), if_neg h1, if_neg (fun z => h1 ⟨z.1, z.2.1⟩)]
    exact v_Pret ⟨rfl, rfl⟩
def jp_feed (a j : Nat) : Prop := (a = 0 ∧ j = 1) ∨ a = 1 ∨ (a = 151 ∧ j = 2) ∨ a = 152
theorem j_feed {s t : vS} (h : j_R s t) (hR : v_RI t) (b : Int32) : j_S (f_Ol_feed b s) (f_Md_feed b t) := by
  have h2 := hR.2.1
  have hx := h.2.1
  have e := hx.1
  refine j_SP (y_Ol_feed b s (by rw [e]; exact h2)) (y_Md_feed b t) ?_
  rintro r1 s1 r2 t1 ⟨rfl, rfl⟩ ⟨rfl, rfl⟩
  rw [e]
  refine ⟨?_, rfl⟩
  by_cases hc : 0 ≤ b.toInt ∧ b.toInt ≤ 255 ∧ ¬ (t.1 151 2).toInt = 60
  · rw [if_pos hc, if_pos hc]
    have e1 : (t.1 151 2 + 1).toInt = (t.1 151 2).toInt + 1 := v_inc (by omega)
    have hn : j_tape (v_w1 (v_w1 s 1 (t.1 151 2).toNatClampNeg b) 0 1 (t.1 151 2 + 1)) (v_w1 (v_w1 t 152 (t.1 151 2).toNatClampNeg (vp_nar .byte (Int8.toInt32 (Int32.toInt8 b)))) 151 2 (t.1 151 2 + 1)) := by
      refine ⟨by rw [v_w1_1, if_pos ⟨rfl, rfl⟩, v_w1_1, if_pos ⟨rfl, rfl⟩], fun j hj => ?_⟩
      rw [v_w1_1, if_pos ⟨rfl, rfl⟩, e1] at hj
      have eA : ∀ x : Int32, (v_w1 (v_w1 s 1 (t.1 151 2).toNatClampNeg b) 0 1 x).1 1 j = if (1 : Nat) = 1 ∧ j = (t.1 151 2).toNatClampNeg then b else s.1 1 j := fun x => by rw [v_w1_1, if_neg (by omega), v_w1_1]
      have eB : ∀ x y : Int32, (v_w1 (v_w1 t 152 (t.1 151 2).toNatClampNeg y) 151 2 x).1 152 j = if (152 : Nat) = 152 ∧ j = (t.1 151 2).toNatClampNeg then y else t.1 152 j := fun x y => by rw [v_w1_1, if_neg (by omega), v_w1_1]
      rw [eA, eB]
      by_cases hz : j = (t.1 151 2).toNatClampNeg
      · rw [if_pos ⟨rfl, hz⟩, if_pos ⟨rfl, hz⟩]
        exact ⟨(j_byte ⟨hc.1, hc.2.1⟩).1.symm, (j_byte ⟨hc.1, hc.2.1⟩).2⟩
      · rw [if_neg (fun q => hz q.2), if_neg (fun q => hz q.2)]
        exact hx.2 j (by rw [v_nc] at hz; rw [e]; omega)
    exact j_mix jp_feed h (j_E_w1 (j_E_w1 j_E_rf (fun q => q (by unfold jp_feed; omega))) (fun q => q (by unfold jp_feed; omega))) (j_E_w1 (j_E_w1 j_E_rf (fun q => q (by unfold jp_feed; omega))) (fun q => q (by unfold jp_feed; omega))) (Or.inl (fun a j q z => by unfold jb_many at q; unfold jp_feed at z; omega)) (Or.inr hn) (Or.inl (fun a j q z => by unfold jb_num at q; unfold jp_feed at z; omega)) (Or.inl (fun a j q z => by unfold jb_law at q; unfold jp_feed at z; omega)) (Or.inl (fun a j q z => by unfold jb_rt at q; unfold jp_feed at z; omega)) (Or.inl (fun a j q z => by unfold jb_textC jb_textM at q; unfold jp_feed at z; omega)) (Or.inl (fun a j q z => by unfold jb_word at q; unfold jp_feed at z; omega)) (Or.inl (fun a j q z => by unfold jb_img at q; unfold jp_feed at z; omega)) (Or.inl (fun a j q z => by unfold jb_chg at q; unfold jp_feed at z; omega)) (Or.inl (fun a j q z => by unfold jb_ran at q; unfold jp_feed at z; omega))
  · rw [if_neg hc, if_neg hc]
    exact h
/-! moved -/
def jp_word (a _ : Nat) : Prop := a = 10 ∨ a = 11 ∨ a = 163 ∨ a = 164
theorem y_move (b c d : Int32) (s : vS) (hb : 0 ≤ b.toInt ∧ b.toInt ≤ 2) : v_P (f_Ws_move b c d s) (fun _ t => t = v_w1 (v_w1 s 10 b.toNatClampNeg c) 11 b.toNatClampNeg d) := by
  unfold f_Ws_move
  rw [if_neg (by omega), if_neg (by omega)]
  exact v_Pif (fun _ => v_Plet (v_Pif (fun _ => v_Plet (v_Pret rfl)) (fun _ => v_Pnone))) (fun _ => v_Pnone)
def j_mv (b c d : Int32) : Int32 := if 0 ≤ b.toInt ∧ b.toInt ≤ 2 then (if c.toInt = -1 then 1 else if 0 ≤ c.toInt ∧ c.toInt ≤ 2 then (if c.toInt = b.toInt then -1 else if 0 ≤ d.toInt ∧ d.toInt ≤ 99 then 1 else -1) else -1) else -1
def j_mvC (b c d : Int32) (s : vS) : vS := if 0 ≤ b.toInt ∧ b.toInt ≤ 2 then (if c.toInt = -1 then v_w1 (v_w1 s 10 b.toNatClampNeg (-1)) 11 b.toNatClampNeg 0 else if 0 ≤ c.toInt ∧ c.toInt ≤ 2 then (if c.toInt = b.toInt then s else if 0 ≤ d.toInt ∧ d.toInt ≤ 99 then v_w1 (v_w1 s 10 b.toNatClampNeg c) 11 b.toNatClampNeg d else s) else s) else s
def j_mvM (b c d : Int32) (s : vS) : vS := if 0 ≤ b.toInt ∧ b.toInt ≤ 2 then (if c.toInt = -1 then v_w1 s 163 b.toNatClampNeg (-1) else if 0 ≤ c.toInt ∧ c.toInt ≤ 2 then (if c.toInt = b.toInt then s else if 0 ≤ d.toInt ∧ d.toInt ≤ 99 then v_w1 (v_w1 s 163 b.toNatClampNeg c) 164 b.toNatClampNeg d else s) else s) else s
theorem y_Ol_moved (b c d : Int32) (s : vS) : v_P (f_Ol_moved b c d s) (fun r t => r = j_mv b c d ∧ t = j_mvC b c d s) := by
  unfold f_Ol_moved j_mv j_mvC
  rw [jz_isWord, v_bi_some, v_bif]
  by_cases h1 : 0 ≤ b.toInt ∧ b.toInt ≤ 2
  · rw [if_pos h1, if_pos h1, if_pos h1]
    by_cases h2 : c.toInt = -1
    · rw [if_pos h2, if_pos h2, if_pos h2]
      exact v_Pbi (y_move b (-1) 0 s h1) (fun r t ht => v_Pret ⟨rfl, ht⟩)
    · rw [if_neg h2, if_neg h2, if_neg h2, jz_isWord, v_bi_some, v_bif]
      by_cases h3 : 0 ≤ c.toInt ∧ c.toInt ≤ 2
      · rw [if_pos h3, if_pos h3, if_pos h3]
        by_cases h4 : c.toInt = b.toInt
        · rw [if_pos h4, if_pos h4, if_pos h4]
          exact v_Pret ⟨rfl, rfl⟩
        · rw [if_neg h4, if_neg h4, if_neg h4, jz_isDate, v_bi_some, v_bif]
          by_cases h5 : 0 ≤ d.toInt ∧ d.toInt ≤ 99
          · rw [if_pos h5, if_pos h5, if_pos h5]
            exact v_Pbi (y_move b c d s h1) (fun r t ht => v_Pret ⟨rfl, ht⟩)
          · rw [if_neg h5, if_neg h5, if_neg h5]
            exact v_Pret ⟨rfl, rfl⟩
      · rw [if_neg h3, if_neg h3, if_neg h3]
        exact v_Pret ⟨rfl, rfl⟩
  · rw [if_neg h1, if_neg h1, if_neg h1]
    exact v_Pret ⟨rfl, rfl⟩
theorem y_Md_moved (b c d : Int32) (s : vS) : v_P (f_Md_moved b c d s) (fun r t => r = j_mv b c d ∧ t = j_mvM b c d s) := by
  unfold f_Md_moved j_mv j_mvM
  rw [z_in, v_bi_some, v_bif]
  by_cases h1 : 0 ≤ b.toInt ∧ b.toInt ≤ 2
  · rw [if_pos (show (0 : Int32).toInt ≤ b.toInt ∧ b.toInt ≤ (2 : Int32).toInt from h1), if_pos h1, if_pos h1]
    by_cases h2 : c.toInt = -1
    · rw [if_pos h2, if_pos h2, if_pos h2]
      exact v_Pif (fun _ => v_Plet (v_Pret ⟨rfl, rfl⟩)) (fun _ => v_Pnone)
    · rw [if_neg h2, if_neg h2, if_neg h2, z_in, v_bi_some, v_bif]
      by_cases h3 : 0 ≤ c.toInt ∧ c.toInt ≤ 2
      · rw [if_pos (show (0 : Int32).toInt ≤ c.toInt ∧ c.toInt ≤ (2 : Int32).toInt from h3), if_pos h3, if_pos h3]
        by_cases h4 : c.toInt = b.toInt
        · rw [if_pos h4, if_pos h4, if_pos h4]
          exact v_Pret ⟨rfl, rfl⟩
        · rw [if_neg h4, if_neg h4, if_neg h4, z_in, v_bi_some, v_bif]
          by_cases h5 : 0 ≤ d.toInt ∧ d.toInt ≤ 99
          · rw [if_pos (show (0 : Int32).toInt ≤ d.toInt ∧ d.toInt ≤ (99 : Int32).toInt from h5), if_pos h5, if_pos h5]
            exact v_Pif (fun _ => v_Plet (v_Pif (fun _ => v_Plet (v_Pret ⟨rfl, rfl⟩)) (fun _ => v_Pnone))) (fun _ => v_Pnone)
          · rw [if_neg (show ¬ ((0 : Int32).toInt ≤ d.toInt ∧ d.toInt ≤ (99 : Int32).toInt) from h5), if_neg h5, if_neg h5]
            exact v_Pret ⟨rfl, rfl⟩
      · rw [if_neg (show ¬ ((0 : Int32).toInt ≤ c.toInt ∧ c.toInt ≤ (2 : Int32).toInt) from h3), if_neg h3, if_neg h3]
        exact v_Pret ⟨rfl, rfl⟩
  · rw [if_neg (show ¬ ((0 : Int32).toInt ≤ b.toInt ∧ b.toInt ≤ (2 : Int32).toInt) from h1), if_neg h1, if_neg h1]
    exact v_Pret ⟨rfl, rfl⟩
theorem j_word_w {s t s2 t2 : vS} (h : j_R s t) (hs : j_E (fun a j => ¬ jp_word a j) s s2) (ht : j_E (fun a j => ¬ jp_word a j) t t2) (hn : j_word s2 t2) : j_R s2 t2 :=
  j_mix jp_word h hs ht (Or.inl (fun a j q z => by unfold jb_many at q; unfold jp_word at z; omega)) (Or.inl (fun a j q z => by unfold jb_tape at q; unfold jp_word at z; omega)) (Or.inl (fun a j q z => by unfold jb_num at q; unfold jp_word at z; omega)) (Or.inl (fun a j q z => by unfold jb_law at q; unfold jp_word at z; omega)) (Or.inl (fun a j q z => by unfold jb_rt at q; unfold jp_word at z; omega)) (Or.inl (fun a j q z => by unfold jb_textC jb_textM at q; unfold jp_word at z; omega)) (Or.inr hn) (Or.inl (fun a j q z => by unfold jb_img at q; unfold jp_word at z; omega)) (Or.inl (fun a j q z => by unfold jb_chg at q; unfold jp_word at z; omega)) (Or.inl (fun a j q z => by unfold jb_ran at q; unfold jp_word at z; omega))
theorem j_moved {s t : vS} (h : j_R s t) (b c d : Int32) : j_S (f_Ol_moved b c d s) (f_Md_moved b c d t) := by
  refine j_SP (y_Ol_moved b c d s) (y_Md_moved b c d t) ?_
  rintro r1 s1 r2 t1 ⟨rfl, rfl⟩ ⟨rfl, rfl⟩
  refine ⟨?_, rfl⟩
  have hx := h.2.2.2.2.2.2.1
  unfold j_mvC j_mvM
  by_cases h1 : 0 ≤ b.toInt ∧ b.toInt ≤ 2
  · rw [if_pos h1, if_pos h1]
    by_cases h2 : c.toInt = -1
    · rw [if_pos h2, if_pos h2]
      refine j_word_w h (j_E_w1 (j_E_w1 j_E_rf (fun q => q (by unfold jp_word; omega))) (fun q => q (by unfold jp_word; omega))) (j_E_w1 j_E_rf (fun q => q (by unfold jp_word; omega))) (fun w hw => ?_)
      have hx2 := hx w hw
      by_cases hz : w = b.toNatClampNeg
      · subst hz
        refine ⟨by rw [v_w1_1, if_neg (by omega), v_w1_1, if_pos ⟨rfl, rfl⟩, v_w1_1, if_pos ⟨rfl, rfl⟩], fun q => ?_⟩
        rw [v_w1_1, if_neg (by omega), v_w1_1, if_pos ⟨rfl, rfl⟩] at q
        exact absurd q (by decide)
      · have e1 : (v_w1 (v_w1 s 10 b.toNatClampNeg (-1)) 11 b.toNatClampNeg 0).1 10 w = s.1 10 w := by rw [v_w1_1, if_neg (by omega), v_w1_1, if_neg (by omega)]
        have e2 : (v_w1 (v_w1 s 10 b.toNatClampNeg (-1)) 11 b.toNatClampNeg 0).1 11 w = s.1 11 w := by rw [v_w1_1, if_neg (by omega), v_w1_1, if_neg (by omega)]
        have e3 : (v_w1 t 163 b.toNatClampNeg (-1)).1 163 w = t.1 163 w := by rw [v_w1_1, if_neg (by omega)]
        have e4 : (v_w1 t 163 b.toNatClampNeg (-1)).1 164 w = t.1 164 w := by rw [v_w1_1, if_neg (by omega)]
        rw [e1, e2, e3, e4]
        exact hx2
    · rw [if_neg h2, if_neg h2]
      by_cases h3 : 0 ≤ c.toInt ∧ c.toInt ≤ 2
      · rw [if_pos h3, if_pos h3]
        by_cases h4 : c.toInt = b.toInt
        · rw [if_pos h4, if_pos h4]; exact h
        · rw [if_neg h4, if_neg h4]
          by_cases h5 : 0 ≤ d.toInt ∧ d.toInt ≤ 99
          · rw [if_pos h5, if_pos h5]
            refine j_word_w h (j_E_w1 (j_E_w1 j_E_rf (fun q => q (by unfold jp_word; omega))) (fun q => q (by unfold jp_word; omega))) (j_E_w1 (j_E_w1 j_E_rf (fun q => q (by unfold jp_word; omega))) (fun q => q (by unfold jp_word; omega))) (fun w hw => ?_)
            have hx2 := hx w hw
            by_cases hz : w = b.toNatClampNeg
            · subst hz
              refine ⟨?_, fun _ => ?_⟩
              · rw [v_w1_1, if_neg (by omega), v_w1_1, if_pos ⟨rfl, rfl⟩, v_w1_1, if_neg (by omega), v_w1_1, if_pos ⟨rfl, rfl⟩]
              · rw [v_w1_1, if_pos ⟨rfl, rfl⟩, v_w1_1, if_pos ⟨rfl, rfl⟩]
            · have e1 : (v_w1 (v_w1 s 10 b.toNatClampNeg c) 11 b.toNatClampNeg d).1 10 w = s.1 10 w := by rw [v_w1_1, if_neg (by omega), v_w1_1, if_neg (by omega)]
              have e2 : (v_w1 (v_w1 s 10 b.toNatClampNeg c) 11 b.toNatClampNeg d).1 11 w = s.1 11 w := by rw [v_w1_1, if_neg (by omega), v_w1_1, if_neg (by omega)]
              have e3 : (v_w1 (v_w1 t 163 b.toNatClampNeg c) 164 b.toNatClampNeg d).1 163 w = t.1 163 w := by rw [v_w1_1, if_neg (by omega), v_w1_1, if_neg (by omega)]
              have e4 : (v_w1 (v_w1 t 163 b.toNatClampNeg c) 164 b.toNatClampNeg d).1 164 w = t.1 164 w := by rw [v_w1_1, if_neg (by omega), v_w1_1, if_neg (by omega)]
              rw [e1, e2, e3, e4]
              exact hx2
          · rw [if_neg h5, if_neg h5]; exact h
      · rw [if_neg h3, if_neg h3]; exact h
  · rw [if_neg h1, if_neg h1]; exact h
/-! undo, redo -/
def jp_set (a j : Nat) : Prop := (a = 73 ∧ j ≤ 1) ∨ (a = 151 ∧ 23 ≤ j ∧ j ≤ 24) ∨ (23 ≤ a ∧ a ≤ 68 ∧ a % 5 = 3 ∧ 1 ≤ j ∧ j ≤ 3) ∨ (a = 8 ∧ 2 ≤ j ∧ j ≤ 3) ∨ (160 ≤ a ∧ a ≤ 162) ∨ (a = 151 ∧ 18 ≤ j ∧ j ≤ 19)
theorem j_set_w {s t s2 t2 : vS} (h : j_R s t) (hs : j_E (fun a j => ¬ jp_set a j) s s2) (ht : j_E (fun a j => ¬ jp_set a j) t t2) (hl : j_law s2 t2 ∧ j_rt s2 t2) (hc : j_chg s2 t2) (hn : j_ran s2) : j_R s2 t2 :=
  j_mix jp_set h hs ht (Or.inl (fun a j q z => by unfold jb_many at q; unfold jp_set at z; omega)) (Or.inl (fun a j q z => by unfold jb_tape at q; unfold jp_set at z; omega)) (Or.inl (fun a j q z => by unfold jb_num at q; unfold jp_set at z; omega)) (Or.inr hl.1) (Or.inr hl.2) (Or.inl (fun a j q z => by unfold jb_textC jb_textM at q; unfold jp_set at z; omega)) (Or.inl (fun a j q z => by unfold jb_word at q; unfold jp_set at z; omega)) (Or.inl (fun a j q z => by unfold jb_img at q; unfold jp_set at z; omega)) (Or.inr hc) (Or.inr hn)
theorem y_chn (f : Int32 → vS → Option (Int32 × vS)) (R : Nat) (b : Int32) (s : vS) (h : f b s = (if b.toInt < 0 then (some (0, s)) else (if 40 ≤ b.toInt then (some (0, s)) else (if v_in b 40 then (some ((s.1 R (Int32.toNatClampNeg b)), s)) else none)))) (hb : 0 ≤ b.toInt ∧ b.toInt < 40) : f b s = some (s.1 R b.toNatClampNeg, s) := by
  rw [h, if_neg (by omega), if_neg (by omega), if_pos (show v_in b 40 from ⟨hb.1, by omega⟩)]
def j_unC (s : vS) : vS := v_w1 (j_setC (s.1 74 (s.1 73 0 - 1).toNatClampNeg) (s.1 75 (s.1 73 0 - 1).toNatClampNeg) (s.1 76 (s.1 73 0 - 1).toNatClampNeg) s) 73 0 (s.1 73 0 - 1)
theorem y_Ol_undo (s : vS) (h : 0 ≤ (s.1 73 0).toInt ∧ (s.1 73 0).toInt ≤ 40) (hl : ∀ j : Nat, (j : Int) < (s.1 73 0).toInt → (0 ≤ (s.1 74 j).toInt ∧ (s.1 74 j).toInt ≤ 9) ∧ (0 ≤ (s.1 75 j).toInt ∧ (s.1 75 j).toInt ≤ 4)) : v_P (f_Ol_undo s) (fun r t => if (s.1 73 0).toInt = 0 then r = -5 ∧ t = s else r = s.1 73 0 - 1 ∧ t = j_unC s) := by
  have e : (s.1 73 0 - 1).toInt = (s.1 73 0).toInt - 1 := v_sub (y := 1) (show -2147483648 ≤ (s.1 73 0).toInt - 1 by omega) (show (s.1 73 0).toInt - 1 < 2147483648 by omega)
  unfold f_Ol_undo f_Ch_latest
  rw [v_bi_some]
  by_cases h0 : (s.1 73 0).toInt = 0
  · rw [if_neg (by omega)]
    exact v_Pret (by rw [if_pos h0]; exact ⟨rfl, rfl⟩)
  · rw [if_pos (by omega), y_chn f_Ch_number 74 (s.1 73 0 - 1) s rfl ⟨by omega, by omega⟩, v_bi_some, y_chn f_Ch_what 75 (s.1 73 0 - 1) s rfl ⟨by omega, by omega⟩, v_bi_some, y_chn f_Ch_was 76 (s.1 73 0 - 1) s rfl ⟨by omega, by omega⟩, v_bi_some]
    obtain ⟨g1, g2⟩ := hl (s.1 73 0 - 1).toNatClampNeg (by rw [v_nc]; omega)
    refine v_Pbi (y_set _ _ (s.1 76 (s.1 73 0 - 1).toNatClampNeg) s g1 g2) ?_
    rintro _ t rfl
    have e0 : (j_setC (s.1 74 (s.1 73 0 - 1).toNatClampNeg) (s.1 75 (s.1 73 0 - 1).toNatClampNeg) (s.1 76 (s.1 73 0 - 1).toNatClampNeg) s).1 73 0 = s.1 73 0 := j_E_setC (P := jb_chg) _ _ _ s g1.2 (fun a j q => by unfold jb_chg at q; omega) 73 0 (by unfold jb_chg; omega)
    unfold f_Ch_stepBack
    refine v_Pbi (P := fun r t => r = s.1 73 0 - 1 ∧ t = j_unC s) (v_Plet (v_Pret ⟨?_, ?_⟩)) (fun r t ht => v_Pret (by rw [if_neg h0]; exact ht))
    · rw [v_w1_1, if_pos ⟨rfl, rfl⟩, e0]
    · unfold j_unC
      rw [e0]
def j_unM (t : vS) : vS := j_setM (t.1 167 (t.1 151 23 - 1).toNatClampNeg) (t.1 166 (t.1 151 23 - 1).toNatClampNeg) (t.1 168 (t.1 151 23 - 1).toNatClampNeg) (v_w1 (v_w1 t 151 23 (t.1 151 23 - 1)) 151 24 (t.1 151 24 + 1))
theorem y_Md_undo (t : vS) : v_P (f_Md_undo t) (fun r u => if (t.1 151 23).toInt = 0 then r = -5 ∧ u = t else r = t.1 151 23 - 1 ∧ u = j_unM t) := by
  unfold f_Md_undo
  by_cases h0 : (t.1 151 23).toInt = 0
  · rw [if_pos h0]
    exact v_Pret (by rw [if_pos h0]; exact ⟨rfl, rfl⟩)
  · rw [if_neg h0]
    refine v_Plet (v_Plet ?_)
    have e1 : (v_w1 t 151 23 (t.1 151 23 - 1)).1 151 24 = t.1 151 24 := v_w1_1.trans (if_neg (by omega))
    rw [e1]
    have e2 : (v_w1 (v_w1 t 151 23 (t.1 151 23 - 1)) 151 24 (t.1 151 24 + 1)).1 151 23 = t.1 151 23 - 1 := by rw [v_w1_1, if_neg (by omega), v_w1_1, if_pos ⟨rfl, rfl⟩]
    have e3 : ∀ a j, 160 ≤ a → (v_w1 (v_w1 t 151 23 (t.1 151 23 - 1)) 151 24 (t.1 151 24 + 1)).1 a j = t.1 a j := fun a j ha => by rw [v_w1_1, if_neg (by omega), v_w1_1, if_neg (by omega)]
    rw [e2, e3 166 _ (by decide), e3 167 _ (by decide), e3 168 _ (by decide)]
    refine v_Pif (fun _ => v_Pif (fun _ => v_Pif (fun _ => ?_) (fun _ => v_Pnone)) (fun _ => v_Pnone)) (fun _ => v_Pnone)
    refine v_Pbi (y_lays (t.1 167 (t.1 151 23 - 1).toNatClampNeg) (t.1 166 (t.1 151 23 - 1).toNatClampNeg) (t.1 168 (t.1 151 23 - 1).toNatClampNeg) _) ?_
    rintro _ u rfl
    refine v_Pret ?_
    rw [if_neg h0]
    refine ⟨?_, rfl⟩
    by_cases hw : (t.1 166 (t.1 151 23 - 1).toNatClampNeg).toInt = 3
    · unfold j_setM
      rw [if_neg (by omega), if_neg (by omega), if_neg (by omega), if_pos hw, v_w1_1, if_neg (by omega), e2]
    · refine (j_E_setM (P := fun a j => a = 151 ∧ j = 23) _ _ _ _ (fun a j q => by omega) 151 23 ⟨rfl, rfl⟩).trans e2
theorem j_undo {s t : vS} (h : j_R s t) (hR : v_RI t) : j_S (f_Ol_undo s) (f_Md_undo t) := by
  have hb := hR.2.2.1
  obtain ⟨c1, c2, c3⟩ := h.2.2.2.2.2.2.2.2.1
  refine j_SP (y_Ol_undo s (by rw [c1]; omega) (fun j hj => (c3 j (by rw [c2]; rw [c1] at hj; omega)).1)) (y_Md_undo t) ?_
  intro r1 s1 r2 t1 p1 p2
  rw [c1] at p1
  by_cases h0 : (t.1 151 23).toInt = 0
  · rw [if_pos h0] at p1 p2
    obtain ⟨rfl, rfl⟩ := p1
    obtain ⟨rfl, rfl⟩ := p2
    exact ⟨h, rfl⟩
  · rw [if_neg h0] at p1 p2
    obtain ⟨rfl, rfl⟩ := p1
    obtain ⟨rfl, rfl⟩ := p2
    refine ⟨?_, rfl⟩
    have e : (t.1 151 23 - 1).toInt = (t.1 151 23).toInt - 1 := v_sub (y := 1) (show -2147483648 ≤ (t.1 151 23).toInt - 1 by omega) (show (t.1 151 23).toInt - 1 < 2147483648 by omega)
    have e24 : (t.1 151 24 + 1).toInt = (t.1 151 24).toInt + 1 := v_inc (by omega)
    obtain ⟨⟨g1, g2⟩, g3, g4, g5, -⟩ := c3 (t.1 151 23 - 1).toNatClampNeg (by rw [v_nc]; omega)
    have hrn := h.2.2.2.2.2.2.2.2.2
    have N_ok := (hrn.2.2.2 (t.1 151 23 - 1).toNatClampNeg (by rw [v_nc, c2]; omega)).1
    unfold j_unC j_unM
    rw [c1, ← g3, ← g4, ← g5]
    generalize s.1 74 (t.1 151 23 - 1).toNatClampNeg = N at g1
    generalize s.1 75 (t.1 151 23 - 1).toNatClampNeg = W at g2 N_ok
    generalize s.1 76 (t.1 151 23 - 1).toNatClampNeg = V at N_ok
    have hlr : j_law s (v_w1 (v_w1 t 151 23 (t.1 151 23 - 1)) 151 24 (t.1 151 24 + 1)) ∧ j_rt s (v_w1 (v_w1 t 151 23 (t.1 151 23 - 1)) 151 24 (t.1 151 24 + 1)) := ⟨j_lawE h.2.2.2.1 j_E_rf (j_E_w1 (j_E_w1 j_E_rf (fun q => by unfold jb_law at q; omega)) (fun q => by unfold jb_law at q; omega)), j_rtE h.2.2.2.2.1 j_E_rf (j_E_w1 (j_E_w1 j_E_rf (fun q => by unfold jb_rt at q; omega)) (fun q => by unfold jb_rt at q; omega))⟩
    have hs1 := j_set hlr N W V
    have hC : j_E jb_chg s (j_setC N W V s) := j_E_setC N W V s g1.2 (fun a j q => by unfold jb_chg at q; omega)
    have hM : j_E jb_chg (v_w1 (v_w1 t 151 23 (t.1 151 23 - 1)) 151 24 (t.1 151 24 + 1)) (j_setM N W V (v_w1 (v_w1 t 151 23 (t.1 151 23 - 1)) 151 24 (t.1 151 24 + 1))) := j_E_setM N W V _ (fun a j q => by unfold jb_chg at q; omega)
    refine j_set_w h (j_E_w1 (j_E_setC N W V s g1.2 (fun a j q z => q (by unfold jp_set; omega))) (fun q => q (by unfold jp_set; omega))) (j_E_tr (j_E_w1 (j_E_w1 j_E_rf (fun q => q (by unfold jp_set; omega))) (fun q => q (by unfold jp_set; omega))) (j_E_setM N W V _ (fun a j q z => q (by unfold jp_set; omega)))) ⟨j_lawE hs1.1 (j_E_w1 j_E_rf (fun q => by unfold jb_law at q; omega)) j_E_rf, j_rtE hs1.2 (j_E_w1 j_E_rf (fun q => by unfold jb_rt at q; omega)) j_E_rf⟩ ?_ (j_ranE (j_ran_set hrn g1 g2 N_ok) (j_E_w1 j_E_rf (fun q => by unfold jb_ran at q; omega)))
    refine ⟨?_, ?_, fun j hj => ?_⟩
    · rw [v_w1_1, if_pos ⟨rfl, rfl⟩, hM 151 23 (by unfold jb_chg; omega), v_w1_1, if_neg (by omega), v_w1_1, if_pos ⟨rfl, rfl⟩]
    · rw [v_w1_1, if_neg (by omega), hC 73 1 (by unfold jb_chg; omega), hM 151 23 (by unfold jb_chg; omega), hM 151 24 (by unfold jb_chg; omega), v_w1_1, if_neg (by omega), v_w1_1, if_pos ⟨rfl, rfl⟩, v_w1_1, if_pos ⟨rfl, rfl⟩]
      omega
    · rw [v_w1_1, if_neg (by omega), hC 73 1 (by unfold jb_chg; omega)] at hj
      have e5 : ∀ a, 74 ≤ a → a ≤ 77 → (v_w1 (j_setC N W V s) 73 0 (t.1 151 23 - 1)).1 a j = s.1 a j := fun a h1 h2 => by rw [v_w1_1, if_neg (by omega), hC a j (by unfold jb_chg; omega)]
      have e6 : ∀ a, 166 ≤ a → a ≤ 169 → (j_setM N W V (v_w1 (v_w1 t 151 23 (t.1 151 23 - 1)) 151 24 (t.1 151 24 + 1))).1 a j = t.1 a j := fun a h1 h2 => by rw [hM a j (by unfold jb_chg; omega), v_w1_1, if_neg (by omega), v_w1_1, if_neg (by omega)]
      rw [e5 74 (by decide) (by decide), e5 75 (by decide) (by decide), e5 76 (by decide) (by decide), e5 77 (by decide) (by decide), e6 166 (by decide) (by decide), e6 167 (by decide) (by decide), e6 168 (by decide) (by decide), e6 169 (by decide) (by decide)]
      exact c3 j hj
