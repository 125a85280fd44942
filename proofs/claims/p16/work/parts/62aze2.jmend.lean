/-! redo, mend -/
def j_rdC (s : vS) : vS := v_w1 (j_setC (s.1 74 (s.1 73 0).toNatClampNeg) (s.1 75 (s.1 73 0).toNatClampNeg) (s.1 77 (s.1 73 0).toNatClampNeg) s) 73 0 (s.1 73 0 + 1)
theorem y_Ol_redo (s : vS) (h : 0 ≤ (s.1 73 0).toInt ∧ (s.1 73 1).toInt ≤ 40) (hl : ∀ j : Nat, (j : Int) < (s.1 73 1).toInt → (0 ≤ (s.1 74 j).toInt ∧ (s.1 74 j).toInt ≤ 9) ∧ (0 ≤ (s.1 75 j).toInt ∧ (s.1 75 j).toInt ≤ 4)) : v_P (f_Ol_redo s) (fun r t => if (s.1 73 1).toInt ≤ (s.1 73 0).toInt then r = -5 ∧ t = s else r = s.1 73 1 - (s.1 73 0 + 1) ∧ t = j_rdC s) := by
  unfold f_Ol_redo f_Ch_next
  by_cases h0 : (s.1 73 1).toInt ≤ (s.1 73 0).toInt
  · rw [if_pos h0, v_bi_some, if_neg (by decide)]
    exact v_Pret (by rw [if_pos h0]; exact ⟨rfl, rfl⟩)
  · rw [if_neg h0, v_bi_some, if_pos h.1, y_chn f_Ch_number 74 (s.1 73 0) s rfl ⟨by omega, by omega⟩, v_bi_some, y_chn f_Ch_what 75 (s.1 73 0) s rfl ⟨by omega, by omega⟩, v_bi_some, y_chn f_Ch_became 77 (s.1 73 0) s rfl ⟨by omega, by omega⟩, v_bi_some]
    obtain ⟨g1, g2⟩ := hl (s.1 73 0).toNatClampNeg (by rw [v_nc]; omega)
    refine v_Pbi (y_set _ _ (s.1 77 (s.1 73 0).toNatClampNeg) s g1 g2) ?_
    rintro _ t rfl
    have hE : j_E jb_chg s (j_setC (s.1 74 (s.1 73 0).toNatClampNeg) (s.1 75 (s.1 73 0).toNatClampNeg) (s.1 77 (s.1 73 0).toNatClampNeg) s) := j_E_setC _ _ _ s g1.2 (fun a j q => by unfold jb_chg at q; omega)
    have e0 := hE 73 0 (by unfold jb_chg; omega)
    have e1 := hE 73 1 (by unfold jb_chg; omega)
    unfold f_Ch_stepOn
    refine v_Pbi (P := fun r t => r = s.1 73 1 - (s.1 73 0 + 1) ∧ t = j_rdC s) (v_Plet (v_Pret ⟨?_, ?_⟩)) (fun r t ht => v_Pret (by rw [if_neg h0]; exact ht))
    · rw [v_w1_1, if_neg (by omega), v_w1_1, if_pos ⟨rfl, rfl⟩, e0, e1]
    · unfold j_rdC
      rw [e0]
def j_rdM (t : vS) : vS := v_w1 (v_w1 (j_setM (t.1 167 (t.1 151 23).toNatClampNeg) (t.1 166 (t.1 151 23).toNatClampNeg) (t.1 169 (t.1 151 23).toNatClampNeg) t) 151 23 (t.1 151 23 + 1)) 151 24 (t.1 151 24 - 1)
theorem y_Md_redo (t : vS) : v_P (f_Md_redo t) (fun r u => if (t.1 151 24).toInt = 0 then r = -5 ∧ u = t else r = t.1 151 24 - 1 ∧ u = j_rdM t) := by
  unfold f_Md_redo
  by_cases h0 : (t.1 151 24).toInt = 0
  · rw [if_pos h0]
    exact v_Pret (by rw [if_pos h0]; exact ⟨rfl, rfl⟩)
  · rw [if_neg h0]
    refine v_Pif (fun _ => v_Pif (fun _ => v_Pif (fun _ => ?_) (fun _ => v_Pnone)) (fun _ => v_Pnone)) (fun _ => v_Pnone)
    refine v_Pbi (y_lays (t.1 167 (t.1 151 23).toNatClampNeg) (t.1 166 (t.1 151 23).toNatClampNeg) (t.1 169 (t.1 151 23).toNatClampNeg) t) ?_
    rintro _ u rfl
    have hE : j_E (fun a j => a = 151 ∧ 23 ≤ j) t (j_setM (t.1 167 (t.1 151 23).toNatClampNeg) (t.1 166 (t.1 151 23).toNatClampNeg) (t.1 169 (t.1 151 23).toNatClampNeg) t) := j_E_setM _ _ _ t (fun a j q => by omega)
    have e0 := hE 151 23 ⟨rfl, by decide⟩
    have e1 := hE 151 24 ⟨rfl, by decide⟩
    refine v_Plet (v_Plet (v_Pret ?_))
    rw [if_neg h0]
    refine ⟨?_, ?_⟩
    · rw [v_w1_1, if_pos ⟨rfl, rfl⟩, v_w1_1, if_neg (by omega), e1]
    · unfold j_rdM
      rw [v_w1_1, if_neg (by omega), e0, e1]
theorem j_redo {s t : vS} (h : j_R s t) (hR : v_RI t) : j_S (f_Ol_redo s) (f_Md_redo t) := by
  have hb := hR.2.2.1
  obtain ⟨c1, c2, c3⟩ := h.2.2.2.2.2.2.2.2.1
  refine j_SP (y_Ol_redo s ⟨by rw [c1]; omega, by rw [c2]; omega⟩ (fun j hj => (c3 j hj).1)) (y_Md_redo t) ?_
  intro r1 s1 r2 t1 p1 p2
  rw [c1, c2] at p1
  by_cases h0 : (t.1 151 24).toInt = 0
  · rw [if_pos (by omega)] at p1
    rw [if_pos h0] at p2
    obtain ⟨rfl, rfl⟩ := p1
    obtain ⟨rfl, rfl⟩ := p2
    exact ⟨h, rfl⟩
  · rw [if_neg (by omega)] at p1
    rw [if_neg h0] at p2
    obtain ⟨rfl, rfl⟩ := p1
    obtain ⟨rfl, rfl⟩ := p2
    have e : (t.1 151 23 + 1).toInt = (t.1 151 23).toInt + 1 := v_inc (by omega)
    have e24 : (t.1 151 24 - 1).toInt = (t.1 151 24).toInt - 1 := v_sub (y := 1) (show -2147483648 ≤ (t.1 151 24).toInt - 1 by omega) (show (t.1 151 24).toInt - 1 < 2147483648 by omega)
    obtain ⟨⟨g1, g2⟩, g3, g4, -, g5⟩ := c3 (t.1 151 23).toNatClampNeg (by rw [v_nc, c2]; omega)
    have hrn := h.2.2.2.2.2.2.2.2.2
    have N_ok := (hrn.2.2.2 (t.1 151 23).toNatClampNeg (by rw [v_nc, c2]; omega)).2
    refine ⟨?_, ?_⟩
    · unfold j_rdC j_rdM
      rw [c1, ← g3, ← g4, ← g5]
      generalize s.1 74 (t.1 151 23).toNatClampNeg = N at g1
      generalize s.1 75 (t.1 151 23).toNatClampNeg = W at g2 N_ok
      generalize s.1 77 (t.1 151 23).toNatClampNeg = V at N_ok
      have hs1 := j_set ⟨h.2.2.2.1, h.2.2.2.2.1⟩ N W V
      have hC : j_E jb_chg s (j_setC N W V s) := j_E_setC N W V s g1.2 (fun a j q => by unfold jb_chg at q; omega)
      have hM : j_E jb_chg t (j_setM N W V t) := j_E_setM N W V _ (fun a j q => by unfold jb_chg at q; omega)
      refine j_set_w h (j_E_w1 (j_E_setC N W V s g1.2 (fun a j q z => q (by unfold jp_set; omega))) (fun q => q (by unfold jp_set; omega))) (j_E_w1 (j_E_w1 (j_E_setM N W V _ (fun a j q z => q (by unfold jp_set; omega))) (fun q => q (by unfold jp_set; omega))) (fun q => q (by unfold jp_set; omega))) ⟨j_lawE hs1.1 (j_E_w1 j_E_rf (fun q => by unfold jb_law at q; omega)) (j_E_w1 (j_E_w1 j_E_rf (fun q => by unfold jb_law at q; omega)) (fun q => by unfold jb_law at q; omega)), j_rtE hs1.2 (j_E_w1 j_E_rf (fun q => by unfold jb_rt at q; omega)) (j_E_w1 (j_E_w1 j_E_rf (fun q => by unfold jb_rt at q; omega)) (fun q => by unfold jb_rt at q; omega))⟩ ?_ (j_ranE (j_ran_set hrn g1 g2 N_ok) (j_E_w1 j_E_rf (fun q => by unfold jb_ran at q; omega)))
      refine ⟨?_, ?_, fun j hj => ?_⟩
      · rw [v_w1_1, if_pos ⟨rfl, rfl⟩, v_w1_1, if_neg (by omega), v_w1_1, if_pos ⟨rfl, rfl⟩]
      · rw [v_w1_1, if_neg (by omega), hC 73 1 (by unfold jb_chg; omega), v_w1_1, if_neg (by omega), v_w1_1, if_pos ⟨rfl, rfl⟩, v_w1_1, if_pos ⟨rfl, rfl⟩]
        omega
      · rw [v_w1_1, if_neg (by omega), hC 73 1 (by unfold jb_chg; omega)] at hj
        have e5 : ∀ a, 74 ≤ a → a ≤ 77 → (v_w1 (j_setC N W V s) 73 0 (t.1 151 23 + 1)).1 a j = s.1 a j := fun a h1 h2 => by rw [v_w1_1, if_neg (by omega), hC a j (by unfold jb_chg; omega)]
        have e6 : ∀ a, 166 ≤ a → a ≤ 169 → (v_w1 (v_w1 (j_setM N W V t) 151 23 (t.1 151 23 + 1)) 151 24 (t.1 151 24 - 1)).1 a j = t.1 a j := fun a h1 h2 => by rw [v_w1_1, if_neg (by omega), v_w1_1, if_neg (by omega), hM a j (by unfold jb_chg; omega)]
        rw [e5 74 (by decide) (by decide), e5 75 (by decide) (by decide), e5 76 (by decide) (by decide), e5 77 (by decide) (by decide), e6 166 (by decide) (by decide), e6 167 (by decide) (by decide), e6 168 (by decide) (by decide), e6 169 (by decide) (by decide)]
        exact c3 j hj
    · apply Int32.toInt_inj.mp
      rw [e24, v_sub (by rw [c2, e]; omega) (by rw [c2, e]; omega), c2, e]
      omega
/-! mend -/
abbrev j_may (b c d : Int32) (m : Int) : Prop := (c.toInt = 0 ∧ (0 ≤ b.toInt ∧ b.toInt < m) ∧ (0 ≤ d.toInt ∧ d.toInt ≤ 99)) ∨ (c.toInt = 1 ∧ (0 ≤ b.toInt ∧ b.toInt < m) ∧ (0 ≤ d.toInt ∧ d.toInt ≤ 2)) ∨ (c.toInt = 2 ∧ (0 ≤ b.toInt ∧ b.toInt < m) ∧ (-1 ≤ d.toInt ∧ d.toInt ≤ 9)) ∨ (c.toInt = 3 ∧ b.toInt = 0 ∧ (0 ≤ d.toInt ∧ d.toInt ≤ 3)) ∨ (c.toInt = 4 ∧ b.toInt = 0 ∧ (0 ≤ d.toInt ∧ d.toInt ≤ 99))
theorem y_bb {p q r : Prop} [Decidable p] [Decidable q] [Decidable r] {s : vS} (h : r ↔ (p ∧ q)) {f : vS → Option (Int32 × vS)} (hf : f s = some (v_b q, s)) : (v_bi (some (v_b p, s)) (fun r3 s3 => if r3.toInt = 0 then some ((0 : Int32), s3) else v_bi (f s3) (fun r5 s5 => if r5.toInt = 0 then some ((0 : Int32), s5) else some ((1 : Int32), s5)))) = some (v_b r, s) := by
  rw [v_bi_some, v_bif]
  by_cases hp : p
  · rw [if_pos hp, hf, v_bi_some, v_bif]
    by_cases hq : q
    · rw [if_pos hq, v_b_pos (h.mpr ⟨hp, hq⟩)]
    · rw [if_neg hq, v_b_neg (fun z => hq (h.mp z).2)]
  · rw [if_neg hp, v_b_neg (fun z => hp (h.mp z).1)]
theorem y_b1 {q r : Prop} [Decidable q] [Decidable r] {s : vS} (h : r ↔ q) : (v_bi (some (v_b q, s)) (fun r5 s5 => if r5.toInt = 0 then some ((0 : Int32), s5) else some ((1 : Int32), s5))) = some (v_b r, s) := by
  rw [v_bi_some, v_bif]
  by_cases hq : q
  · rw [if_pos hq, v_b_pos (h.mpr hq)]
  · rw [if_neg hq, v_b_neg (fun z => hq (h.mp z))]
theorem y_may (b c d : Int32) (s : vS) : f_Ol_mayBecome b c d s = some (v_b (j_may b c d (s.1 8 1).toInt), s) := by
  unfold f_Ol_mayBecome
  by_cases h0 : c.toInt < 0 ∨ 4 < c.toInt
  · rw [if_pos h0, v_b_neg (by unfold j_may; omega)]
  · rw [if_neg h0]
    by_cases h1 : c.toInt = 0
    · rw [if_pos h1, jz_knows]
      exact y_bb (q := 0 ≤ d.toInt ∧ d.toInt ≤ 99) (by unfold j_may; omega) (jz_isDate d s)
    · rw [if_neg h1]
      by_cases h2 : c.toInt = 1
      · rw [if_pos h2, jz_knows]
        exact y_bb (q := 0 ≤ d.toInt ∧ d.toInt ≤ 2) (by unfold j_may; omega) (jz_isSaying d s)
      · rw [if_neg h2]
        by_cases h3 : c.toInt = 2
        · rw [if_pos h3, jz_knows]
          exact y_bb (q := -1 ≤ d.toInt ∧ d.toInt ≤ 9) (by unfold j_may; omega) (jz_isStruck d s)
        · rw [if_neg h3]
          by_cases h4 : c.toInt = 3
          · rw [if_pos h4]
            by_cases h5 : b.toInt = 0
            · rw [if_pos h5, jz_isRule]
              exact y_b1 (by unfold j_may; omega)
            · rw [if_neg h5, v_b_neg (by unfold j_may; omega)]
          · rw [if_neg h4]
            by_cases h5 : b.toInt = 0
            · rw [if_pos h5, jz_isDate]
              exact y_b1 (by unfold j_may; omega)
            · rw [if_neg h5, v_b_neg (by unfold j_may; omega)]
def j_valC (b c : Int32) (s : vS) : Int32 := if c.toInt = 0 then s.1 (23 + 5 * b.toNatClampNeg) 1 else if c.toInt = 1 then s.1 (23 + 5 * b.toNatClampNeg) 2 else if c.toInt = 2 then s.1 (23 + 5 * b.toNatClampNeg) 3 else if c.toInt = 3 then s.1 8 2 else s.1 8 3
def j_valM (b c : Int32) (t : vS) : Int32 := if c.toInt = 0 then t.1 160 b.toNatClampNeg else if c.toInt = 1 then t.1 161 b.toNatClampNeg else if c.toInt = 2 then t.1 162 b.toNatClampNeg else if c.toInt = 3 then t.1 151 18 else t.1 151 19
theorem y_valueOf (b c : Int32) (s : vS) (hb : 0 ≤ b.toInt ∧ b.toInt ≤ 9) (hc : 0 ≤ c.toInt ∧ c.toInt ≤ 4) : v_P (f_Ct_valueOf b c s) (fun r t => r = j_valC b c s ∧ t = s) := by
  unfold f_Ct_valueOf j_valC
  rw [jz_at b s hb, v_bi_some]
  refine v_Pif (fun _ => ?_) (fun _ => v_Pnone)
  by_cases h4 : c.toInt = 4
  · rw [if_pos (Or.inr (by omega)), if_neg (by omega), if_neg (by omega), if_neg (by omega), if_neg (by omega)]
    exact v_Pret ⟨rfl, rfl⟩
  · rw [if_neg (by omega)]
    by_cases h0 : c.toInt = 0
    · rw [if_pos h0, if_pos h0]
      exact v_Pret ⟨rfl, rfl⟩
    · rw [if_neg h0, if_neg h0]
      by_cases h1 : c.toInt = 1
      · rw [if_pos h1, if_pos h1]
        exact v_Pret ⟨rfl, rfl⟩
      · rw [if_neg h1, if_neg h1]
        by_cases h2 : c.toInt = 2
        · rw [if_pos h2, if_pos h2]
          exact v_Pret ⟨rfl, rfl⟩
        · rw [if_neg h2, if_neg h2, if_pos (show c.toInt = 3 by omega)]
          exact v_Pret ⟨rfl, rfl⟩
theorem y_valueAt (b c : Int32) (t : vS) : v_P (f_Md_valueAt c b t) (fun r u => r = j_valM b c t ∧ u = t) := by
  unfold f_Md_valueAt j_valM
  by_cases h0 : c.toInt = 0
  · rw [if_pos h0, if_pos h0]
    exact v_Pif (fun _ => v_Pret ⟨rfl, rfl⟩) (fun _ => v_Pnone)
  · rw [if_neg h0, if_neg h0]
    by_cases h1 : c.toInt = 1
    · rw [if_pos h1, if_pos h1]
      exact v_Pif (fun _ => v_Pret ⟨rfl, rfl⟩) (fun _ => v_Pnone)
    · rw [if_neg h1, if_neg h1]
      by_cases h2 : c.toInt = 2
      · rw [if_pos h2, if_pos h2]
        exact v_Pif (fun _ => v_Pret ⟨rfl, rfl⟩) (fun _ => v_Pnone)
      · rw [if_neg h2, if_neg h2]
        by_cases h3 : c.toInt = 3
        · rw [if_pos h3, if_pos h3]
          exact v_Pret ⟨rfl, rfl⟩
        · rw [if_neg h3, if_neg h3]
          exact v_Pret ⟨rfl, rfl⟩
theorem j_val {s t : vS} (h : j_law s t ∧ j_rt s t) {b c : Int32} (hb : c.toInt ≤ 2 → b.toInt < (s.1 8 1).toInt ∧ b.toInt ≤ 9 ∧ 0 ≤ b.toInt) : j_valC b c s = j_valM b c t := by
  unfold j_valC j_valM
  by_cases h0 : c.toInt = 0
  · have hx := hb (by omega)
    rw [if_pos h0, if_pos h0]
    exact (h.1 b.toNatClampNeg (by rw [v_nc]; omega) (by rw [v_nc]; omega)).1
  · rw [if_neg h0, if_neg h0]
    by_cases h1 : c.toInt = 1
    · have hx := hb (by omega)
      rw [if_pos h1, if_pos h1]
      exact (h.1 b.toNatClampNeg (by rw [v_nc]; omega) (by rw [v_nc]; omega)).2.1
    · rw [if_neg h1, if_neg h1]
      by_cases h2 : c.toInt = 2
      · have hx := hb (by omega)
        rw [if_pos h2, if_pos h2]
        exact (h.1 b.toNatClampNeg (by rw [v_nc]; omega) (by rw [v_nc]; omega)).2.2
      · rw [if_neg h2, if_neg h2]
        by_cases h3 : c.toInt = 3
        · rw [if_pos h3, if_pos h3]
          exact h.2.1
        · rw [if_neg h3, if_neg h3]
          exact h.2.2
/-- a change laid behind those that are done; those undone are gone; of 40 the first goes -/
def j_ad4 (b c d e : Int32) (n sh : Nat) (s t : vS) : Prop := j_E (fun a _ => ¬ (73 ≤ a ∧ a ≤ 77)) s t ∧ ((t.1 73 0).toInt = n + 1 ∧ (t.1 73 1).toInt = n + 1) ∧ (t.1 74 n = b ∧ t.1 75 n = c ∧ t.1 76 n = d ∧ t.1 77 n = e) ∧ ∀ a j, 74 ≤ a → a ≤ 77 → j < n → t.1 a j = s.1 a (j + sh)
theorem y_add4 (b c d e : Int32) (s : vS) {n : Nat} (hn : (s.1 73 0).toInt = n) (hn4 : n < 40) : v_P (if (s.1 73 0).toInt < 0 then (some ((), s)) else (if (s.1 73 0).toInt < 40 then (if v_in (s.1 73 0) 40 then (v_let (v_w1 s 74 (Int32.toNatClampNeg (s.1 73 0)) b) (fun s5 => (if v_in (s5.1 73 0) 40 then (v_let (v_w1 s5 75 (Int32.toNatClampNeg (s5.1 73 0)) c) (fun s7 => (if v_in (s7.1 73 0) 40 then (v_let (v_w1 s7 76 (Int32.toNatClampNeg (s7.1 73 0)) d) (fun s9 => (if v_in (s9.1 73 0) 40 then (v_let (v_w1 s9 77 (Int32.toNatClampNeg (s9.1 73 0)) e) (fun s11 => (v_let (v_w1 s11 73 0 ((s11.1 73 0) + (1 : Int32))) (fun s12 => (v_let (v_w1 s12 73 1 (s12.1 73 0)) (fun s13 => (some ((), s13)))))))) else none))) else none))) else none))) else none) else (some ((), s)))) (fun (_ : Unit) t => j_ad4 b c d e n 0 s t) := by
  have en : (s.1 73 0).toNatClampNeg = n := by rw [v_nc]; omega
  have ei : (s.1 73 0 + 1).toInt = n + 1 := by rw [v_inc (by omega), hn]
  rw [if_neg (by omega), if_pos (by omega)]
  refine v_Pif (fun _ => v_Plet ?_) (fun _ => v_Pnone)
  have e1 : (v_w1 s 74 (Int32.toNatClampNeg (s.1 73 0)) b).1 73 0 = s.1 73 0 := v_w1_1.trans (if_neg (by omega))
  rw [e1]
  refine v_Pif (fun _ => v_Plet ?_) (fun _ => v_Pnone)
  have e2 : (v_w1 (v_w1 s 74 (Int32.toNatClampNeg (s.1 73 0)) b) 75 (Int32.toNatClampNeg (s.1 73 0)) c).1 73 0 = s.1 73 0 := (v_w1_1.trans (if_neg (by omega))).trans e1
  rw [e2]
  refine v_Pif (fun _ => v_Plet ?_) (fun _ => v_Pnone)
  have e3 : (v_w1 (v_w1 (v_w1 s 74 (Int32.toNatClampNeg (s.1 73 0)) b) 75 (Int32.toNatClampNeg (s.1 73 0)) c) 76 (Int32.toNatClampNeg (s.1 73 0)) d).1 73 0 = s.1 73 0 := (v_w1_1.trans (if_neg (by omega))).trans e2
  rw [e3]
  refine v_Pif (fun _ => v_Plet ?_) (fun _ => v_Pnone)
  have e4 : (v_w1 (v_w1 (v_w1 (v_w1 s 74 (Int32.toNatClampNeg (s.1 73 0)) b) 75 (Int32.toNatClampNeg (s.1 73 0)) c) 76 (Int32.toNatClampNeg (s.1 73 0)) d) 77 (Int32.toNatClampNeg (s.1 73 0)) e).1 73 0 = s.1 73 0 := (v_w1_1.trans (if_neg (by omega))).trans e3
  rw [e4, en]
  refine v_Plet (v_Plet (v_Pret ?_))
  have e5 : (v_w1 (v_w1 (v_w1 (v_w1 (v_w1 s 74 n b) 75 n c) 76 n d) 77 n e) 73 0 (s.1 73 0 + 1)).1 73 0 = s.1 73 0 + 1 := v_w1_1.trans (if_pos ⟨rfl, rfl⟩)
  rw [e5]
  refine ⟨fun a j q => by rw [v_w1_1, if_neg (by omega), v_w1_1, if_neg (by omega), v_w1_1, if_neg (by omega), v_w1_1, if_neg (by omega), v_w1_1, if_neg (by omega), v_w1_1, if_neg (by omega)], ⟨by rw [v_w1_1, if_neg (by omega), e5, ei], by rw [v_w1_1, if_pos ⟨rfl, rfl⟩, ei]⟩, ⟨by rw [v_w1_1, if_neg (by omega), v_w1_1, if_neg (by omega), v_w1_1, if_neg (by omega), v_w1_1, if_neg (by omega), v_w1_1, if_neg (by omega), v_w1_1, if_pos ⟨rfl, rfl⟩], by rw [v_w1_1, if_neg (by omega), v_w1_1, if_neg (by omega), v_w1_1, if_neg (by omega), v_w1_1, if_neg (by omega), v_w1_1, if_pos ⟨rfl, rfl⟩], by rw [v_w1_1, if_neg (by omega), v_w1_1, if_neg (by omega), v_w1_1, if_neg (by omega), v_w1_1, if_pos ⟨rfl, rfl⟩], by rw [v_w1_1, if_neg (by omega), v_w1_1, if_neg (by omega), v_w1_1, if_pos ⟨rfl, rfl⟩]⟩, fun a j q1 q2 q3 => by rw [v_w1_1, if_neg (by omega), v_w1_1, if_neg (by omega), v_w1_1, if_neg (by omega), v_w1_1, if_neg (by omega), v_w1_1, if_neg (by omega), v_w1_1, if_neg (by omega)]; rfl⟩
theorem y_drop (s : vS) : v_P (f_Ch_dropFirst s) (fun _ t => j_E (fun a _ => ¬ (73 ≤ a ∧ a ≤ 77)) s t ∧ (t.1 73 0).toInt = 39 ∧ ∀ a j, 74 ≤ a → a ≤ 77 → j < 39 → t.1 a j = s.1 a (j + 1)) := by
  unfold f_Ch_dropFirst
  refine v_Pif (fun _ => v_Plet (v_Pif (fun _ => v_Plet (v_Pif (fun _ => v_Plet (v_Pif (fun _ => v_Plet (v_Plet (v_Pret ?_))) (fun _ => v_Pnone))) (fun _ => v_Pnone))) (fun _ => v_Pnone))) (fun _ => v_Pnone)
  have hne : ∀ {u : vS} {x a j : Nat}, ¬ a = x → (v_cp1 u x 1 x 0 39).1 a j = u.1 a j := fun q => if_neg (fun z => q z.1)
  have heq : ∀ {u : vS} {x j : Nat}, j < 39 → (v_cp1 u x 1 x 0 39).1 x j = u.1 x (j + 1) := fun {u x j} q => by
    show (if x = x ∧ 0 ≤ j ∧ j < 0 + 39 then u.1 x (1 + (j - 0)) else u.1 x j) = _
    rw [if_pos ⟨rfl, Nat.zero_le _, by omega⟩, show 1 + (j - 0) = j + 1 by omega]
  refine ⟨fun a j q => ?_, by rw [v_w1_1, if_pos ⟨rfl, rfl⟩]; rfl, fun a j q1 q2 q3 => ?_⟩
  · rw [v_w1_1, if_neg (by omega), hne (by omega), hne (by omega), hne (by omega), hne (by omega)]
  · rw [v_w1_1, if_neg (by omega)]
    rcases (show a = 74 ∨ a = 75 ∨ a = 76 ∨ a = 77 by omega) with rfl | rfl | rfl | rfl
    · rw [hne (by decide), hne (by decide), hne (by decide), heq q3]
    · rw [hne (by decide), hne (by decide), heq q3, hne (by decide)]
    · rw [hne (by decide), heq q3, hne (by decide), hne (by decide)]
    · rw [heq q3, hne (by decide), hne (by decide), hne (by decide)]
def j_N (D : Int) : Nat := if D = 40 then 39 else D.toNat
def j_H (D : Int) : Nat := if D = 40 then 1 else 0
theorem y_add (b c d e : Int32) (s : vS) (h : 0 ≤ (s.1 73 0).toInt ∧ (s.1 73 0).toInt ≤ 40) : v_P (f_Ch_add b c d e s) (fun _ t => j_ad4 b c d e (j_N (s.1 73 0).toInt) (j_H (s.1 73 0).toInt) s t) := by
  unfold f_Ch_add j_N j_H
  by_cases h4 : (s.1 73 0).toInt = 40
  · rw [if_neg (show ¬ (s.1 73 0).toInt < 40 by omega), if_pos h4, if_pos h4]
    refine v_Pbi (y_drop s) ?_
    rintro _ u ⟨u1, u2, u3⟩
    refine v_Pm2 (y_add4 b c d e u (n := 39) u2 (by decide)) ?_
    rintro _ t ⟨g1, g2, g3, g4⟩
    exact ⟨j_E_tr u1 g1, g2, g3, fun a j q1 q2 q3 => by rw [g4 a j q1 q2 q3]; exact u3 a j q1 q2 q3⟩
  · rw [if_pos (show (s.1 73 0).toInt < 40 by omega), if_neg h4, if_neg h4]
    exact y_add4 b c d e s (by omega) (by omega)
/-- the same on the reference's side -/
def j_ad4M (b c d e : Int32) (n sh : Nat) (t u : vS) : Prop := j_E (fun a j => ¬ ((166 ≤ a ∧ a ≤ 169) ∨ (a = 151 ∧ 23 ≤ j ∧ j ≤ 24))) t u ∧ ((u.1 151 23).toInt = n + 1 ∧ (u.1 151 24).toInt = 0) ∧ (u.1 167 n = b ∧ u.1 166 n = c ∧ u.1 168 n = d ∧ u.1 169 n = e) ∧ ∀ a j, 166 ≤ a → a ≤ 169 → j < n → u.1 a j = t.1 a (j + sh)
theorem y_chL {p1 p2 p3 p4 : Int32} {s0 : vS} {k : vS → Option (Int32 × vS)} {Q : Int32 → vS → Prop} (hk : ∀ u, j_E (fun a _ => ¬ (166 ≤ a ∧ a ≤ 169)) s0 u → (∀ a j, 166 ≤ a → a ≤ 169 → j < 39 → u.1 a j = s0.1 a (j + 1)) → v_P (k u) Q) : ∀ (n : Nat) (v : Int32) (s : vS), 1 ≤ v.toInt → v.toInt ≤ 40 → j_E (fun a _ => ¬ (166 ≤ a ∧ a ≤ 169)) s0 s → (∀ a j : Nat, 166 ≤ a → a ≤ 169 → s.1 a j = if (j : Int) + 1 < v.toInt then s0.1 a (j + 1) else s0.1 a j) → v_P (f_Md_changes_L34 p1 p2 p3 p4 k n v s) Q
  | 0, _, _, _, _, _, _ => v_Pnone
  | n + 1, v, s, h1, h40, hE, hr => by
    show v_P (f_Md_changes_L34b p1 p2 p3 p4 k (f_Md_changes_L34 p1 p2 p3 p4 k n) v s) Q
    unfold f_Md_changes_L34b
    by_cases hv : 40 ≤ v.toInt
    · rw [if_pos hv]
      exact hk s hE (fun a j q1 q2 q3 => by rw [hr a j q1 q2, if_pos (by omega)])
    · rw [if_neg hv]
      have e1 : (v - (1 : Int32)).toInt = v.toInt - 1 := v_sub (y := 1) (show -2147483648 ≤ v.toInt - 1 by omega) (show v.toInt - 1 < 2147483648 by omega)
      have e2 : (v - (1 : Int32)).toNatClampNeg + 1 = v.toNatClampNeg := by rw [v_nc, v_nc, e1]; omega
      have e3 := v_inc (x := v) (by omega)
      have ev : (v.toNatClampNeg : Int) = v.toInt := by rw [v_nc]; omega
      generalize (v - (1 : Int32)).toNatClampNeg = m at e2 ⊢
      generalize v.toNatClampNeg = w at e2 ev ⊢
      refine v_Pif (fun _ => v_Pif (fun _ => v_Plet (v_Pif (fun _ => v_Pif (fun _ => v_Plet (v_Pif (fun _ => v_Pif (fun _ => v_Plet (v_Pif (fun _ => v_Pif (fun _ => v_Plet ?_) (fun _ => v_Pnone)) (fun _ => v_Pnone))) (fun _ => v_Pnone)) (fun _ => v_Pnone))) (fun _ => v_Pnone)) (fun _ => v_Pnone))) (fun _ => v_Pnone)) (fun _ => v_Pnone)
      refine y_chL hk n (v + 1) _ (by omega) (by omega) (j_E_tr hE (j_E_w1 (j_E_w1 (j_E_w1 (j_E_w1 j_E_rf (fun q => q (by omega))) (fun q => q (by omega))) (fun q => q (by omega))) (fun q => q (by omega)))) (fun a j q1 q2 => ?_)
      have hs : ∀ a, 166 ≤ a → a ≤ 169 → s.1 a w = s0.1 a w := fun a z1 z2 => by rw [hr a w z1 z2, if_neg (by omega)]
      have hj := hr a j q1 q2
      by_cases hz : j = m
      · rw [if_pos (by omega)]
        subst hz
        rcases (show a = 166 ∨ a = 167 ∨ a = 168 ∨ a = 169 by omega) with rfl | rfl | rfl | rfl
        · rw [v_w1_1, if_neg (by omega), v_w1_1, if_neg (by omega), v_w1_1, if_neg (by omega), v_w1_1, if_pos ⟨rfl, rfl⟩, e2, hs 166 (by decide) (by decide)]
        · rw [v_w1_1, if_neg (by omega), v_w1_1, if_neg (by omega), v_w1_1, if_pos ⟨rfl, rfl⟩, v_w1_1, if_neg (by omega), e2, hs 167 (by decide) (by decide)]
        · rw [v_w1_1, if_neg (by omega), v_w1_1, if_pos ⟨rfl, rfl⟩, v_w1_1, if_neg (by omega), v_w1_1, if_neg (by omega), e2, hs 168 (by decide) (by decide)]
        · rw [v_w1_1, if_pos ⟨rfl, rfl⟩, v_w1_1, if_neg (by omega), v_w1_1, if_neg (by omega), v_w1_1, if_neg (by omega), e2, hs 169 (by decide) (by decide)]
      · rw [v_w1_1, if_neg (by omega), v_w1_1, if_neg (by omega), v_w1_1, if_neg (by omega), v_w1_1, if_neg (by omega), hj, e3]
        by_cases hx : (j : Int) + 1 < v.toInt
        · rw [if_pos hx, if_pos (by omega)]
        · rw [if_neg hx, if_neg (by omega)]
theorem y_ad4M (b c d e : Int32) {s : vS} {n : Nat} (hn : (s.1 151 23).toInt = n) (h24 : (s.1 151 24).toInt = 0) (r : Int32) : v_P (if v_in (s.1 151 23) 40 then (v_let (v_w1 s 166 (Int32.toNatClampNeg (s.1 151 23)) c) (fun s18 => (if v_in (s18.1 151 23) 40 then (v_let (v_w1 s18 167 (Int32.toNatClampNeg (s18.1 151 23)) b) (fun s20 => (if v_in (s20.1 151 23) 40 then (v_let (v_w1 s20 168 (Int32.toNatClampNeg (s20.1 151 23)) d) (fun s22 => (if v_in (s22.1 151 23) 40 then (v_let (v_w1 s22 169 (Int32.toNatClampNeg (s22.1 151 23)) e) (fun s24 => (v_let (v_w1 s24 151 23 ((s24.1 151 23) + (1 : Int32))) (fun s25 => (v_bi (f_Md_lays c b e s25) (fun _ s26 => (some (r, s26)))))))) else none))) else none))) else none))) else none) (fun x u => x = r ∧ ∃ u0, j_ad4M b c d e n 0 s u0 ∧ u = j_setM b c e u0) := by
  have en : (s.1 151 23).toNatClampNeg = n := by rw [v_nc]; omega
  refine v_Pif (fun hv => v_Plet ?_) (fun _ => v_Pnone)
  have hn4 : (n : Int) < 40 := by have := hv.2; omega
  have ei : (s.1 151 23 + 1).toInt = n + 1 := by rw [v_inc (by omega), hn]
  have e1 : (v_w1 s 166 (Int32.toNatClampNeg (s.1 151 23)) c).1 151 23 = s.1 151 23 := v_w1_1.trans (if_neg (by omega))
  rw [e1]
  refine v_Pif (fun _ => v_Plet ?_) (fun _ => v_Pnone)
  have e2 : (v_w1 (v_w1 s 166 (Int32.toNatClampNeg (s.1 151 23)) c) 167 (Int32.toNatClampNeg (s.1 151 23)) b).1 151 23 = s.1 151 23 := (v_w1_1.trans (if_neg (by omega))).trans e1
  rw [e2]
  refine v_Pif (fun _ => v_Plet ?_) (fun _ => v_Pnone)
  have e3 : (v_w1 (v_w1 (v_w1 s 166 (Int32.toNatClampNeg (s.1 151 23)) c) 167 (Int32.toNatClampNeg (s.1 151 23)) b) 168 (Int32.toNatClampNeg (s.1 151 23)) d).1 151 23 = s.1 151 23 := (v_w1_1.trans (if_neg (by omega))).trans e2
  rw [e3]
  refine v_Pif (fun _ => v_Plet ?_) (fun _ => v_Pnone)
  have e4 : (v_w1 (v_w1 (v_w1 (v_w1 s 166 (Int32.toNatClampNeg (s.1 151 23)) c) 167 (Int32.toNatClampNeg (s.1 151 23)) b) 168 (Int32.toNatClampNeg (s.1 151 23)) d) 169 (Int32.toNatClampNeg (s.1 151 23)) e).1 151 23 = s.1 151 23 := (v_w1_1.trans (if_neg (by omega))).trans e3
  rw [e4, en]
  refine v_Plet (v_Pbi (y_lays b c e _) ?_)
  rintro _ u rfl
  refine v_Pret ⟨rfl, _, ?_, rfl⟩
  refine ⟨fun a j q => by rw [v_w1_1, if_neg (by omega), v_w1_1, if_neg (by omega), v_w1_1, if_neg (by omega), v_w1_1, if_neg (by omega), v_w1_1, if_neg (by omega)], ⟨by rw [v_w1_1, if_pos ⟨rfl, rfl⟩, ei], by rw [v_w1_1, if_neg (by omega), v_w1_1, if_neg (by omega), v_w1_1, if_neg (by omega), v_w1_1, if_neg (by omega), v_w1_1, if_neg (by omega), h24]⟩, ⟨by rw [v_w1_1, if_neg (by omega), v_w1_1, if_neg (by omega), v_w1_1, if_neg (by omega), v_w1_1, if_pos ⟨rfl, rfl⟩], by rw [v_w1_1, if_neg (by omega), v_w1_1, if_neg (by omega), v_w1_1, if_neg (by omega), v_w1_1, if_neg (by omega), v_w1_1, if_pos ⟨rfl, rfl⟩], by rw [v_w1_1, if_neg (by omega), v_w1_1, if_neg (by omega), v_w1_1, if_pos ⟨rfl, rfl⟩], by rw [v_w1_1, if_neg (by omega), v_w1_1, if_pos ⟨rfl, rfl⟩]⟩, fun a j q1 q2 q3 => by rw [v_w1_1, if_neg (by omega), v_w1_1, if_neg (by omega), v_w1_1, if_neg (by omega), v_w1_1, if_neg (by omega), v_w1_1, if_neg (by omega)]; rfl⟩
theorem y_changes (b c d : Int32) (t : vS) (h : 0 ≤ (t.1 151 23).toInt ∧ (t.1 151 23).toInt ≤ 40) : v_P (f_Md_changes c b d t) (fun r u => r = j_valM b c t ∧ (if (j_valM b c t).toInt = d.toInt then u = t else ∃ u0, j_ad4M b c (j_valM b c t) d (j_N (t.1 151 23).toInt) (j_H (t.1 151 23).toInt) t u0 ∧ u = j_setM b c d u0)) := by
  unfold f_Md_changes j_N j_H
  refine v_Pbi (y_valueAt b c t) ?_
  rintro r u ⟨rfl, rfl⟩
  generalize j_valM b c u = V
  by_cases hV : V.toInt = d.toInt
  · rw [if_pos hV]
    exact v_Pret ⟨rfl, by rw [if_pos hV]⟩
  · rw [if_neg hV]
    refine v_Plet ?_
    have e1 : (v_w1 u 151 24 0).1 151 23 = u.1 151 23 := v_w1_1.trans (if_neg (by omega))
    have e2 : (v_w1 u 151 24 0).1 151 24 = 0 := v_w1_1.trans (if_pos ⟨rfl, rfl⟩)
    have e3 : ∀ a j, ¬ a = 151 → (v_w1 u 151 24 0).1 a j = u.1 a j := fun a j q => v_w1_1.trans (if_neg (fun z => q z.1))
    have e4 : j_E (fun a j => ¬ ((166 ≤ a ∧ a ≤ 169) ∨ (a = 151 ∧ 23 ≤ j ∧ j ≤ 24))) u (v_w1 u 151 24 0) := j_E_w1 j_E_rf (fun q => q (by omega))
    generalize v_w1 u 151 24 0 = w at e1 e2 e3 e4 ⊢
    rw [e1]
    by_cases h4 : (u.1 151 23).toInt = 40
    · rw [if_pos h4, if_pos h4, if_pos h4]
      refine y_chL (s0 := w) (fun x hE hr => ?_) 4096 1 w (by decide) (by decide) j_E_rf (fun a j _ _ => by rw [if_neg (by show ¬ ((j : Int) + 1 < 1); omega)])
      refine v_Plet ?_
      have f1 : (v_w1 x 151 23 (x.1 151 23 - 1)).1 151 23 = x.1 151 23 - 1 := v_w1_1.trans (if_pos ⟨rfl, rfl⟩)
      have f2 : x.1 151 23 = u.1 151 23 := (hE 151 23 (by omega)).trans e1
      have f3 : (v_w1 x 151 23 (x.1 151 23 - 1)).1 151 24 = 0 := by rw [v_w1_1, if_neg (by omega), hE 151 24 (by omega), e2]
      have f4 : ∀ a j, ¬ a = 151 → (v_w1 x 151 23 (x.1 151 23 - 1)).1 a j = x.1 a j := fun a j q => v_w1_1.trans (if_neg (fun z => q z.1))
      have f5 : j_E (fun a j => ¬ ((166 ≤ a ∧ a ≤ 169) ∨ (a = 151 ∧ 23 ≤ j ∧ j ≤ 24))) x (v_w1 x 151 23 (x.1 151 23 - 1)) := j_E_w1 j_E_rf (fun q => q (by omega))
      have f6 : (x.1 151 23 - 1).toInt = 39 := by
        rw [f2, v_sub (y := 1) (show -2147483648 ≤ (u.1 151 23).toInt - 1 by omega) (show (u.1 151 23).toInt - 1 < 2147483648 by omega)]
        show (u.1 151 23).toInt - 1 = 39
        omega
      generalize v_w1 x 151 23 (x.1 151 23 - 1) = y at f1 f3 f4 f5 ⊢
      refine v_Pm2 (y_ad4M b c V d (s := y) (n := 39) (by rw [f1, f6]; rfl) (by rw [f3]; rfl) V) ?_
      rintro r z ⟨rfl, u0, ⟨g1, g2, g3, g4⟩, rfl⟩
      refine ⟨rfl, ?_⟩
      rw [if_neg hV]
      refine ⟨u0, ⟨j_E_tr e4 (j_E_tr (j_E_im hE (fun a j q => by omega)) (j_E_tr f5 g1)), g2, g3, fun a j q1 q2 q3 => ?_⟩, rfl⟩
      rw [g4 a j q1 q2 q3, f4 a _ (by omega), Nat.add_zero, hr a _ q1 q2 q3, e3 a _ (by omega)]
    · rw [if_neg h4, if_neg h4, if_neg h4]
      rw [← e1]
      refine v_Pm2 (y_ad4M b c V d (s := w) (n := (w.1 151 23).toInt.toNat) (by rw [e1]; omega) (by rw [e2]; rfl) V) ?_
      rintro r z ⟨rfl, u0, ⟨g1, g2, g3, g4⟩, rfl⟩
      refine ⟨rfl, ?_⟩
      rw [if_neg hV]
      refine ⟨u0, ⟨j_E_tr e4 g1, g2, g3, fun a j q1 q2 q3 => ?_⟩, rfl⟩
      rw [g4 a j q1 q2 q3, e3 a _ (by omega)]
theorem j_val_ok {b c d : Int32} {s : vS} (h : j_ran s) (hy : j_may b c d (s.1 8 1).toInt) (hm : (s.1 8 1).toInt ≤ 10) : j_ok c.toInt (j_valC b c s) := by
  unfold j_valC
  have hl : (0 ≤ b.toInt ∧ b.toInt < (s.1 8 1).toInt) → j_ok 0 (s.1 (23 + 5 * b.toNatClampNeg) 1) ∧ j_ok 1 (s.1 (23 + 5 * b.toNatClampNeg) 2) ∧ j_ok 2 (s.1 (23 + 5 * b.toNatClampNeg) 3) := fun q => h.1 b.toNatClampNeg (by rw [v_nc]; omega) (by rw [v_nc]; omega)
  rcases hy with q | q | q | q | q
  · rw [if_pos q.1, q.1]
    exact (hl q.2.1).1
  · rw [if_neg (by omega), if_pos q.1, q.1]
    exact (hl q.2.1).2.1
  · rw [if_neg (by omega), if_neg (by omega), if_pos q.1, q.1]
    exact (hl q.2.1).2.2
  · rw [if_neg (by omega), if_neg (by omega), if_neg (by omega), if_pos q.1, q.1]
    exact h.2.1.1
  · rw [if_neg (by omega), if_neg (by omega), if_neg (by omega), if_neg (by omega), q.1]
    exact h.2.1.2
def jp_mend (a j : Nat) : Prop := (73 ≤ a ∧ a ≤ 77) ∨ (a = 151 ∧ 23 ≤ j ∧ j ≤ 24) ∨ (166 ≤ a ∧ a ≤ 169) ∨ (23 ≤ a ∧ a ≤ 68 ∧ a % 5 = 3 ∧ 1 ≤ j ∧ j ≤ 3) ∨ (a = 8 ∧ 2 ≤ j ∧ j ≤ 3) ∨ (160 ≤ a ∧ a ≤ 162) ∨ (a = 151 ∧ 18 ≤ j ∧ j ≤ 19)
theorem j_mend_w {s t s2 t2 : vS} (h : j_R s t) (hs : j_E (fun a j => ¬ jp_mend a j) s s2) (ht : j_E (fun a j => ¬ jp_mend a j) t t2) (hl : j_law s2 t2 ∧ j_rt s2 t2) (hc : j_chg s2 t2) (hn : j_ran s2) : j_R s2 t2 :=
  j_mix jp_mend h hs ht (Or.inl (fun a j q z => by unfold jb_many at q; unfold jp_mend at z; omega)) (Or.inl (fun a j q z => by unfold jb_tape at q; unfold jp_mend at z; omega)) (Or.inl (fun a j q z => by unfold jb_num at q; unfold jp_mend at z; omega)) (Or.inr hl.1) (Or.inr hl.2) (Or.inl (fun a j q z => by unfold jb_textC jb_textM at q; unfold jp_mend at z; omega)) (Or.inl (fun a j q z => by unfold jb_word at q; unfold jp_mend at z; omega)) (Or.inl (fun a j q z => by unfold jb_img at q; unfold jp_mend at z; omega)) (Or.inr hc) (Or.inr hn)
def j_mdC (b c d : Int32) (s : vS) (r : Int32) (s1 : vS) : Prop := if j_may b c d (s.1 8 1).toInt then r = j_valC b c s ∧ (if (j_valC b c s).toInt = d.toInt then s1 = s else ∃ s0, j_ad4 b c (j_valC b c s) d (j_N (s.1 73 0).toInt) (j_H (s.1 73 0).toInt) s s0 ∧ s1 = j_setC b c d s0) else r = -2000000000 ∧ s1 = s
def j_mdM (b c d : Int32) (t : vS) (r : Int32) (t1 : vS) : Prop := if j_may b c d (t.1 151 14).toInt then r = j_valM b c t ∧ (if (j_valM b c t).toInt = d.toInt then t1 = t else ∃ u0, j_ad4M b c (j_valM b c t) d (j_N (t.1 151 23).toInt) (j_H (t.1 151 23).toInt) t u0 ∧ t1 = j_setM b c d u0) else r = -2000000000 ∧ t1 = t
theorem y_Ol_mend (b c d : Int32) (s : vS) (hm : (s.1 8 1).toInt ≤ 10) (h : 0 ≤ (s.1 73 0).toInt ∧ (s.1 73 0).toInt ≤ 40) : v_P (f_Ol_mend b c d s) (j_mdC b c d s) := by
  unfold f_Ol_mend j_mdC
  rw [y_may, v_bi_some, v_bif]
  by_cases hy : j_may b c d (s.1 8 1).toInt
  · rw [if_pos hy]
    have hb : 0 ≤ b.toInt ∧ b.toInt ≤ 9 := by unfold j_may at hy; omega
    have hc : 0 ≤ c.toInt ∧ c.toInt ≤ 4 := by unfold j_may at hy; omega
    refine v_Pm2 (Q := fun r s1 => r = j_valC b c s ∧ (if (j_valC b c s).toInt = d.toInt then s1 = s else ∃ s0, j_ad4 b c (j_valC b c s) d (j_N (s.1 73 0).toInt) (j_H (s.1 73 0).toInt) s s0 ∧ s1 = j_setC b c d s0)) ?_ (fun r t ht => by rw [if_pos hy]; exact ht)
    refine v_Pbi (y_valueOf b c s hb hc) ?_
    rintro r u ⟨rfl, rfl⟩
    by_cases hV : (j_valC b c u).toInt = d.toInt
    · rw [if_pos hV]
      exact v_Pret ⟨rfl, by rw [if_pos hV]⟩
    · rw [if_neg hV]
      refine v_Pbi (y_add b c (j_valC b c u) d u h) ?_
      intro _ w hw
      refine v_Pbi (y_set b c d w hb hc) ?_
      rintro _ x rfl
      exact v_Pret ⟨rfl, by rw [if_neg hV]; exact ⟨w, hw, rfl⟩⟩
  · rw [if_neg hy]
    exact v_Pret (by rw [if_neg hy]; exact ⟨rfl, rfl⟩)
theorem y_Md_mend (b c d : Int32) (t : vS) (hm : 0 ≤ (t.1 151 14).toInt) (h : 0 ≤ (t.1 151 23).toInt ∧ (t.1 151 23).toInt ≤ 40) : v_P (f_Md_mend b c d t) (j_mdM b c d t) := by
  have hno : ¬ j_may b c d (t.1 151 14).toInt → v_P (some ((-2000000000 : Int32), t)) (j_mdM b c d t) := fun hy => v_Pret (by unfold j_mdM; rw [if_neg hy]; exact ⟨rfl, rfl⟩)
  have hgo : j_may b c d (t.1 151 14).toInt → ∀ c2, c2 = c → v_P (v_bi (f_Md_changes c2 b d t) (fun r7 s7 => some (r7, s7))) (j_mdM b c d t) := fun hy c2 e => by
    subst e
    exact v_Pbi (y_changes b c2 d t h) (fun r u hu => v_Pret (by unfold j_mdM; rw [if_pos hy]; exact hu))
  unfold f_Md_mend
  by_cases h0 : c.toInt < 0 ∨ 4 < c.toInt
  · rw [if_pos h0]
    exact hno (by unfold j_may; omega)
  · rw [if_neg h0]
    by_cases h1 : c.toInt = 0
    · rw [if_pos h1, jz_isLaw b t hm, v_bi_some, v_bif]
      by_cases h2 : 0 ≤ b.toInt ∧ b.toInt < (t.1 151 14).toInt
      · rw [if_pos h2, z_in, v_bi_some, v_bif]
        by_cases h3 : 0 ≤ d.toInt ∧ d.toInt ≤ 99
        · rw [if_pos (show (0 : Int32).toInt ≤ d.toInt ∧ d.toInt ≤ (99 : Int32).toInt from h3)]
          exact hgo (Or.inl ⟨h1, h2, h3⟩) 0 (Int32.toInt_inj.mp (by rw [h1]; rfl))
        · rw [if_neg (show ¬ ((0 : Int32).toInt ≤ d.toInt ∧ d.toInt ≤ (99 : Int32).toInt) from h3)]
          exact hno (by unfold j_may; omega)
      · rw [if_neg h2]
        exact hno (by unfold j_may; omega)
    · rw [if_neg h1]
      by_cases h1 : c.toInt = 1
      · rw [if_pos h1, jz_isLaw b t hm, v_bi_some, v_bif]
        by_cases h2 : 0 ≤ b.toInt ∧ b.toInt < (t.1 151 14).toInt
        · rw [if_pos h2, z_in, v_bi_some, v_bif]
          by_cases h3 : 0 ≤ d.toInt ∧ d.toInt ≤ 2
          · rw [if_pos (show (0 : Int32).toInt ≤ d.toInt ∧ d.toInt ≤ (2 : Int32).toInt from h3)]
            exact hgo (Or.inr (Or.inl ⟨h1, h2, h3⟩)) 1 (Int32.toInt_inj.mp (by rw [h1]; rfl))
          · rw [if_neg (show ¬ ((0 : Int32).toInt ≤ d.toInt ∧ d.toInt ≤ (2 : Int32).toInt) from h3)]
            exact hno (by unfold j_may; omega)
        · rw [if_neg h2]
          exact hno (by unfold j_may; omega)
      · rw [if_neg h1]
        by_cases h1 : c.toInt = 2
        · rw [if_pos h1, jz_isLaw b t hm, v_bi_some, v_bif]
          by_cases h2 : 0 ≤ b.toInt ∧ b.toInt < (t.1 151 14).toInt
          · rw [if_pos h2, z_in, v_bi_some, v_bif]
            by_cases h3 : -1 ≤ d.toInt ∧ d.toInt ≤ 9
            · rw [if_pos (show (-1 : Int32).toInt ≤ d.toInt ∧ d.toInt ≤ (9 : Int32).toInt from h3)]
              exact hgo (Or.inr (Or.inr (Or.inl ⟨h1, h2, h3⟩))) 2 (Int32.toInt_inj.mp (by rw [h1]; rfl))
            · rw [if_neg (show ¬ ((-1 : Int32).toInt ≤ d.toInt ∧ d.toInt ≤ (9 : Int32).toInt) from h3)]
              exact hno (by unfold j_may; omega)
          · rw [if_neg h2]
            exact hno (by unfold j_may; omega)
        · rw [if_neg h1]
          have hg0 : ∀ c2, j_may b c d (t.1 151 14).toInt → b.toInt = 0 → c2 = c → v_P (v_bi (f_Md_changes c2 0 d t) (fun r7 s7 => some (r7, s7))) (j_mdM b c d t) := fun c2 hy h5 e => by
            have e2 : (0 : Int32) = b := Int32.toInt_inj.mp (by rw [h5]; rfl)
            rw [e2]
            exact hgo hy c2 e
          by_cases h1 : c.toInt = 3
          · rw [if_pos h1]
            by_cases h5 : b.toInt = 0
            · rw [if_pos h5, z_in, v_bi_some, v_bif]
              by_cases h3 : 0 ≤ d.toInt ∧ d.toInt ≤ 3
              · rw [if_pos (show (0 : Int32).toInt ≤ d.toInt ∧ d.toInt ≤ (3 : Int32).toInt from h3)]
                exact hg0 3 (Or.inr (Or.inr (Or.inr (Or.inl ⟨h1, h5, h3⟩)))) h5 (Int32.toInt_inj.mp (by rw [h1]; rfl))
              · rw [if_neg (show ¬ ((0 : Int32).toInt ≤ d.toInt ∧ d.toInt ≤ (3 : Int32).toInt) from h3)]
                exact hno (by unfold j_may; omega)
            · rw [if_neg h5]
              exact hno (by unfold j_may; omega)
          · rw [if_neg h1]
            by_cases h5 : b.toInt = 0
            · rw [if_pos h5, z_in, v_bi_some, v_bif]
              by_cases h3 : 0 ≤ d.toInt ∧ d.toInt ≤ 99
              · rw [if_pos (show (0 : Int32).toInt ≤ d.toInt ∧ d.toInt ≤ (99 : Int32).toInt from h3)]
                exact hg0 4 (Or.inr (Or.inr (Or.inr (Or.inr ⟨by omega, h5, h3⟩)))) h5 (Int32.toInt_inj.mp (by rw [show c.toInt = 4 by omega]; rfl))
              · rw [if_neg (show ¬ ((0 : Int32).toInt ≤ d.toInt ∧ d.toInt ≤ (99 : Int32).toInt) from h3)]
                exact hno (by unfold j_may; omega)
            · rw [if_neg h5]
              exact hno (by unfold j_may; omega)
theorem j_mend {s t : vS} (h : j_R s t) (hR : v_RI t) (b c d : Int32) : j_S (f_Ol_mend b c d s) (f_Md_mend b c d t) := by
  have hb := hR.2.2.1
  have hm := hR.1.1
  have em : s.1 8 1 = t.1 151 14 := h.1
  obtain ⟨c1, c2, c3⟩ := h.2.2.2.2.2.2.2.2.1
  refine j_SP (y_Ol_mend b c d s (by rw [em]; exact hm.2) (by rw [c1]; omega)) (y_Md_mend b c d t hm.1 (by omega)) ?_
  intro r1 s1 r2 t1 p1 p2
  unfold j_mdC at p1
  unfold j_mdM at p2
  rw [em] at p1
  by_cases hy : j_may b c d (t.1 151 14).toInt
  · rw [if_pos hy] at p1 p2
    have hB : 0 ≤ b.toInt ∧ b.toInt ≤ 9 := by unfold j_may at hy; omega
    have hC : 0 ≤ c.toInt ∧ c.toInt ≤ 4 := by unfold j_may at hy; omega
    have hv : j_valC b c s = j_valM b c t := j_val ⟨h.2.2.2.1, h.2.2.2.2.1⟩ (fun q => by rw [em]; unfold j_may at hy; omega)
    rw [hv, c1] at p1
    obtain ⟨rfl, p1⟩ := p1
    obtain ⟨rfl, p2⟩ := p2
    refine ⟨?_, rfl⟩
    have hv2 := hv
    have hy2 : j_may b c d (s.1 8 1).toInt := by rw [em]; exact hy
    generalize j_valM b c t = V at p1 p2 hv2
    by_cases hV : V.toInt = d.toInt
    · rw [if_pos hV] at p1 p2
      rw [p1, p2]
      exact h
    · rw [if_neg hV] at p1 p2
      obtain ⟨s0, ⟨g1, ⟨g2, g3⟩, ⟨g4, g5, g6, g7⟩, g8⟩, rfl⟩ := p1
      obtain ⟨u0, ⟨f1, ⟨f2, f3⟩, ⟨f4, f5, f6, f7⟩, f8⟩, rfl⟩ := p2
      have hlr : j_law s0 u0 ∧ j_rt s0 u0 := ⟨j_lawE h.2.2.2.1 (j_E_im g1 (fun a j q => by unfold jb_law at q; omega)) (j_E_im f1 (fun a j q => by unfold jb_law at q; omega)), j_rtE h.2.2.2.2.1 (j_E_im g1 (fun a j q => by unfold jb_rt at q; omega)) (j_E_im f1 (fun a j q => by unfold jb_rt at q; omega))⟩
      have hC2 : j_E jb_chg s0 (j_setC b c d s0) := j_E_setC b c d s0 hB.2 (fun a j q => by unfold jb_chg at q; omega)
      have hM2 : j_E jb_chg u0 (j_setM b c d u0) := j_E_setM b c d u0 (fun a j q => by unfold jb_chg at q; omega)
      have hrn := h.2.2.2.2.2.2.2.2.2
      have hVok : j_ok c.toInt V := hv2 ▸ j_val_ok hrn hy2 (by rw [em]; exact hm.2)
      have hdok : j_ok c.toInt d := by unfold j_may at hy; unfold j_ok; omega
      have hN : j_N (t.1 151 23).toInt ≤ 39 ∧ (j_N (t.1 151 23).toInt : Int) + j_H (t.1 151 23).toInt ≤ (t.1 151 23).toInt := by
        unfold j_N j_H
        by_cases h4 : (t.1 151 23).toInt = 40
        · rw [if_pos h4, if_pos h4]; omega
        · rw [if_neg h4, if_neg h4]; omega
      generalize j_N (t.1 151 23).toInt = n at *
      generalize j_H (t.1 151 23).toInt = sh at *
      refine j_mend_w h (j_E_tr (j_E_im g1 (fun a j q => by unfold jp_mend at q; omega)) (j_E_setC b c d s0 hB.2 (fun a j q z => q (by unfold jp_mend; omega)))) (j_E_tr (j_E_im f1 (fun a j q => by unfold jp_mend at q; omega)) (j_E_setM b c d u0 (fun a j q z => q (by unfold jp_mend; omega)))) (j_set hlr b c d) (j_chgE ?_ hC2 hM2) (j_ran_set ?_ hB hC hdok)
      case refine_2 =>
        have e1 : ∀ a j, ¬ (73 ≤ a ∧ a ≤ 77) → s0.1 a j = s.1 a j := fun a j q => g1 a j q
        refine ⟨fun k hk hk9 => ?_, ?_, fun k hk hk9 => ?_, fun j hj => ?_⟩
        · rw [e1 8 1 (by omega)] at hk
          rw [e1 _ _ (by omega), e1 _ _ (by omega), e1 _ _ (by omega)]
          exact hrn.1 k hk hk9
        · rw [e1 8 2 (by omega), e1 8 3 (by omega)]
          exact hrn.2.1
        · rw [e1 0 11 (by omega)] at hk
          rw [e1 _ _ (by omega), e1 _ _ (by omega), e1 _ _ (by omega)]
          exact hrn.2.2.1 k hk hk9
        · rw [g3] at hj
          by_cases hz : j = n
          · subst hz
            rw [g5, g6, g7]
            exact ⟨hVok, hdok⟩
          · rw [g8 75 j (by decide) (by decide) (by omega), g8 76 j (by decide) (by decide) (by omega), g8 77 j (by decide) (by decide) (by omega)]
            exact hrn.2.2.2 (j + sh) (by rw [c2]; omega)
      refine ⟨Int32.toInt_inj.mp (by rw [g2, f2]), by rw [g3, f2, f3]; omega, fun j hj => ?_⟩
      rw [g3] at hj
      by_cases hz : j = n
      · subst hz
        rw [g4, g5, g6, g7, f4, f5, f6, f7]
        exact ⟨⟨hB, hC⟩, rfl, rfl, rfl, rfl⟩
      · rw [g8 74 j (by decide) (by decide) (by omega), g8 75 j (by decide) (by decide) (by omega), g8 76 j (by decide) (by decide) (by omega), g8 77 j (by decide) (by decide) (by omega), f8 166 j (by decide) (by decide) (by omega), f8 167 j (by decide) (by decide) (by omega), f8 168 j (by decide) (by decide) (by omega), f8 169 j (by decide) (by decide) (by omega)]
        exact c3 (j + sh) (by rw [c2]; omega)
  · rw [if_neg hy] at p1 p2
    obtain ⟨rfl, rfl⟩ := p1
    obtain ⟨rfl, rfl⟩ := p2
    exact ⟨h, rfl⟩
