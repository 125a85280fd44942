/-! the elements, alike where a shelf holds a row -/
def v_el (s : vS) : Prop := ∀ k, k < 6 → (s.1 181 k).toInt ≤ -2 → ∀ i, i < 60 → s.2 (140 + 2 * k) i = s.2 183 (60 * k + i)
def v_I5 (s : vS) : Prop := v_I3 s ∧ v_el s
theorem v_I50 : v_I5 v_s0 := ⟨v_I30, fun k hk h => by
  have hd : ∀ k, k < 6 → ¬ (v_s0.1 181 k).toInt ≤ -2 := by decide +kernel
  exact absurd h (hd k hk)⟩
def o_C (s t : vS) : Prop := v_CI t ∧ v_lo s t ∧ (∀ a j, 151 ≤ a → t.2 a j = s.2 a j) ∧ ∀ a j, 139 ≤ a → a ≤ 150 → t.2 a j = s.2 a j
def o_M (s t : vS) : Prop := (∀ a j, a < 151 → t.2 a j = s.2 a j) ∧ (∀ j, t.1 181 j = s.1 181 j) ∧ ∀ j, t.2 183 j = s.2 183 j
theorem o_c {α : Type} {P : Nat → Nat → Prop} {s : vS} {o : Option (α × vS)} (hP : ∀ a j, P a j → a < 139) (h : v_T o (fun _ t => v_CI t ∧ v_F P s t)) : v_T o (fun _ t => o_C s t) :=
  v_Tm h (fun _ t ht => ⟨ht.1, fun a j ha => (ht.2 a j (fun z => by have := hP a j z; omega)).1, fun a j ha => (ht.2 a j (fun z => by have := hP a j z; omega)).2, fun a j h1 h2 => (ht.2 a j (fun z => by have := hP a j z; omega)).2⟩)
theorem o_m {α : Type} {P : Nat → Nat → Prop} {s : vS} {o : Option (α × vS)} (hP : ∀ a j, P a j → 151 ≤ a ∧ a ≤ 180) (h : v_T o (fun _ t => v_RI t ∧ v_F P s t)) : v_T o (fun _ t => o_M s t) :=
  v_Tm h (fun _ t ht => ⟨fun a j ha => (ht.2 a j (fun z => by have := hP a j z; omega)).2, fun j => (ht.2 181 j (fun z => by have := hP _ j z; omega)).1, fun j => (ht.2 183 j (fun z => by have := hP _ j z; omega)).2⟩)
theorem o_cn {α : Type} {s : vS} {o : Option (α × vS)} (hs : v_CI s) (h : v_T o (fun _ t => t = s)) : v_T o (fun _ t => o_C s t) :=
  v_Tm h (fun _ t e => by subst e; exact ⟨hs, fun _ _ _ => rfl, fun _ _ _ => rfl, fun _ _ _ _ => rfl⟩)
theorem o_mn {α : Type} {s : vS} {o : Option (α × vS)} (h : v_T o (fun _ t => t = s)) : v_T o (fun _ t => o_M s t) :=
  v_Tm h (fun _ t e => by subst e; exact ⟨fun _ _ _ => rfl, fun _ => rfl, fun _ => rfl⟩)
theorem o_step {α β : Type} {s : vS} {o : Option (α × vS)} {f : vS → Option (β × vS)} (h : v_I5 s) (hj : v_T o (fun _ s1 => v_T (f s1) (fun _ s2 => v_I3 s2))) (hc : v_T o (fun _ t => o_C s t)) (hm : ∀ t, v_RI t → v_T (f t) (fun _ u => o_M t u)) : v_T o (fun _ s1 => v_T (f s1) (fun _ s2 => v_I5 s2)) :=
  v_Tm (v_Tand hj hc) (fun _ t ht => v_Tm (v_Tand ht.1 (hm t (v_RI_lo h.1.1.1.2 ht.2.2.1))) (fun _ u hu => ⟨hu.1, fun k hk hz i hi => by
    rw [hu.2.2.1 k, ht.2.2.1 181 k (by decide)] at hz
    rw [hu.2.1 (140 + 2 * k) i (by omega), ht.2.2.2.2 (140 + 2 * k) i (by omega) (by omega), hu.2.2.2 (60 * k + i), ht.2.2.2.1 183 _ (by decide)]
    exact h.2 k hk hz i hi⟩))
theorem o_keep {b c : Int32} {s : vS} (h : v_I5 s) (hj : v_T (f_Ol_keep b c s) (fun _ s1 => v_T (f_Md_keep b c s1) (fun _ s2 => v_I3 s2))) : v_T (f_Ol_keep b c s) (fun _ s1 => v_T (f_Md_keep b c s1) (fun _ s2 => v_I5 s2)) :=
  v_Tm (v_Tand hj (v_Tand (y_Ol_keep b c s) (i_c i_cS (c_keep b c s h.1.1.1.1)))) (fun _ t ht => v_Tm (v_Tand ht.1 (y_Md_keep b c t (v_RI_lo h.1.1.1.2 ht.2.2.2))) (fun _ u hu => ⟨hu.1, by
    have e := ht.2.1
    have hlo := ht.2.2.2
    have e2 := hu.2
    have hC2 : t.2 = s.2 := by
      rw [e]; unfold kC
      by_cases z1 : z_keep b c (s.1 132 0) = 1
      · rw [if_pos z1]
        by_cases z2 : c.toInt = -1
        · rw [if_pos z2]; rfl
        · rw [if_neg z2]; rfl
      · rw [if_neg z1]
    intro k hk hz i hi
    rw [e2] at hz ⊢
    unfold kM at hz ⊢
    by_cases z1 : z_keep b c (t.1 151 42) = 1
    · rw [if_pos z1] at hz ⊢
      rw [v_w1_1] at hz
      by_cases z2 : k = b.toNatClampNeg
      · rw [if_pos ⟨rfl, z2⟩] at hz
        have := (z_keep1 z1).2
        omega
      · rw [if_neg (fun q => z2 q.2), hlo 181 k (by decide)] at hz
        rw [v_w1_2, hC2]
        exact h.2 k hk hz i hi
    · rw [if_neg z1] at hz ⊢
      rw [hlo 181 k (by decide)] at hz
      rw [hC2]
      exact h.2 k hk hz i hi⟩))
