/-! the bodies: both sides count them alike; body and keep answer alike -/
def v_I2 (s : vS) : Prop := v_I s ∧ s.1 132 0 = s.1 151 42
theorem j_c {α : Type} {P : Nat → Nat → Prop} {s : vS} {o : Option (α × vS)} (hP : ∀ a j, P a j → a < 151 ∧ ¬ (a = 132 ∧ j = 0)) (h : v_T o (fun _ t => v_CI t ∧ v_F P s t)) : v_T o (fun _ t => (v_CI t ∧ v_lo s t) ∧ t.1 132 0 = s.1 132 0) :=
  v_Tm h (fun _ t ht => ⟨⟨ht.1, fun a j ha => (ht.2 a j (fun z => by have := hP a j z; omega)).1⟩, (ht.2 132 0 (fun z => (hP _ _ z).2 ⟨rfl, rfl⟩)).1⟩)
theorem j_m {α : Type} {P : Nat → Nat → Prop} {s : vS} {o : Option (α × vS)} (hP : ∀ a j, P a j → 151 ≤ a ∧ ¬ (a = 151 ∧ j = 42)) (h : v_T o (fun _ t => v_RI t ∧ v_F P s t)) : v_T o (fun _ t => (v_RI t ∧ v_hi s t) ∧ t.1 151 42 = s.1 151 42) :=
  v_Tm h (fun _ t ht => ⟨⟨ht.1, fun a j ha => (ht.2 a j (fun z => by have := hP a j z; omega)).1⟩, (ht.2 151 42 (fun z => (hP _ _ z).2 ⟨rfl, rfl⟩)).1⟩)
theorem j_cn {α : Type} {s : vS} {o : Option (α × vS)} (hs : v_CI s) (h : v_T o (fun _ t => t = s)) : v_T o (fun _ t => (v_CI t ∧ v_lo s t) ∧ t.1 132 0 = s.1 132 0) :=
  v_Tm h (fun _ t e => by subst e; exact ⟨⟨hs, fun _ _ _ => rfl⟩, rfl⟩)
theorem j_mn {α : Type} {s : vS} {o : Option (α × vS)} (hs : v_RI s) (h : v_T o (fun _ t => t = s)) : v_T o (fun _ t => (v_RI t ∧ v_hi s t) ∧ t.1 151 42 = s.1 151 42) :=
  v_Tm h (fun _ t e => by subst e; exact ⟨⟨hs, fun _ _ _ => rfl⟩, rfl⟩)
theorem j_step {α β : Type} {s : vS} {o : Option (α × vS)} {f : vS → Option (β × vS)} (h : v_I2 s) (h1 : v_T o (fun _ t => (v_CI t ∧ v_lo s t) ∧ t.1 132 0 = s.1 132 0)) (h2 : ∀ t, v_RI t → v_T (f t) (fun _ u => (v_RI u ∧ v_hi t u) ∧ u.1 151 42 = t.1 151 42)) : v_T o (fun _ s1 => v_T (f s1) (fun _ s2 => v_I2 s2)) :=
  v_Tm h1 (fun _ t ht => v_Tm (h2 t (v_RI_lo h.1.2 ht.1.2)) (fun _ u hu => ⟨⟨v_CI_hi ht.1.1 hu.1.2, hu.1.1⟩, by
    rw [hu.1.2 132 0 (by decide), ht.2, hu.2, ht.1.2 151 42 (by decide)]
    exact h.2⟩))
/-- a step whose answers, and what it makes of the count, are worked out of the count -/
theorem j_stepE {s : vS} {x y : Int32 → Int32} {o : Option (Int32 × vS)} {f : vS → Option (Int32 × vS)} (h : v_I2 s) (h1 : v_T o (fun _ t => v_CI t ∧ v_lo s t)) (h2 : ∀ t, v_RI t → v_T (f t) (fun _ u => v_RI u ∧ v_hi t u)) (e1 : v_T o (fun r t => r = x (s.1 132 0) ∧ t.1 132 0 = y (s.1 132 0))) (e2 : ∀ t, v_RI t → v_T (f t) (fun r u => r = x (t.1 151 42) ∧ u.1 151 42 = y (t.1 151 42))) : v_T o (fun r1 s1 => v_T (f s1) (fun r2 s2 => v_I2 s2 ∧ r1 = r2)) :=
  v_Tm (v_Tand h1 e1) (fun _ t ht => by
    have hr := v_RI_lo h.1.2 ht.1.2
    have et : t.1 151 42 = s.1 132 0 := by rw [ht.1.2 151 42 (by decide)]; exact h.2.symm
    exact v_Tm (v_Tand (h2 t hr) (e2 t hr)) (fun _ u hu => ⟨⟨⟨v_CI_hi ht.1.1 hu.1.2, hu.1.1⟩, by
      rw [hu.1.2 132 0 (by decide), ht.2.2, hu.2.2, et]⟩, by rw [ht.2.1, hu.2.1, et]⟩))
theorem j_stepN {s : vS} {o : Option (Int32 × vS)} {f : vS → Option (Int32 × vS)} {x y : Int32 → Int32} (h : v_I2 s) (h1 : v_T o (fun _ t => v_CI t ∧ v_lo s t)) (h2 : ∀ t, v_RI t → v_T (f t) (fun _ u => v_RI u ∧ v_hi t u)) (e1 : v_T o (fun r t => r = x (s.1 132 0) ∧ t.1 132 0 = y (s.1 132 0))) (e2 : ∀ t, v_RI t → v_T (f t) (fun r u => r = x (t.1 151 42) ∧ u.1 151 42 = y (t.1 151 42))) : v_T o (fun _ s1 => v_T (f s1) (fun _ s2 => v_I2 s2)) :=
  v_Tm (j_stepE h h1 h2 e1 e2) (fun _ _ ht => v_Tm ht (fun _ _ hu => hu.1))
theorem j_cA : ∀ a j, c_A a j → a < 151 ∧ ¬ (a = 132 ∧ j = 0) := fun a j h => by unfold c_A at h; omega
theorem j_cS : ∀ a j, c_S a j → a < 151 ∧ ¬ (a = 132 ∧ j = 0) := fun a j h => by unfold c_S at h; omega
theorem j_cac : ∀ a j, c_ac a j → a < 151 ∧ ¬ (a = 132 ∧ j = 0) := fun a j h => by unfold c_ac at h; omega
theorem j_mA : ∀ a j, m_A a j → 151 ≤ a ∧ ¬ (a = 151 ∧ j = 42) := fun a j h => by unfold m_A at h; omega
theorem j_mS : ∀ a j, m_S a j → 151 ≤ a ∧ ¬ (a = 151 ∧ j = 42) := fun a j h => by unfold m_S at h; omega
theorem j_cact (b c d : Int32) (s : vS) (h : v_CI s) : v_T (f_Ol_act b c d s) (fun _ t => (v_CI t ∧ v_lo s t) ∧ t.1 132 0 = s.1 132 0) :=
  j_c j_cac (v_Tm (v_Tand (c_act b c d s h) (q_Olact b c d s h.2.1)) (fun _ t ht => ⟨ht.1.1, ht.2⟩))
theorem j_mact (b c d : Int32) (s : vS) (h : v_RI s) : v_T (f_Md_act b c d s) (fun _ t => (v_RI t ∧ v_hi s t) ∧ t.1 151 42 = s.1 151 42) :=
  v_Tm (m_act2 b c d s h) (fun _ t ht => ⟨⟨ht.1.1, fun a j ha => (ht.1.2 a j (fun z => by have := i_mB a j z; omega)).1⟩, ht.2⟩)
theorem v_I20 : v_I2 v_s0 := ⟨v_I0, by decide +kernel⟩
def z_body (b n : Int32) : Int32 := if 0 ≤ b.toInt ∧ b.toInt ≤ 7 then (if n.toInt = 50 then -3 else n) else -1
def z_many (b n : Int32) : Int32 := if 0 ≤ b.toInt ∧ b.toInt ≤ 7 then (if n.toInt = 50 then n else n + 1) else n
theorem v_up (n : Int32) : n + 1 - 1 = n := by
  apply Int32.toBitVec_inj.mp
  rw [Int32.toBitVec_sub, Int32.toBitVec_add, BitVec.add_sub_cancel]
theorem z_Ol_body (b : Int32) (s : vS) (h : v_CI s) : v_T (f_Ol_body b s) (fun r t => r = z_body b (s.1 132 0) ∧ t.1 132 0 = z_many b (s.1 132 0)) := by
  have hm := h.2.2
  unfold f_Ol_body z_body z_many
  by_cases h1 : 0 ≤ b.toInt ∧ b.toInt ≤ 7
  · rw [show f_Cl_isKind b s = some (1, s) from by unfold f_Cl_isKind; rw [if_neg (by omega), if_neg (by omega)], v_bi_some, if_neg (by decide), if_pos h1, if_pos h1]
    unfold f_Cl_add
    rw [if_neg (show ¬ (s.1 132 0).toInt < 0 by omega)]
    by_cases h2 : (s.1 132 0).toInt = 50
    · rw [if_neg (show ¬ (s.1 132 0).toInt < 50 by omega), v_bi_some, if_neg (by decide), if_pos h2, if_pos h2]
      exact v_Tret ⟨rfl, rfl⟩
    · rw [if_pos (show (s.1 132 0).toInt < 50 by omega), if_pos (show v_in (s.1 132 0) 50 from ⟨by omega, by omega⟩), if_neg h2, if_neg h2]
      refine v_Tbi (P := fun r t => r = s.1 132 0 ∧ t.1 132 0 = s.1 132 0 + 1) (v_Tlet (v_Tlet (v_Tret ⟨?_, ?_⟩))) ?_
      · rw [v_w1_1, if_pos ⟨rfl, rfl⟩, v_w1_1, if_neg (by omega), v_up]
      · rw [v_w1_1, if_pos ⟨rfl, rfl⟩, v_w1_1, if_neg (by omega)]
      · rintro r t ⟨rfl, ht⟩
        rw [if_pos (show 0 ≤ (s.1 132 0).toInt by omega)]
        exact v_Tret ⟨rfl, ht⟩
  · rw [show f_Cl_isKind b s = some (0, s) from by
      unfold f_Cl_isKind
      by_cases h3 : b.toInt < 0
      · rw [if_pos h3]
      · rw [if_neg h3, if_pos (by omega)], v_bi_some, if_pos (by decide), if_neg h1, if_neg h1]
    exact v_Tret ⟨rfl, rfl⟩
theorem y_in (b c d : Int32) (s : vS) : f_Md_in b c d s = some (v_b (c.toInt ≤ b.toInt ∧ b.toInt ≤ d.toInt), s) := by
  unfold f_Md_in
  by_cases h1 : b.toInt < c.toInt
  · rw [if_pos h1, v_b_neg (by omega)]
  · rw [if_neg h1]
    by_cases h2 : d.toInt < b.toInt
    · rw [if_pos h2, v_b_neg (by omega)]
    · rw [if_neg h2, v_b_pos (by omega)]
theorem z_Md_body (b : Int32) (s : vS) (h : v_RI s) : v_T (f_Md_body b s) (fun r t => r = z_body b (s.1 151 42) ∧ t.1 151 42 = z_many b (s.1 151 42)) := by
  have hm := h.2.2.2.2.2.1
  unfold f_Md_body z_body z_many
  rw [y_in, v_bi_some, v_bif]
  by_cases h1 : 0 ≤ b.toInt ∧ b.toInt ≤ 7
  · rw [if_pos (show (0 : Int32).toInt ≤ b.toInt ∧ b.toInt ≤ (7 : Int32).toInt from h1), if_pos h1, if_pos h1]
    by_cases h2 : (s.1 151 42).toInt = 50
    · rw [if_pos h2, if_pos h2, if_pos h2]
      exact v_Tret ⟨rfl, rfl⟩
    · rw [if_neg h2, if_neg h2, if_neg h2, if_pos (show v_in (s.1 151 42) 50 from ⟨by omega, by omega⟩)]
      refine v_Tlet (v_Tlet (v_Tret ⟨?_, ?_⟩))
      · rw [v_w1_1, if_pos ⟨rfl, rfl⟩, v_w1_1, if_neg (by omega), v_up]
      · rw [v_w1_1, if_pos ⟨rfl, rfl⟩, v_w1_1, if_neg (by omega)]
  · rw [if_neg (show ¬ ((0 : Int32).toInt ≤ b.toInt ∧ b.toInt ≤ (7 : Int32).toInt) from h1), if_neg h1, if_neg h1]
    exact v_Tret ⟨rfl, rfl⟩
