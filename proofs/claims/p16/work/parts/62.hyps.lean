/-! both sides keep what they need: the law's loop runs to its end -/
theorem v_Tand {α : Type} {o : Option (α × vS)} {P Q : α → vS → Prop} (h1 : v_T o P) (h2 : v_T o Q) : v_T o (fun r t => P r t ∧ Q r t) := by
  obtain ⟨r, t, e, p⟩ := h1
  obtain ⟨r2, t2, e2, q⟩ := h2
  rw [e] at e2
  obtain ⟨rfl, rfl⟩ := v_so e2
  exact ⟨_, _, e, p, q⟩
def v_I (s : vS) : Prop := v_CI s ∧ v_RI s
def v_lo (s t : vS) : Prop := ∀ a j, 151 ≤ a → t.1 a j = s.1 a j
def v_hi (s t : vS) : Prop := ∀ a j, a < 151 → t.1 a j = s.1 a j
theorem v_RI_lo {s t : vS} (h : v_RI s) (hf : v_lo s t) : v_RI t := by
  obtain ⟨⟨a1, a2, a3⟩, h2, h3, h4, h5, h6, h7⟩ := h
  refine ⟨⟨?_, fun j hj => ?_, fun p hp => ?_⟩, ?_, ?_, fun j hj => ?_, ?_, ?_, fun j hj => ?_⟩
  · rw [hf 151 14 (by decide)]; exact a1
  · rw [hf 182 j (by decide)]; exact a2 j hj
  · rw [hf 151 14 (by decide)] at hp
    obtain ⟨acc, ht⟩ := a3 p hp
    exact ⟨acc, m_text_eq ht (hf _ _ (by decide)) (fun j _ _ => ⟨hf _ _ (by decide), hf _ _ (by decide)⟩) (fun j _ _ => ⟨hf _ _ (by decide), hf _ _ (by decide)⟩)⟩
  · rw [hf 151 2 (by decide)]; exact h2
  · rw [hf 151 23 (by decide), hf 151 24 (by decide)]; exact h3
  · rw [hf 167 j (by decide)]; exact h4 j hj
  · rw [hf 151 36 (by decide)]; exact h5
  · rw [hf 151 42 (by decide)]; exact h6
  · rw [hf 181 j (by decide)]; exact h7 j hj
theorem v_CI_hi {s t : vS} (h : v_CI s) (hf : v_hi s t) : v_CI t := by
  obtain ⟨⟨⟨h1, h2⟩, h3⟩, h4, h5⟩ := h
  refine ⟨⟨⟨?_, fun a ha => ?_⟩, ?_⟩, fun j hj => ?_, ?_⟩
  · rw [hf 8 1 (by decide)]; exact h1
  · have h6 := v_k6 ha
    rw [hf a 2 (by omega)]; exact h2 a ha
  · rw [hf 0 11 (by decide)]; exact h3
  · rw [hf 133 j (by decide)]; exact h4 j hj
  · rw [hf 132 0 (by decide)]; exact h5
theorem i_c {α : Type} {P : Nat → Nat → Prop} {s : vS} {o : Option (α × vS)} (hP : ∀ a j, P a j → a < 151) (h : v_T o (fun _ t => v_CI t ∧ v_F P s t)) : v_T o (fun _ t => v_CI t ∧ v_lo s t) :=
  v_Tm h (fun _ t ht => ⟨ht.1, fun a j ha => (ht.2 a j (fun z => by have := hP a j z; omega)).1⟩)
theorem i_m {α : Type} {P : Nat → Nat → Prop} {s : vS} {o : Option (α × vS)} (hP : ∀ a j, P a j → 151 ≤ a) (h : v_T o (fun _ t => v_RI t ∧ v_F P s t)) : v_T o (fun _ t => v_RI t ∧ v_hi s t) :=
  v_Tm h (fun _ t ht => ⟨ht.1, fun a j ha => (ht.2 a j (fun z => by have := hP a j z; omega)).1⟩)
theorem i_cn {α : Type} {s : vS} {o : Option (α × vS)} (hs : v_CI s) (h : v_T o (fun _ t => t = s)) : v_T o (fun _ t => v_CI t ∧ v_lo s t) :=
  v_Tm h (fun _ t e => by subst e; exact ⟨hs, fun _ _ _ => rfl⟩)
theorem i_mn {α : Type} {s : vS} {o : Option (α × vS)} (hs : v_RI s) (h : v_T o (fun _ t => t = s)) : v_T o (fun _ t => v_RI t ∧ v_hi s t) :=
  v_Tm h (fun _ t e => by subst e; exact ⟨hs, fun _ _ _ => rfl⟩)
theorem i_step {α β : Type} {s : vS} {o : Option (α × vS)} {f : vS → Option (β × vS)} (h : v_I s) (h1 : v_T o (fun _ t => v_CI t ∧ v_lo s t)) (h2 : ∀ t, v_RI t → v_T (f t) (fun _ u => v_RI u ∧ v_hi t u)) : v_T o (fun _ s1 => v_T (f s1) (fun _ s2 => v_I s2)) :=
  v_Tm h1 (fun _ t ht => v_Tm (h2 t (v_RI_lo h.2 ht.2)) (fun _ u hu => ⟨v_CI_hi ht.1 hu.2, hu.1⟩))
theorem i_stepE {α : Type} {s : vS} {x : α} {o : Option (α × vS)} {f : vS → Option (α × vS)} (h : v_I s) (h1 : v_T o (fun _ t => v_CI t ∧ v_lo s t)) (h2 : ∀ t, v_RI t → v_T (f t) (fun _ u => v_RI u ∧ v_hi t u)) (e1 : v_T o (fun r _ => r = x)) (e2 : ∀ t, v_T (f t) (fun r _ => r = x)) : v_T o (fun r1 s1 => v_T (f s1) (fun r2 s2 => v_I s2 ∧ r1 = r2)) :=
  v_Tm (v_Tand h1 e1) (fun _ t ht => v_Tm (v_Tand (h2 t (v_RI_lo h.2 ht.1.2)) (e2 t)) (fun _ u hu => ⟨⟨v_CI_hi ht.1.1 hu.1.2, hu.1.1⟩, ht.2.trans hu.2.symm⟩))
theorem i_cA : ∀ a j, c_A a j → a < 151 := fun a j h => by unfold c_A at h; omega
theorem i_cB : ∀ a j, c_B a j → a < 151 := fun a j h => by unfold c_B at h; omega
theorem i_cS : ∀ a j, c_S a j → a < 151 := fun a j h => by unfold c_S at h; omega
theorem i_mA : ∀ a j, m_A a j → 151 ≤ a := fun a j h => by unfold m_A at h; omega
theorem i_mB : ∀ a j, m_B a j → 151 ≤ a := fun a j h => by unfold m_B at h; omega
theorem i_mS : ∀ a j, m_S a j → 151 ≤ a := fun a j h => by unfold m_S at h; omega
theorem v_I0 : v_I v_s0 := by
  refine ⟨⟨⟨⟨by decide +kernel, fun a ha => ?_⟩, by decide +kernel⟩, ?_, by decide +kernel⟩, ⟨⟨by decide +kernel, ?_, fun p hp => ?_⟩, by decide +kernel, by decide +kernel, ?_, by decide +kernel, by decide +kernel, ?_⟩⟩
  · have h6 := v_k6 ha
    have hd : ∀ a, a < 151 → (a = 136 ∨ (139 ≤ a ∧ a ≤ 149 ∧ a % 2 = 1)) → 0 ≤ (v_s0.1 a 2).toInt ∧ (v_s0.1 a 2).toInt ≤ 60 := by decide +kernel
    exact hd a (by omega) h6
  · show ∀ j, j < 50 → 0 ≤ (v_s0.1 133 j).toInt ∧ (v_s0.1 133 j).toInt ≤ 7
    decide +kernel
  · decide +kernel
  · have e : (v_s0.1 151 14).toInt.toNat = 0 := by decide +kernel
    rw [e] at hp
    exact absurd hp (Nat.not_lt_zero p)
  · decide +kernel
  · decide +kernel
