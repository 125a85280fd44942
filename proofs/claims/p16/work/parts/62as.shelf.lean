/-! the shelves: what they hold and their size, alike on both sides; put, shift, taken -/
def z_r0 (s : vS) (k : Nat) : Prop := ((s.1 181 k).toInt = -1 ∧ (s.1 (139 + 2 * k) 0).toInt = -1) ∨ (0 ≤ (s.1 181 k).toInt ∧ (s.1 (139 + 2 * k) 0).toInt = 5 ∧ s.1 (139 + 2 * k) 1 = s.1 181 k) ∨ (-6 ≤ (s.1 181 k).toInt ∧ (s.1 181 k).toInt ≤ -2 ∧ (s.1 (139 + 2 * k) 0).toInt = -2 - (s.1 181 k).toInt ∧ s.1 (139 + 2 * k) 2 = s.1 182 k)
theorem z_r0_eq {s t : vS} {k : Nat} (h : z_r0 s k) (h1 : ∀ j, t.1 (139 + 2 * k) j = s.1 (139 + 2 * k) j) (h2 : t.1 181 k = s.1 181 k) (h3 : t.1 182 k = s.1 182 k) : z_r0 t k := by
  unfold z_r0 at h ⊢
  rw [h1 0, h1 1, h1 2, h2, h3]
  exact h
def v_I3 (s : vS) : Prop := v_I2 s ∧ ∀ k, k < 6 → z_r0 s k
theorem v_I30 : v_I3 v_s0 := by
  refine ⟨v_I20, fun k hk => Or.inl ?_⟩
  have h : ∀ k, k < 6 → (v_s0.1 181 k).toInt = -1 ∧ (v_s0.1 (139 + 2 * k) 0).toInt = -1 := by decide +kernel
  exact h k hk
def v_P {α : Type} (o : Option (α × vS)) (P : α → vS → Prop) : Prop := ∀ r s, o = some (r, s) → P r s
theorem v_TP {α : Type} {o : Option (α × vS)} {P Q : α → vS → Prop} (h1 : v_T o P) (h2 : v_P o Q) : v_T o (fun r t => P r t ∧ Q r t) := by
  obtain ⟨r, t, e, p⟩ := h1
  exact ⟨r, t, e, p, h2 r t e⟩
theorem v_Pret {α : Type} {r : α} {s : vS} {P : α → vS → Prop} (h : P r s) : v_P (some (r, s)) P := fun _ _ e => by
  obtain ⟨rfl, rfl⟩ := v_so e
  exact h
theorem v_Pnone {α : Type} {P : α → vS → Prop} : v_P (none : Option (α × vS)) P := fun _ _ e => by cases e
theorem v_Pif {α : Type} {c : Prop} [Decidable c] {a b : Option (α × vS)} {Q : α → vS → Prop} (h1 : c → v_P a Q) (h2 : ¬ c → v_P b Q) : v_P (if c then a else b) Q := by
  by_cases h : c
  · rw [if_pos h]; exact h1 h
  · rw [if_neg h]; exact h2 h
theorem v_Pbi {α β : Type} {o : Option (α × vS)} {k : α → vS → Option (β × vS)} {P : α → vS → Prop} {Q : β → vS → Prop} (h : v_P o P) (hk : ∀ r s, P r s → v_P (k r s) Q) : v_P (v_bi o k) Q := fun r s e => by
  obtain ⟨r1, s1, e1, e2⟩ := v_bd e
  exact hk r1 s1 (h r1 s1 e1) r s e2
theorem v_PT {α : Type} {o : Option (α × vS)} {P : α → vS → Prop} (h : v_T o P) : v_P o P := fun r s e => by
  obtain ⟨r1, s1, e1, p⟩ := h
  rw [e1] at e
  obtain ⟨rfl, rfl⟩ := v_so e
  exact p
/-- what the class's side leaves -/
def k_C (s t : vS) : Prop := v_CI t ∧ v_lo s t ∧ ∀ k, k < 6 → ∀ j, t.1 (139 + 2 * k) j = s.1 (139 + 2 * k) j
def k_M (s t : vS) : Prop := v_hi s t ∧ ∀ j, t.1 181 j = s.1 181 j ∧ t.1 182 j = s.1 182 j
theorem k_c {α : Type} {P : Nat → Nat → Prop} {s : vS} {o : Option (α × vS)} (hP : ∀ a j, P a j → a < 139) (h : v_T o (fun _ t => v_CI t ∧ v_F P s t)) : v_T o (fun _ t => k_C s t) :=
  v_Tm h (fun _ t ht => ⟨ht.1, fun a j ha => (ht.2 a j (fun z => by have := hP a j z; omega)).1, fun k hk j => (ht.2 _ j (fun z => by have := hP _ j z; omega)).1⟩)
theorem k_m {α : Type} {P : Nat → Nat → Prop} {s : vS} {o : Option (α × vS)} (hP : ∀ a j, P a j → 151 ≤ a ∧ a ≤ 180) (h : v_T o (fun _ t => v_RI t ∧ v_F P s t)) : v_T o (fun _ t => k_M s t) :=
  v_Tm h (fun _ t ht => ⟨fun a j ha => (ht.2 a j (fun z => by have := hP a j z; omega)).1, fun j => ⟨(ht.2 181 j (fun z => by have := hP _ j z; omega)).1, (ht.2 182 j (fun z => by have := hP _ j z; omega)).1⟩⟩)
theorem k_cn {α : Type} {s : vS} {o : Option (α × vS)} (hs : v_CI s) (h : v_T o (fun _ t => t = s)) : v_T o (fun _ t => k_C s t) :=
  v_Tm h (fun _ t e => by subst e; exact ⟨hs, fun _ _ _ => rfl, fun _ _ _ => rfl⟩)
theorem k_mn {α : Type} {s : vS} {o : Option (α × vS)} (h : v_T o (fun _ t => t = s)) : v_T o (fun _ t => k_M s t) :=
  v_Tm h (fun _ t e => by subst e; exact ⟨fun _ _ _ => rfl, fun _ => ⟨rfl, rfl⟩⟩)
theorem k_c1 {α : Type} {P : Nat → Nat → Prop} {s : vS} {o : Option (α × vS)} (h : v_T o (fun _ t => v_CI t ∧ v_F P s t)) (h1 : v_P o (fun _ t => t.1 = s.1)) : v_T o (fun _ t => k_C s t) :=
  v_Tm (v_TP h h1) (fun _ t ht => ⟨ht.1.1, fun a j ha => by rw [ht.2], fun k hk j => by rw [ht.2]⟩)
theorem k_m1 {α : Type} {P : Nat → Nat → Prop} {s : vS} {o : Option (α × vS)} (h : v_T o (fun _ t => v_RI t ∧ v_F P s t)) (h1 : v_P o (fun _ t => t.1 = s.1)) : v_T o (fun _ t => k_M s t) :=
  v_Tm (v_TP h h1) (fun _ t ht => ⟨fun a j ha => by rw [ht.2], fun j => by rw [ht.2]; exact ⟨rfl, rfl⟩⟩)
theorem k_cA : ∀ a j, c_A a j → a < 139 := fun a j h => by unfold c_A at h; omega
theorem k_cB : ∀ a j, c_B a j → a < 139 := fun a j h => by unfold c_B at h; omega
theorem k_mA : ∀ a j, m_A a j → 151 ≤ a ∧ a ≤ 180 := fun a j h => by unfold m_A at h; omega
theorem k_mB : ∀ a j, m_B a j → 151 ≤ a ∧ a ≤ 180 := fun a j h => by unfold m_B at h; omega
theorem k_step {α β : Type} {s : vS} {o : Option (α × vS)} {f : vS → Option (β × vS)} (h : v_I3 s) (hj : v_T o (fun _ s1 => v_T (f s1) (fun _ s2 => v_I2 s2))) (hc : v_T o (fun _ t => k_C s t)) (hm : ∀ t, v_RI t → v_T (f t) (fun _ u => k_M t u)) : v_T o (fun _ s1 => v_T (f s1) (fun _ s2 => v_I3 s2)) :=
  v_Tm (v_Tand hj hc) (fun _ t ht => v_Tm (v_Tand ht.1 (hm t (v_RI_lo h.1.1.2 ht.2.2.1))) (fun _ u hu => ⟨hu.1, fun k hk => z_r0_eq (h.2 k hk) (fun j => by rw [hu.2.1 (139 + 2 * k) j (by omega), ht.2.2.2 k hk j]) (by rw [(hu.2.2 k).1, ht.2.2.1 181 k (by decide)]) (by rw [(hu.2.2 k).2, ht.2.2.1 182 k (by decide)])⟩))
/-- the answers, where both sides say them of what they hold -/
theorem k_ans {α : Type} {s : vS} {o : Option (α × vS)} {f : vS → Option (α × vS)} {I : vS → Prop} {X Y : vS → α} (hR : v_RI s) (h : v_T o (fun _ s1 => v_T (f s1) (fun _ s2 => I s2))) (hc : v_T o (fun _ t => v_lo s t)) (e1 : v_T o (fun r _ => r = X s)) (e2 : ∀ t, v_RI t → v_T (f t) (fun r _ => r = Y t)) (hXY : ∀ t, v_lo s t → X s = Y t) : v_T o (fun r1 s1 => v_T (f s1) (fun r2 s2 => I s2 ∧ r1 = r2)) :=
  v_Tm (v_Tand (v_Tand h hc) e1) (fun _ t ht => v_Tm (v_Tand ht.1.1 (e2 t (v_RI_lo hR ht.1.2))) (fun _ u hu => ⟨hu.1, by rw [ht.2, hu.2]; exact hXY t ht.1.2⟩))
