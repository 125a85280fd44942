/-! the trace, alike on both sides -/
def e_rel (s t : vS) : Prop := s.1 132 1 = t.1 151 44 ∧ ∀ j, j < 24 → s.1 134 j = t.1 180 j
theorem e_reln {s t : vS} (h : e_rel s t) (x : Int32) : e_rel (e_nC s x) (e_nM t x) := by
  unfold e_nC e_nM
  rw [h.1]
  by_cases h1 : (t.1 151 44).toInt < 0 ∨ 24 ≤ (t.1 151 44).toInt
  · rw [if_pos h1, if_pos h1]
    refine ⟨?_, fun j hj => ?_⟩
    · rw [v_w1_1, if_pos ⟨rfl, rfl⟩, v_w1_1, if_pos ⟨rfl, rfl⟩]
    · rw [v_w1_1, if_neg (by omega), v_w1_1, if_neg (by omega)]
      exact h.2 j hj
  · rw [if_neg h1, if_neg h1]
    refine ⟨?_, fun j hj => ?_⟩
    · rw [v_w1_1, if_pos ⟨rfl, rfl⟩, v_w1_1, if_pos ⟨rfl, rfl⟩]
    · have eA : (v_w1 (v_w1 s 134 (t.1 151 44).toNatClampNeg x) 132 1 (t.1 151 44 + 1)).1 134 j = if (134 : Nat) = 134 ∧ j = (t.1 151 44).toNatClampNeg then x else s.1 134 j := by rw [v_w1_1, if_neg (by omega), v_w1_1]
      have eB : (v_w1 (v_w1 t 180 (t.1 151 44).toNatClampNeg x) 151 44 (t.1 151 44 + 1)).1 180 j = if (180 : Nat) = 180 ∧ j = (t.1 151 44).toNatClampNeg then x else t.1 180 j := by rw [v_w1_1, if_neg (by omega), v_w1_1]
      rw [eA, eB]
      by_cases hz : j = (t.1 151 44).toNatClampNeg
      · rw [if_pos ⟨rfl, hz⟩, if_pos ⟨rfl, hz⟩]
      · rw [if_neg (fun q => hz q.2), if_neg (fun q => hz q.2)]
        exact h.2 j hj
theorem e_rela : ∀ (l : List Int32) {s t : vS}, e_rel s t → e_rel (e_aC l s) (e_aM l t)
  | [], _, _, h => h
  | x :: l, _, _, h => e_rela l (e_reln h x)
def v_I6 (s : vS) : Prop := v_I4 s ∧ e_rel s s
theorem v_I60 : v_I6 v_s0 := ⟨v_I40, by decide +kernel, by decide +kernel⟩
def x_C (s t : vS) : Prop := v_CI t ∧ v_lo s t ∧ t.1 132 1 = s.1 132 1 ∧ ∀ j, t.1 134 j = s.1 134 j
def x_M (s t : vS) : Prop := v_hi s t ∧ t.1 151 44 = s.1 151 44 ∧ ∀ j, t.1 180 j = s.1 180 j
theorem x_c {α : Type} {P : Nat → Nat → Prop} {s : vS} {o : Option (α × vS)} (hP : ∀ a j, P a j → a < 151 ∧ a ≠ 134 ∧ a ≠ 132) (h : v_T o (fun _ t => v_CI t ∧ v_F P s t)) : v_T o (fun _ t => x_C s t) :=
  v_Tm h (fun _ t ht => ⟨ht.1, fun a j ha => (ht.2 a j (fun z => by have := hP a j z; omega)).1, (ht.2 132 1 (fun z => (hP _ _ z).2.2 rfl)).1, fun j => (ht.2 134 j (fun z => (hP _ j z).2.1 rfl)).1⟩)
theorem x_m {α : Type} {P : Nat → Nat → Prop} {s : vS} {o : Option (α × vS)} (hP : ∀ a j, P a j → 151 ≤ a ∧ a ≠ 180 ∧ ¬ (a = 151 ∧ j = 44)) (h : v_T o (fun _ t => v_F P s t)) : v_T o (fun _ t => x_M s t) :=
  v_Tm h (fun _ t ht => ⟨fun a j ha => (ht a j (fun z => by have := hP a j z; omega)).1, (ht 151 44 (fun z => (hP _ _ z).2.2 ⟨rfl, rfl⟩)).1, fun j => (ht 180 j (fun z => (hP _ j z).2.1 rfl)).1⟩)
theorem x_cn {α : Type} {s : vS} {o : Option (α × vS)} (hs : v_CI s) (h : v_T o (fun _ t => t = s)) : v_T o (fun _ t => x_C s t) :=
  v_Tm h (fun _ t e => by subst e; exact ⟨hs, fun _ _ _ => rfl, rfl, fun _ => rfl⟩)
theorem x_mn {α : Type} {s : vS} {o : Option (α × vS)} (h : v_T o (fun _ t => t = s)) : v_T o (fun _ t => x_M s t) :=
  v_Tm h (fun _ t e => by subst e; exact ⟨fun _ _ _ => rfl, rfl, fun _ => rfl⟩)
theorem x_cA : ∀ a j, c_A a j → a < 151 ∧ a ≠ 134 ∧ a ≠ 132 := fun a j h => by unfold c_A at h; omega
theorem x_cS : ∀ a j, c_S a j → a < 151 ∧ a ≠ 134 ∧ a ≠ 132 := fun a j h => by unfold c_S at h; omega
theorem x_mA : ∀ a j, m_A a j → 151 ≤ a ∧ a ≠ 180 ∧ ¬ (a = 151 ∧ j = 44) := fun a j h => by unfold m_A at h; omega
theorem x_mS : ∀ a j, m_S a j → 151 ≤ a ∧ a ≠ 180 ∧ ¬ (a = 151 ∧ j = 44) := fun a j h => by unfold m_S at h; omega
theorem x_bodyC (b : Int32) (s : vS) (h : v_CI s) : v_T (f_Ol_body b s) (fun _ t => x_C s t) :=
  v_Tm (v_Tand (y_Ol_body b s h) (i_c i_cB (c_body b s h))) (fun _ t ht => ⟨ht.2.1, ht.2.2, by
    rw [ht.1]; unfold l_bC
    by_cases h1 : 0 ≤ b.toInt ∧ b.toInt ≤ 7
    · rw [if_pos h1]
      by_cases h2 : (s.1 132 0).toInt = 50
      · rw [if_pos h2]
      · rw [if_neg h2, v_w1_1, if_neg (by omega), v_w1_1, if_neg (by omega)]
    · rw [if_neg h1], fun j => by
    rw [ht.1]; unfold l_bC
    by_cases h1 : 0 ≤ b.toInt ∧ b.toInt ≤ 7
    · rw [if_pos h1]
      by_cases h2 : (s.1 132 0).toInt = 50
      · rw [if_pos h2]
      · rw [if_neg h2, v_w1_1, if_neg (by omega), v_w1_1, if_neg (by omega)]
    · rw [if_neg h1]⟩)
theorem x_bodyM (b : Int32) (s : vS) (h : v_RI s) : v_T (f_Md_body b s) (fun _ t => x_M s t) :=
  v_Tm (v_Tand (y_Md_body b s h) (i_m i_mB (m_body b s h))) (fun _ t ht => ⟨ht.2.2, by
    rw [ht.1]; unfold l_bM
    by_cases h1 : 0 ≤ b.toInt ∧ b.toInt ≤ 7
    · rw [if_pos h1]
      by_cases h2 : (s.1 151 42).toInt = 50
      · rw [if_pos h2]
      · rw [if_neg h2, v_w1_1, if_neg (by omega), v_w1_1, if_neg (by omega)]
    · rw [if_neg h1], fun j => by
    rw [ht.1]; unfold l_bM
    by_cases h1 : 0 ≤ b.toInt ∧ b.toInt ≤ 7
    · rw [if_pos h1]
      by_cases h2 : (s.1 151 42).toInt = 50
      · rw [if_pos h2]
      · rw [if_neg h2, v_w1_1, if_neg (by omega), v_w1_1, if_neg (by omega)]
    · rw [if_neg h1]⟩)
theorem x_step {α β : Type} {s : vS} {o : Option (α × vS)} {f : vS → Option (β × vS)} (h : v_I6 s) (hj : v_T o (fun _ s1 => v_T (f s1) (fun _ s2 => v_I4 s2))) (hc : v_T o (fun _ t => x_C s t)) (hm : ∀ t, v_RI t → v_T (f t) (fun _ u => x_M t u)) : v_T o (fun _ s1 => v_T (f s1) (fun _ s2 => v_I6 s2)) :=
  v_Tm (v_Tand hj hc) (fun _ t ht => v_Tm (v_Tand ht.1 (hm t (v_RI_lo h.1.1.1.1.2 ht.2.2.1))) (fun _ u hu => ⟨hu.1, by
    rw [hu.2.1 132 1 (by decide), ht.2.2.2.1, hu.2.2.1, ht.2.2.1 151 44 (by decide)]
    exact h.2.1, fun j hj => by
    rw [hu.2.1 134 j (by decide), ht.2.2.2.2 j, hu.2.2.2 j, ht.2.2.1 180 j (by decide)]
    exact h.2.2 j hj⟩))
theorem x_actE {b c : Int32} {s t : vS} (h : v_I4 s) (hl : v_lo s t) : z_actE b c (s.1 132 0) (s.1 133 b.toNatClampNeg) = z_actE b c (t.1 151 42) (t.1 179 b.toNatClampNeg) := by
  have hm := h.1.1.1.1.2.2
  rw [hl 151 42 (by decide), hl 179 _ (by decide)]
  unfold z_actE
  rw [← h.1.1.2]
  by_cases h1 : 0 ≤ b.toInt ∧ b.toInt < (s.1 132 0).toInt
  · rw [h.2 b.toNatClampNeg (by rw [v_nc]; omega)]
  · rw [if_neg h1, if_neg h1]
theorem x_act {b c d : Int32} {s : vS} (h : v_I6 s) (hj : v_T (f_Ol_act b c d s) (fun _ s1 => v_T (f_Md_act b c d s1) (fun _ s2 => v_I4 s2))) : v_T (f_Ol_act b c d s) (fun _ s1 => v_T (f_Md_act b c d s1) (fun _ s2 => v_I6 s2)) :=
  v_Tm (v_TP (v_Tand hj (l_cact b c d s h.1.1.1.1.1)) (z_Ol_act b c d s h.1.1.1.1.1)) (fun _ t ht => by
    obtain ⟨⟨h1, hCI, hlo, hk⟩, -, et⟩ := ht
    have hR := v_RI_lo h.1.1.1.1.2 hlo
    refine v_Tm (v_TP (v_Tand h1 (i_m i_mB (m_act b c d t hR))) (z_Md_act b c d t hR (e_kM h.1 hlo))) (fun _ u hu => ⟨hu.1.1, ?_⟩)
    obtain ⟨⟨-, -, hhi⟩, -, eu⟩ := hu
    have hz : e_rel (v_w1 s 132 1 0) (v_w1 t 151 44 0) := ⟨by rw [v_w1_1, if_pos ⟨rfl, rfl⟩, v_w1_1, if_pos ⟨rfl, rfl⟩], fun j hj => by
      rw [v_w1_1, if_neg (by omega), v_w1_1, if_neg (by omega), hlo 180 j (by decide)]
      exact h.2.2 j hj⟩
    have hr := e_rela (z_actE b c (s.1 132 0) (s.1 133 b.toNatClampNeg)) hz
    rw [← et, x_actE h.1 hlo, ← eu] at hr
    exact ⟨by rw [hhi 132 1 (by decide)]; exact hr.1, fun j hj => by rw [hhi 134 j (by decide)]; exact hr.2 j hj⟩)
def z_trace (b n x : Int32) : Int32 := if b.toInt < 0 then -1 else if n.toInt ≤ b.toInt then -1 else if 24 ≤ b.toInt then -1 else x
theorem z_Ol_trace (b : Int32) (s : vS) : f_Ol_trace b s = some (z_trace b (s.1 132 1) (s.1 134 b.toNatClampNeg), s) := by
  unfold f_Ol_trace f_Cl_traced z_trace
  by_cases h1 : b.toInt < 0
  · rw [if_pos h1, if_pos h1]; rfl
  · rw [if_neg h1, if_neg h1]
    by_cases h2 : (s.1 132 1).toInt ≤ b.toInt
    · rw [if_pos h2, if_pos h2]; rfl
    · rw [if_neg h2, if_neg h2]
      by_cases h3 : 24 ≤ b.toInt
      · rw [if_pos h3, if_pos h3]; rfl
      · rw [if_neg h3, if_neg h3, if_pos (show v_in b 24 from ⟨by omega, by omega⟩)]; rfl
theorem z_Md_trace (b : Int32) (s : vS) : f_Md_trace b s = some (z_trace b (s.1 151 44) (s.1 180 b.toNatClampNeg), s) := by
  unfold f_Md_trace z_trace
  by_cases h1 : b.toInt < 0
  · rw [if_pos h1, if_pos h1]
  · rw [if_neg h1, if_neg h1]
    by_cases h2 : (s.1 151 44).toInt ≤ b.toInt
    · rw [if_pos h2, if_pos h2]
    · rw [if_neg h2, if_neg h2]
      by_cases h3 : 24 ≤ b.toInt
      · rw [if_pos h3, if_pos h3]
      · rw [if_neg h3, if_neg h3, if_pos (show v_in b 24 from ⟨by omega, by omega⟩)]
theorem x_trace {b : Int32} {s : vS} (h : v_I6 s) : v_T (f_Ol_trace b s) (fun r1 s1 => v_T (f_Md_trace b s1) (fun r2 s2 => v_I6 s2 ∧ r1 = r2)) := by
  rw [z_Ol_trace]
  refine v_Tret ?_
  rw [z_Md_trace]
  refine v_Tret ⟨h, ?_⟩
  unfold z_trace
  rw [h.2.1]
  by_cases h1 : b.toInt < 0
  · rw [if_pos h1, if_pos h1]
  · rw [if_neg h1, if_neg h1]
    by_cases h2 : (s.1 151 44).toInt ≤ b.toInt
    · rw [if_pos h2, if_pos h2]
    · rw [if_neg h2, if_neg h2]
      by_cases h3 : 24 ≤ b.toInt
      · rw [if_pos h3, if_pos h3]
      · rw [if_neg h3, if_neg h3]
        exact h.2.2 _ (by rw [v_nc]; omega)
