/-! taken: the kinds of the bodies, alike on both sides; what both answer -/
def m_44 (a j : Nat) : Prop := (a = 151 ∧ j = 44) ∨ a = 180
theorem m_act3 (b c d : Int32) (s : vS) (h : v_RI s) : v_T (f_Md_act b c d s) (fun _ t => v_F m_44 s t) := by
  have h6 := h.2.2.2.2.2.1
  unfold f_Md_act
  have hf0 : v_F m_44 s (v_w1 s 151 44 0) := v_F_w1 v_F_rf (by unfold m_44; omega)
  have e44 : ((v_w1 s 151 44 0).1 151 44).toInt = 0 := by rw [v_w1_1, if_pos ⟨rfl, rfl⟩]; rfl
  have e42 : (v_w1 s 151 44 0).1 151 42 = s.1 151 42 := by rw [v_w1_1, if_neg (by omega)]
  refine v_Tlet ?_
  generalize v_w1 s 151 44 0 = s1 at hf0 e44 e42 ⊢
  have hfin : ∀ (r : Int32) (t : vS), m_ac 19 s1 t → v_T (some (r, t)) (fun (_ : Int32) t => v_F m_44 s t) := fun r t ht => by
    exact v_Tret (v_F_tr hf0 (v_F_im ht.1 (fun a j q => q)))
  have hret : v_T (some ((0 : Int32), s1)) (fun (_ : Int32) t => v_F m_44 s t) := hfin 0 s1 ⟨v_F_rf, by omega, by omega⟩
  refine v_TisBody (by rw [e42]; exact h6) (fun hb => ?_) (fun _ => hret)
  rw [e42] at hb
  have hbi : v_in b 50 := ⟨by omega, by omega⟩
  refine v_Tin (fun _ => ?_) (fun _ => hret)
  have hup : ∀ {c : Int} {t : vS}, m_ac c s1 t → c ≤ 19 → m_ac 19 s1 t := fun ht hc => ⟨ht.1, ht.2.1, by have := ht.2.2; omega⟩
  refine v_Tif (fun _ => ?_) (fun _ => v_Tif (fun _ => ?_) (fun _ => v_Tif (fun _ => ?_) (fun _ => ?_)))
  · exact v_Tbi (m_saying b d hbi s1 (by omega) (by omega)) (fun r t ht => hfin r t (hup ht (by decide)))
  · exact v_Tbi (m_holding b d hbi s1 (by omega) (by omega)) (fun r t ht => hfin r t (hup ht (by decide)))
  · exact v_Tbi (m_beating b d hbi s1 (by omega) (by omega)) (fun r t ht => hfin r t (hup ht (by decide)))
  · exact v_Tbi (m_telling b d hbi s1 (by omega) (by omega)) (fun r t ht => hfin r t ht)
theorem u_lit {b : Int32} (h : 0 ≤ b.toInt ∧ b.toInt ≤ 7) : b = 0 ∨ b = 1 ∨ b = 2 ∨ b = 3 ∨ b = 4 ∨ b = 5 ∨ b = 6 ∨ b = 7 := by
  rcases (show b.toInt = 0 ∨ b.toInt = 1 ∨ b.toInt = 2 ∨ b.toInt = 3 ∨ b.toInt = 4 ∨ b.toInt = 5 ∨ b.toInt = 6 ∨ b.toInt = 7 by omega) with h | h | h | h | h | h | h | h
  · exact Or.inl (Int32.toInt_inj.mp h)
  · exact Or.inr (Or.inl (Int32.toInt_inj.mp h))
  · exact Or.inr (Or.inr (Or.inl (Int32.toInt_inj.mp h)))
  · exact Or.inr (Or.inr (Or.inr (Or.inl (Int32.toInt_inj.mp h))))
  · exact Or.inr (Or.inr (Or.inr (Or.inr (Or.inl (Int32.toInt_inj.mp h)))))
  · exact Or.inr (Or.inr (Or.inr (Or.inr (Or.inr (Or.inl (Int32.toInt_inj.mp h))))))
  · exact Or.inr (Or.inr (Or.inr (Or.inr (Or.inr (Or.inr (Or.inl (Int32.toInt_inj.mp h)))))))
  · exact Or.inr (Or.inr (Or.inr (Or.inr (Or.inr (Or.inr (Or.inr (Int32.toInt_inj.mp h)))))))
noncomputable def u_t (b c : Int32) : Int32 := match f_Md_isUnder b c v_s0 with
  | some (r, _) => r
  | none => 0
theorem u_M {b c : Int32} (s : vS) (hb : 0 ≤ b.toInt ∧ b.toInt ≤ 7) (hc : 0 ≤ c.toInt ∧ c.toInt ≤ 7) : f_Md_isUnder b c s = some (u_t b c, s) := by
  rcases u_lit hb with rfl | rfl | rfl | rfl | rfl | rfl | rfl | rfl <;> rcases u_lit hc with rfl | rfl | rfl | rfl | rfl | rfl | rfl | rfl <;> rfl
theorem u_C {b c : Int32} (s : vS) (hb : 0 ≤ b.toInt ∧ b.toInt ≤ 7) (hc : 0 ≤ c.toInt ∧ c.toInt ≤ 7) : f_Cl_isUnder b c s = some (u_t b c, s) := by
  rcases u_lit hb with rfl | rfl | rfl | rfl | rfl | rfl | rfl | rfl <;> rcases u_lit hc with rfl | rfl | rfl | rfl | rfl | rfl | rfl | rfl <;> rfl
theorem u_no (c : Int32) (s : vS) : f_Cl_isUnder (-1) c s = some (0, s) := by rfl
def v_I4 (s : vS) : Prop := v_I3 s ∧ ∀ j, j < 50 → s.1 133 j = s.1 179 j
theorem v_I40 : v_I4 v_s0 := ⟨v_I30, by decide +kernel⟩
noncomputable def z_taken (b c h k : Int32) : Int32 := if 0 ≤ b.toInt ∧ b.toInt ≤ 5 then (if 0 ≤ c.toInt ∧ c.toInt ≤ 7 then (if h.toInt = -1 then (-11) else if h.toInt < 0 then (-12) else if (u_t k c).toInt = 0 then (-12) else k) else (-1)) else (-1)
theorem w_isKind (b : Int32) (s : vS) : f_Cl_isKind b s = some (v_b (0 ≤ b.toInt ∧ b.toInt ≤ 7), s) := by
  unfold f_Cl_isKind
  by_cases h1 : b.toInt < 0
  · rw [if_pos h1, v_b_neg (by omega)]
  · rw [if_neg h1]
    by_cases h2 : 8 ≤ b.toInt
    · rw [if_pos h2, v_b_neg (by omega)]
    · rw [if_neg h2, v_b_pos (by omega)]
theorem z_Ol_taken (b c : Int32) (s : vS) (h : v_I4 s) : v_T (f_Ol_taken b c s) (fun r _ => r = z_taken b c (s.1 181 b.toNatClampNeg) (s.1 179 (s.1 181 b.toNatClampNeg).toNatClampNeg)) := by
  have hkd := h.1.1.1.1.2.1
  have h49 := h.1.1.1.2.2.2.2.2.2.2
  unfold f_Ol_taken z_taken
  rw [z_isShelf, v_bi_some, v_bif]
  by_cases h1 : 0 ≤ b.toInt ∧ b.toInt ≤ 5
  · rw [if_pos h1, if_pos h1, w_isKind, v_bi_some, v_bif]
    by_cases hc : 0 ≤ c.toInt ∧ c.toInt ≤ 7
    · rw [if_pos hc, if_pos hc]
      have hB : b.toNatClampNeg < 6 := by rw [v_nc]; omega
      have hr := h.1.2 _ hB
      have hH := h49 _ hB
      have hK : v_kd (139 + 2 * b.toNatClampNeg) = 6 := n_Ks (s := s) h1
      rw [z_shelfAt b s h1, v_bi_some, if_pos hK, w_isBare, v_bi_some, v_bif]
      unfold z_r0 at hr
      generalize 139 + 2 * b.toNatClampNeg = A at hK hr ⊢
      generalize s.1 181 b.toNatClampNeg = H at hr hH ⊢
      rcases hr with ⟨a1, a2⟩ | ⟨a1, a2, a3⟩ | ⟨a1, a2, a3, -⟩
      · rw [if_pos a2, if_pos a1]
        exact v_Tret rfl
      · rw [if_neg (show ¬ (s.1 A 0).toInt = -1 by omega), if_neg (show ¬ H.toInt = -1 by omega), if_neg (show ¬ H.toInt < 0 by omega), if_pos a2, a3]
        have hj : H.toNatClampNeg < 50 := by rw [v_nc]; omega
        have ek := h.2 _ hj
        have hk7 := hkd _ hj
        rw [show f_Cl_kindOf H s = some (s.1 133 H.toNatClampNeg, s) from by
          unfold f_Cl_kindOf
          rw [if_neg (by omega), if_neg (by omega), if_pos (show v_in H 50 from ⟨by omega, by omega⟩)], v_bi_some, u_C s hk7 hc, v_bi_some, ek]
        by_cases hu : (u_t (s.1 179 H.toNatClampNeg) c).toInt = 0
        · rw [if_pos hu, if_pos hu]
          exact v_Tret rfl
        · rw [if_neg hu, if_neg hu]
          exact v_Tret rfl
      · rw [if_neg (show ¬ (s.1 A 0).toInt = -1 by omega), if_neg (show ¬ H.toInt = -1 by omega), if_pos (show H.toInt < 0 by omega), if_neg (show ¬ (s.1 A 0).toInt = 5 by omega), u_no, v_bi_some, if_pos (by decide)]
        exact v_Tret rfl
    · rw [if_neg hc, if_neg hc]
      exact v_Tret rfl
  · rw [if_neg h1, if_neg h1]
    exact v_Tret rfl
theorem z_Md_taken (b c : Int32) (s : vS) (h : v_RI s) (hk : ∀ j, j < 50 → 0 ≤ (s.1 179 j).toInt ∧ (s.1 179 j).toInt ≤ 7) : v_T (f_Md_taken b c s) (fun r _ => r = z_taken b c (s.1 181 b.toNatClampNeg) (s.1 179 (s.1 181 b.toNatClampNeg).toNatClampNeg)) := by
  have h49 := h.2.2.2.2.2.2
  unfold f_Md_taken z_taken
  rw [z_MisShelf, v_bi_some, v_bif]
  by_cases h1 : 0 ≤ b.toInt ∧ b.toInt ≤ 5
  · rw [if_pos h1, if_pos h1, z_in, v_bi_some, v_bif]
    by_cases hc : 0 ≤ c.toInt ∧ c.toInt ≤ 7
    · rw [if_pos (show (0 : Int32).toInt ≤ c.toInt ∧ c.toInt ≤ (7 : Int32).toInt from hc), if_pos hc]
      have hv : v_in b 6 := ⟨h1.1, by omega⟩
      have hH := h49 b.toNatClampNeg (by rw [v_nc]; omega)
      generalize hHd : s.1 181 b.toNatClampNeg = H at hH ⊢
      rw [if_pos hv]
      by_cases a1 : H.toInt = -1
      · rw [if_pos a1, if_pos a1]
        exact v_Tret rfl
      · rw [if_neg a1, if_neg a1, if_pos hv]
        by_cases a2 : H.toInt < 0
        · rw [if_pos a2, if_pos a2]
          exact v_Tret rfl
        · have hw : v_in H 50 := ⟨by omega, by omega⟩
          have hj : H.toNatClampNeg < 50 := by rw [v_nc]; omega
          rw [if_neg a2, if_neg a2, if_pos hv, if_pos hw, u_M s (hk _ hj) hc, v_bi_some]
          by_cases hu : (u_t (s.1 179 H.toNatClampNeg) c).toInt = 0
          · rw [if_pos hu, if_pos hu]
            exact v_Tret rfl
          · rw [if_neg hu, if_neg hu, if_pos hv, hHd, if_pos hw]
            exact v_Tret rfl
    · rw [if_neg (show ¬ ((0 : Int32).toInt ≤ c.toInt ∧ c.toInt ≤ (7 : Int32).toInt) from hc), if_neg hc]
      exact v_Tret rfl
  · rw [if_neg h1, if_neg h1]
    exact v_Tret rfl
/-- the kinds, alike: all calls but body leave them -/
def l_C (s t : vS) : Prop := v_CI t ∧ v_lo s t ∧ ∀ j, t.1 133 j = s.1 133 j
def l_M (s t : vS) : Prop := v_hi s t ∧ ∀ j, t.1 179 j = s.1 179 j
theorem l_c {α : Type} {P : Nat → Nat → Prop} {s : vS} {o : Option (α × vS)} (hP : ∀ a j, P a j → a < 151 ∧ a ≠ 133) (h : v_T o (fun _ t => v_CI t ∧ v_F P s t)) : v_T o (fun _ t => l_C s t) :=
  v_Tm h (fun _ t ht => ⟨ht.1, fun a j ha => (ht.2 a j (fun z => by have := hP a j z; omega)).1, fun j => (ht.2 133 j (fun z => (hP _ j z).2 rfl)).1⟩)
theorem l_m {α : Type} {P : Nat → Nat → Prop} {s : vS} {o : Option (α × vS)} (hP : ∀ a j, P a j → 151 ≤ a ∧ a ≠ 179) (h : v_T o (fun _ t => v_F P s t)) : v_T o (fun _ t => l_M s t) :=
  v_Tm h (fun _ t ht => ⟨fun a j ha => (ht a j (fun z => by have := hP a j z; omega)).1, fun j => (ht 179 j (fun z => (hP _ j z).2 rfl)).1⟩)
theorem l_cn {α : Type} {s : vS} {o : Option (α × vS)} (hs : v_CI s) (h : v_T o (fun _ t => t = s)) : v_T o (fun _ t => l_C s t) :=
  v_Tm h (fun _ t e => by subst e; exact ⟨hs, fun _ _ _ => rfl, fun _ => rfl⟩)
theorem l_mn {α : Type} {s : vS} {o : Option (α × vS)} (h : v_T o (fun _ t => t = s)) : v_T o (fun _ t => l_M s t) :=
  v_Tm h (fun _ t e => by subst e; exact ⟨fun _ _ _ => rfl, fun _ => rfl⟩)
theorem l_cA : ∀ a j, c_A a j → a < 151 ∧ a ≠ 133 := fun a j h => by unfold c_A at h; omega
theorem l_cS : ∀ a j, c_S a j → a < 151 ∧ a ≠ 133 := fun a j h => by unfold c_S at h; omega
theorem l_cac : ∀ a j, c_ac a j → a < 151 ∧ a ≠ 133 := fun a j h => by unfold c_ac at h; omega
theorem l_mA : ∀ a j, m_A a j → 151 ≤ a ∧ a ≠ 179 := fun a j h => by unfold m_A at h; omega
theorem l_mS : ∀ a j, m_S a j → 151 ≤ a ∧ a ≠ 179 := fun a j h => by unfold m_S at h; omega
theorem l_m44 : ∀ a j, m_44 a j → 151 ≤ a ∧ a ≠ 179 := fun a j h => by unfold m_44 at h; omega
theorem l_cact (b c d : Int32) (s : vS) (h : v_CI s) : v_T (f_Ol_act b c d s) (fun _ t => l_C s t) :=
  l_c l_cac (v_Tm (v_Tand (c_act b c d s h) (q_Olact b c d s h.2.1)) (fun _ t ht => ⟨ht.1.1, ht.2⟩))
theorem l_step {α β : Type} {s : vS} {o : Option (α × vS)} {f : vS → Option (β × vS)} (h : v_I4 s) (hj : v_T o (fun _ s1 => v_T (f s1) (fun _ s2 => v_I3 s2))) (hc : v_T o (fun _ t => l_C s t)) (hm : ∀ t, v_RI t → v_T (f t) (fun _ u => l_M t u)) : v_T o (fun _ s1 => v_T (f s1) (fun _ s2 => v_I4 s2)) :=
  v_Tm (v_Tand hj hc) (fun _ t ht => v_Tm (v_Tand ht.1 (hm t (v_RI_lo h.1.1.1.2 ht.2.2.1))) (fun _ u hu => ⟨hu.1, fun j hj => by
    rw [hu.2.1 133 j (by decide), ht.2.2.2 j, hu.2.2 j, ht.2.2.1 179 j (by decide)]
    exact h.2 j hj⟩))
def l_bC (b : Int32) (s : vS) : vS := if 0 ≤ b.toInt ∧ b.toInt ≤ 7 then (if (s.1 132 0).toInt = 50 then s else v_w1 (v_w1 s 133 (s.1 132 0).toNatClampNeg b) 132 0 (s.1 132 0 + 1)) else s
def l_bM (b : Int32) (s : vS) : vS := if 0 ≤ b.toInt ∧ b.toInt ≤ 7 then (if (s.1 151 42).toInt = 50 then s else v_w1 (v_w1 s 179 (s.1 151 42).toNatClampNeg b) 151 42 (s.1 151 42 + 1)) else s
theorem y_Ol_body (b : Int32) (s : vS) (h : v_CI s) : v_T (f_Ol_body b s) (fun _ t => t = l_bC b s) := by
  have hm := h.2.2
  unfold f_Ol_body l_bC
  rw [w_isKind, v_bi_some, v_bif]
  by_cases h1 : 0 ≤ b.toInt ∧ b.toInt ≤ 7
  · rw [if_pos h1, if_pos h1]
    unfold f_Cl_add
    rw [if_neg (show ¬ (s.1 132 0).toInt < 0 by omega)]
    by_cases h2 : (s.1 132 0).toInt = 50
    · rw [if_neg (show ¬ (s.1 132 0).toInt < 50 by omega), v_bi_some, if_neg (by decide), if_pos h2]
      exact v_Tret rfl
    · rw [if_pos (show (s.1 132 0).toInt < 50 by omega), if_pos (show v_in (s.1 132 0) 50 from ⟨by omega, by omega⟩), if_neg h2]
      refine v_Tbi (P := fun _ t => t = v_w1 (v_w1 s 133 (s.1 132 0).toNatClampNeg b) 132 0 (s.1 132 0 + 1)) (v_Tlet (v_Tlet (v_Tret ?_))) ?_
      · rw [show (v_w1 s 133 (s.1 132 0).toNatClampNeg b).1 132 0 = s.1 132 0 from v_w1_1.trans (if_neg (by omega))]
      · rintro r t rfl
        exact v_Tif (fun _ => v_Tret rfl) (fun _ => v_Tret rfl)
  · rw [if_neg h1, if_neg h1]
    exact v_Tret rfl
theorem y_Md_body (b : Int32) (s : vS) (h : v_RI s) : v_T (f_Md_body b s) (fun _ t => t = l_bM b s) := by
  have hm := h.2.2.2.2.2.1
  unfold f_Md_body l_bM
  rw [z_in, v_bi_some, v_bif]
  by_cases h1 : 0 ≤ b.toInt ∧ b.toInt ≤ 7
  · rw [if_pos (show (0 : Int32).toInt ≤ b.toInt ∧ b.toInt ≤ (7 : Int32).toInt from h1), if_pos h1]
    by_cases h2 : (s.1 151 42).toInt = 50
    · rw [if_pos h2, if_pos h2]
      exact v_Tret rfl
    · rw [if_neg h2, if_neg h2, if_pos (show v_in (s.1 151 42) 50 from ⟨by omega, by omega⟩)]
      refine v_Tlet (v_Tlet (v_Tret ?_))
      rw [show (v_w1 s 179 (s.1 151 42).toNatClampNeg b).1 151 42 = s.1 151 42 from v_w1_1.trans (if_neg (by omega))]
  · rw [if_neg (show ¬ ((0 : Int32).toInt ≤ b.toInt ∧ b.toInt ≤ (7 : Int32).toInt) from h1), if_neg h1]
    exact v_Tret rfl
theorem r_body {b : Int32} {s t : vS} (e : s.1 132 0 = s.1 151 42) (h : ∀ j, j < 50 → s.1 133 j = s.1 179 j) (ht : t = l_bC b s) (hlo : v_lo s t) : ∀ j, j < 50 → (l_bM b t).1 133 j = (l_bM b t).1 179 j := by
  intro j hj
  have h42 : t.1 151 42 = s.1 132 0 := by rw [hlo 151 42 (by decide), e]
  have h179 : t.1 179 j = s.1 179 j := hlo 179 j (by decide)
  unfold l_bM
  rw [h42]
  unfold l_bC at ht
  by_cases h1 : 0 ≤ b.toInt ∧ b.toInt ≤ 7
  · rw [if_pos h1] at ht ⊢
    by_cases h2 : (s.1 132 0).toInt = 50
    · rw [if_pos h2] at ht ⊢
      rw [ht]
      exact h j hj
    · rw [if_neg h2] at ht ⊢
      rw [v_w1_1, if_neg (by omega), v_w1_1, if_neg (by omega), v_w1_1, if_neg (by omega), v_w1_1, h179]
      by_cases hz : j = (s.1 132 0).toNatClampNeg
      · rw [if_pos ⟨rfl, hz⟩, ht, v_w1_1, if_neg (by omega), v_w1_1, if_pos ⟨rfl, hz⟩]
      · rw [if_neg (fun q => hz q.2), ht, v_w1_1, if_neg (by omega), v_w1_1, if_neg (fun q => hz q.2)]
        exact h j hj
  · rw [if_neg h1] at ht ⊢
    rw [ht]
    exact h j hj
theorem l_body {b : Int32} {s : vS} (h : v_I4 s) (hj : v_T (f_Ol_body b s) (fun _ s1 => v_T (f_Md_body b s1) (fun _ s2 => v_I3 s2))) : v_T (f_Ol_body b s) (fun _ s1 => v_T (f_Md_body b s1) (fun _ s2 => v_I4 s2)) :=
  v_Tm (v_Tand hj (v_Tand (y_Ol_body b s h.1.1.1.1) (i_c i_cB (c_body b s h.1.1.1.1)))) (fun _ t ht => v_Tm (v_Tand ht.1 (y_Md_body b t (v_RI_lo h.1.1.1.2 ht.2.2.2))) (fun _ u hu => ⟨hu.1, by
    rw [hu.2]
    exact r_body h.1.1.2 h.2 ht.2.1 ht.2.2.2⟩))
theorem k_ans2 {α : Type} {s : vS} {o : Option (α × vS)} {f : vS → Option (α × vS)} {I : vS → Prop} {X : vS → α} (hR : v_RI s) (h : v_T o (fun _ s1 => v_T (f s1) (fun _ s2 => I s2))) (hc : v_T o (fun _ t => v_lo s t)) (e1 : v_T o (fun r _ => r = X s)) (e2 : ∀ t, v_lo s t → v_RI t → v_T (f t) (fun r _ => r = X s)) : v_T o (fun r1 s1 => v_T (f s1) (fun r2 s2 => I s2 ∧ r1 = r2)) :=
  v_Tm (v_Tand (v_Tand h hc) e1) (fun _ t ht => v_Tm (v_Tand ht.1.1 (e2 t ht.1.2 (v_RI_lo hR ht.1.2))) (fun _ u hu => ⟨hu.1, by rw [ht.2, hu.2]⟩))
theorem l_taken {b c : Int32} {s t : vS} (h : v_I4 s) (hl : v_lo s t) (ht : v_RI t) : v_T (f_Md_taken b c t) (fun r _ => r = z_taken b c (s.1 181 b.toNatClampNeg) (s.1 179 (s.1 181 b.toNatClampNeg).toNatClampNeg)) :=
  v_Tm (z_Md_taken b c t ht (fun j hj => by rw [hl 179 j (by decide), ← h.2 j hj]; exact h.1.1.1.1.2.1 j hj)) (fun _ _ e => by rw [e, hl 181 _ (by decide), hl 179 _ (by decide)])
