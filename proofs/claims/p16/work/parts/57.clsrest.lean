/-! the class: bodies, acts, shelves -/
def c_B (a _ : Nat) : Prop := 132 ≤ a ∧ a ≤ 134
def c_S (a _ : Nat) : Prop := 135 ≤ a ∧ a ≤ 150 ∧ a ≠ 138
def c_A (a _ : Nat) : Prop := a < 132 ∨ a = 138
theorem v_KC_F {s t : vS} (h : v_KC s) (hf : v_F c_B s t) : v_KC t := by
  obtain ⟨⟨h1, h2⟩, h3⟩ := h
  refine ⟨⟨?_, fun a ha => ?_⟩, ?_⟩
  · rw [(hf 8 1 (by unfold c_B; omega)).1]; exact h1
  · have h6 := v_k6 ha
    rw [(hf a 2 (by unfold c_B; omega)).1]; exact h2 a ha
  · rw [(hf 0 11 (by unfold c_B; omega)).1]; exact h3
theorem v_KC_S {s t : vS} (h : v_KC s) (hf : v_F c_S s t) (hz : ∀ a, v_kd a = 6 → 0 ≤ (t.1 a 2).toInt ∧ (t.1 a 2).toInt ≤ 60) : v_KC t := by
  obtain ⟨⟨h1, h2⟩, h3⟩ := h
  refine ⟨⟨?_, hz⟩, ?_⟩
  · rw [(hf 8 1 (by unfold c_S; omega)).1]; exact h1
  · rw [(hf 0 11 (by unfold c_S; omega)).1]; exact h3
theorem n_isKind (b : Int32) (s : vS) : v_T (f_Cl_isKind b s) (fun r t => t = s) := by
  unfold f_Cl_isKind
  repeat' first
    | ((with_reducible refine v_Tret ?_); (focus exact rfl))
    | ((with_reducible refine v_Tret ?_); exact ⟨rfl, by first | assumption | decide | omega | exact Or.inl rfl | exact Or.inr rfl⟩)
    | ((with_reducible refine v_Tck ?_ ?_); (focus first | assumption | exact ⟨by omega, by omega⟩ | decide | omega))
    | with_reducible refine v_Tif (fun _ => ?_) (fun _ => ?_)
theorem n_Clknows (b : Int32) (s : vS) : v_T (f_Cl_knows b s) (fun r t => t = s) := by
  unfold f_Cl_knows
  repeat' first
    | ((with_reducible refine v_Tret ?_); (focus exact rfl))
    | ((with_reducible refine v_Tret ?_); exact ⟨rfl, by first | assumption | decide | omega | exact Or.inl rfl | exact Or.inr rfl⟩)
    | ((with_reducible refine v_Tck ?_ ?_); (focus first | assumption | exact ⟨by omega, by omega⟩ | decide | omega))
    | with_reducible refine v_Tif (fun _ => ?_) (fun _ => ?_)
def c_kinds (s : vS) : Prop := ∀ j, j < 50 → 0 ≤ (s.1 133 j).toInt ∧ (s.1 133 j).toInt ≤ 7
theorem n_kindOf (b : Int32) (s : vS) : v_T (f_Cl_kindOf b s) (fun r t => t = s) := by
  unfold f_Cl_kindOf
  repeat' first
    | ((with_reducible refine v_Tret ?_); (focus exact rfl))
    | ((with_reducible refine v_Tret ?_); exact ⟨rfl, by first | assumption | decide | omega | exact Or.inl rfl | exact Or.inr rfl⟩)
    | ((with_reducible refine v_Tck ?_ ?_); (focus first | assumption | exact ⟨by omega, by omega⟩ | decide | omega))
    | with_reducible refine v_Tif (fun _ => ?_) (fun _ => ?_)
theorem n_kindOf2 (b : Int32) (s : vS) (h : c_kinds s) : v_T (f_Cl_kindOf b s) (fun r t => t = s ∧ (-1 ≤ r.toInt ∧ r.toInt ≤ 7)) := by
  unfold f_Cl_kindOf
  refine v_Tif (fun _ => v_Tret ⟨rfl, by decide⟩) (fun h1 => v_Tif (fun _ => v_Tret ⟨rfl, by decide⟩) (fun h2 => v_Tck ⟨by omega, by omega⟩ (v_Tret ⟨rfl, ?_⟩)))
  have h3 := h b.toNatClampNeg (by rw [v_nc]; omega)
  omega
theorem n_abv : (List.range 8).all (fun j => decide (-1 ≤ (s_above.getD j 0).toInt) && decide ((s_above.getD j 0).toInt ≤ 7)) = true := by decide +kernel
theorem n_above (b : Int32) (s : vS) : v_T (f_Cl_above b s) (fun r t => t = s ∧ (-1 ≤ r.toInt ∧ r.toInt ≤ 7)) := by
  unfold f_Cl_above
  refine v_Tif (fun _ => v_Tret ⟨rfl, by decide⟩) (fun h1 => v_Tif (fun _ => v_Tret ⟨rfl, by decide⟩) (fun h2 => v_Tck ⟨by omega, by omega⟩ (v_Tret ⟨rfl, ?_⟩)))
  have h3 := List.all_eq_true.mp n_abv b.toNatClampNeg (List.mem_range.mpr (by rw [v_nc]; omega))
  rw [Bool.and_eq_true, decide_eq_true_eq, decide_eq_true_eq] at h3
  exact h3
theorem n_codeOf (b c : Int32) (s : vS) (hb : b.toInt ≤ 7) : v_T (f_Cl_codeOf b c s) (fun r t => t = s) := by
  unfold f_Cl_codeOf
  refine v_Tif (fun _ => v_Tret rfl) (fun h1 => v_Tif (fun _ => v_Tret rfl) (fun h2 => v_Tif (fun _ => v_Tret rfl) (fun h3 => v_Tif (fun _ => v_Tret rfl) (fun h4 => ?_))))
  have e1 : (b * (4 : Int32)).toInt = b.toInt * 4 := i32_mul (y := 4) (show -2 ^ 31 ≤ b.toInt * (4 : Int) by omega) (show b.toInt * (4 : Int) < 2 ^ 31 by omega)
  have e2 : ((b * (4 : Int32)) + c).toInt = b.toInt * 4 + c.toInt := by rw [i32_add (by omega) (by omega), e1]
  exact v_Tck ⟨by omega, by omega⟩ (v_Tret rfl)
def c_ac (a j : Nat) : Prop := (a = 132 ∧ j = 1) ∨ a = 134
theorem c_kinds_F {s t : vS} (h : c_kinds s) (hf : v_F c_ac s t) : c_kinds t := fun j hj => by
  rw [(hf 133 j (by unfold c_ac; omega)).1]
  exact h j hj
theorem q_note (b : Int32) (s : vS) : v_T (f_Cl_note b s) (fun _ t => v_F c_ac s t) := by
  unfold f_Cl_note
  refine v_Tif (fun _ => v_FTw (P := c_ac) v_F_rf (by unfold c_ac; omega) (fun t ht => v_Tret ht)) (fun h1 => v_Tif (fun _ => v_FTw (P := c_ac) v_F_rf (by unfold c_ac; omega) (fun t ht => v_Tret ht)) (fun h2 => v_Tck ⟨by omega, by omega⟩ ?_))
  exact v_FTw (P := c_ac) v_F_rf (by unfold c_ac; omega) (fun t ht => v_FTw ht (by unfold c_ac; omega) (fun t ht => v_Tret ht))
def c_rec (rec : Int32 → Int32 → Int32 → Int32 → Int32 → vS → Option (Int32 × vS)) (f : Int) : Prop := ∀ (b c d e g : Int32) (s : vS), (-1 ≤ b.toInt ∧ b.toInt ≤ 7) → g.toInt = f → c_kinds s → v_T (rec b c d e g s) (fun _ t => v_F c_ac s t)
theorem q_own {rec : Int32 → Int32 → Int32 → Int32 → Int32 → vS → Option (Int32 × vS)} {f : Int} (hr : c_rec rec f) (b c d e : Int32) (he : e.toInt = f) (s : vS) (h : c_kinds s) : v_T (f_Cl_own rec b c d e s) (fun _ t => v_F c_ac s t) := by
  unfold f_Cl_own
  refine v_Tbi (n_kindOf2 b s h) ?_
  rintro r _ ⟨rfl, hk⟩
  exact v_Tbi (hr _ _ _ _ _ _ hk he h) (fun r t ht => v_Tret ht)
theorem q_atTop {rec : Int32 → Int32 → Int32 → Int32 → Int32 → vS → Option (Int32 × vS)} {f : Int} (hr : c_rec rec f) (b c d e : Int32) (he : e.toInt = f) (s : vS) (h : c_kinds s) : v_T (f_Cl_atTop rec b c d e s) (fun _ t => v_F c_ac s t) := by
  unfold f_Cl_atTop
  refine v_Tif (fun _ => v_Tret v_F_rf) (fun _ => v_Tif (fun _ => ?_) (fun _ => v_Tif (fun _ => ?_) (fun _ => v_Tif (fun _ => v_Tret v_F_rf) (fun _ => v_Tret v_F_rf))))
  · refine v_FTb v_F_rf (q_own hr _ _ _ _ he s h) (fun _ t ht => ?_)
    exact v_FTb ht (q_own hr _ _ _ _ he t (c_kinds_F h ht)) (fun _ t ht => v_Tret ht)
  · exact v_FTb v_F_rf (q_own hr _ _ _ _ he s h) (fun _ t ht => v_Tret ht)
theorem q_changedC {rec : Int32 → Int32 → Int32 → Int32 → Int32 → vS → Option (Int32 × vS)} {f : Int} (hr : c_rec rec f) (b c d e : Int32) (he : e.toInt = f) (s : vS) (h : c_kinds s) : v_T (f_Cl_changed rec b c d e s) (fun _ t => v_F c_ac s t) := by
  unfold f_Cl_changed
  repeat' first
    | ((with_reducible refine v_Tret ?_); (focus exact v_F_rf))
    | ((with_reducible refine v_Tret ?_); (focus exact (by assumption)))
    | with_reducible refine v_FTb v_F_rf (q_own hr _ _ _ _ he s h) (fun _ _ _ => ?_)
    | with_reducible refine v_Tif (fun _ => ?_) (fun _ => ?_)
theorem q_fromL {rec : Int32 → Int32 → Int32 → Int32 → Int32 → vS → Option (Int32 × vS)} {p2 p3 p4 p5 : Int32} {s : vS} {k : Int32 → vS → Option (Int32 × vS)} {Q : Int32 → vS → Prop} (hk : ∀ w, (-1 ≤ w.toInt ∧ w.toInt ≤ 7) → v_T (k w s) Q) : ∀ (m n : Nat) (u v : Int32), v.toInt + m = 8 → (-1 ≤ u.toInt ∧ u.toInt ≤ 7) → m < n → v_T (f_Cl_from_L6 rec p2 p3 p4 p5 k n u v s) Q := by
  intro m
  induction m with
  | zero =>
    intro n u v hm hu hn
    obtain ⟨n, rfl⟩ : ∃ q, n = q + 1 := ⟨n - 1, by omega⟩
    show v_T (f_Cl_from_L6b rec p2 p3 p4 p5 k (f_Cl_from_L6 rec p2 p3 p4 p5 k n) u v s) _
    unfold f_Cl_from_L6b
    rw [if_pos (by omega)]
    exact hk u hu
  | succ m ih =>
    intro n u v hm hu hn
    obtain ⟨n, rfl⟩ : ∃ q, n = q + 1 := ⟨n - 1, by omega⟩
    show v_T (f_Cl_from_L6b rec p2 p3 p4 p5 k (f_Cl_from_L6 rec p2 p3 p4 p5 k n) u v s) _
    unfold f_Cl_from_L6b
    have e1 := v_inc (x := v) (by omega)
    refine v_Tif (fun _ => hk u hu) (fun _ => v_Tif (fun _ => hk u hu) (fun _ => ?_))
    refine v_Tbi (n_codeOf u p3 s hu.2) ?_
    rintro _ _ rfl
    refine v_Tif (fun _ => ?_) (fun _ => hk u hu)
    refine v_Tbi (n_above u _) ?_
    rintro r _ ⟨rfl, hr⟩
    exact ih n _ _ (by omega) hr (by omega)
theorem q_from : ∀ (n : Nat) (f : Int), 0 ≤ f → 42 ≤ f + n → f ≤ 41 → c_rec (f_Cl_from n) f := by
  intro n
  induction n with
  | zero => intro f h0 h1 h2; omega
  | succ n ih =>
    intro f h0 h1 h2 b c d e g s hb hg h
    show v_T (f_Cl_fromb (f_Cl_from n) b c d e g s) _
    unfold f_Cl_fromb
    refine q_fromL (fun w hw => ?_) 8 4096 b 0 (by decide) hb (by decide)
    refine v_Tif (fun _ => v_Tret v_F_rf) (fun _ => v_Tif (fun hg40 => ?_) (fun _ => v_Tret v_F_rf))
    have e1 : (g + (1 : Int32)).toInt = f + 1 := by rw [v_inc (by omega), hg]
    have hr := ih (f + 1) (by omega) (by omega) (by omega)
    refine v_Tbi (n_codeOf w d s hw.2) ?_
    rintro r _ rfl
    refine v_FTb v_F_rf (q_note r _) (fun _ t ht => ?_)
    have hkt := c_kinds_F h ht
    refine v_Tif (fun _ => v_FTb ht (q_atTop hr _ _ _ _ e1 t hkt) (fun _ t ht => v_Tret ht)) (fun _ => ?_)
    refine v_Tbi (n_above w t) ?_
    rintro r2 _ ⟨rfl, hr2⟩
    refine v_Tif (fun _ => ?_) (fun _ => ?_)
    · refine v_FTb ht (hr _ _ _ _ _ _ hr2 e1 hkt) (fun _ u hu => ?_)
      exact v_FTb hu (q_changedC hr _ _ _ _ e1 u (c_kinds_F h hu)) (fun _ t ht => v_Tret ht)
    · refine v_FTb ht (hr _ _ _ _ _ _ hr2 e1 hkt) (fun _ u hu => ?_)
      exact v_FTb hu (q_changedC hr _ _ _ _ e1 u (c_kinds_F h hu)) (fun _ t ht => v_Tret ht)
theorem q_Olact (b c d : Int32) (s : vS) (h : c_kinds s) : v_T (f_Ol_act b c d s) (fun _ t => v_F c_ac s t) := by
  unfold f_Ol_act f_Cl_perform
  refine v_Tbi (P := fun _ t => v_F c_ac s t) (v_FTw (P := c_ac) v_F_rf (by unfold c_ac; omega) (fun t ht => ?_)) (fun _ t ht => v_Tret ht)
  refine v_Tbi (n_Clknows b t) ?_
  rintro _ _ rfl
  refine v_Tif (fun _ => v_Tret ht) (fun _ => v_Tif (fun _ => v_Tret ht) (fun _ => v_Tif (fun _ => ?_) (fun _ => v_Tret ht)))
  exact v_FTb ht (q_own (q_from 64 0 (by decide) (by decide) (by decide)) _ _ _ _ rfl _ (c_kinds_F h ht)) (fun _ t ht => v_Tret ht)
theorem n_ClUnder_L (p : Int32) : ∀ (m n : Nat) (u v : Int32) (s : vS), v.toInt + m = 8 → m < n → v_T (f_Cl_isUnder_L4 p (fun s1 => (some (0, s1))) n u v s) (fun _ t => t = s) := by
  intro m
  induction m with
  | zero =>
    intro n u v s hm hn
    obtain ⟨n, rfl⟩ : ∃ q, n = q + 1 := ⟨n - 1, by omega⟩
    unfold f_Cl_isUnder_L4
    show v_T (f_Cl_isUnder_L4b p _ (f_Cl_isUnder_L4 p _ n) u v s) _
    unfold f_Cl_isUnder_L4b
    rw [if_pos (by omega)]
    exact v_Tret rfl
  | succ m ih =>
    intro n u v s hm hn
    obtain ⟨n, rfl⟩ : ∃ q, n = q + 1 := ⟨n - 1, by omega⟩
    unfold f_Cl_isUnder_L4
    show v_T (f_Cl_isUnder_L4b p _ (f_Cl_isUnder_L4 p _ n) u v s) _
    unfold f_Cl_isUnder_L4b
    have e1 := v_inc (x := v) (by omega)
    refine v_Tif (fun _ => v_Tret rfl) (fun _ => v_Tif (fun _ => v_Tret rfl) (fun _ => v_Tif (fun _ => v_Tret rfl) (fun _ => ?_)))
    refine v_Tbi (n_above _ _) ?_
    rintro _ _ ⟨rfl, _⟩
    exact ih n _ _ _ (by omega) (by omega)
theorem n_ClUnder (b c : Int32) (s : vS) : v_T (f_Cl_isUnder b c s) (fun _ t => t = s) := by
  unfold f_Cl_isUnder
  exact n_ClUnder_L c 8 4096 b 0 s (by decide) (by decide)
def v_CI (s : vS) : Prop := v_KC s ∧ c_kinds s ∧ (0 ≤ (s.1 132 0).toInt ∧ (s.1 132 0).toInt ≤ 50)
theorem v_CI_B {s t : vS} (h : v_CI s) (hf : v_F c_B s t) (hk : c_kinds t) (hm : 0 ≤ (t.1 132 0).toInt ∧ (t.1 132 0).toInt ≤ 50) : v_CI t := ⟨v_KC_F h.1 hf, hk, hm⟩
theorem v_CI_S {s t : vS} (h : v_CI s) (hf : v_F c_S s t) (hz : ∀ a, v_kd a = 6 → 0 ≤ (t.1 a 2).toInt ∧ (t.1 a 2).toInt ≤ 60) : v_CI t := by
  refine ⟨v_KC_S h.1 hf hz, fun j hj => ?_, ?_⟩
  · rw [(hf 133 j (by unfold c_S; omega)).1]; exact h.2.1 j hj
  · rw [(hf 132 0 (by unfold c_S; omega)).1]; exact h.2.2
theorem v_fA_F {s t : vS} (h : v_fA s t) : v_F c_A s t := fun a j hb => h a j (by unfold c_A at hb; omega) (by unfold c_A at hb; omega)
theorem q_gI {α : Type} {s : vS} {o : Option (α × vS)} (h : v_CI s) (ho : v_KC s → v_T o (fun _ t => v_g s t)) : v_T o (fun _ t => v_CI t ∧ v_F c_A s t) := v_Tm (ho h.1) (fun _ t ht => ⟨⟨ht.1 h.1, fun j hj => by rw [(ht.2 133 j (by decide) (by decide)).1]; exact h.2.1 j hj, by rw [(ht.2 132 0 (by decide) (by decide)).1]; exact h.2.2⟩, v_fA_F ht.2⟩)
theorem q_qI {α : Type} {s : vS} {o : Option (α × vS)} (h : v_CI s) (ho : v_KQ s → v_T o (fun _ t => v_fr s t)) : v_T o (fun _ t => v_CI t ∧ v_F c_A s t) := q_gI h (fun hc => v_Tm (ho hc.1) (fun _ t ht => v_g_fr ht))
theorem c_body (b : Int32) (s : vS) (h : v_CI s) : v_T (f_Ol_body b s) (fun _ t => v_CI t ∧ v_F c_B s t) := by
  have hm := h.2.2
  unfold f_Ol_body f_Cl_isKind
  refine v_Tbi (P := fun r t => t = s ∧ (r.toInt = 0 ∨ (0 ≤ b.toInt ∧ b.toInt ≤ 7))) (v_Tif (fun _ => v_Tret ⟨rfl, Or.inl rfl⟩) (fun h1 => v_Tif (fun _ => v_Tret ⟨rfl, Or.inl rfl⟩) (fun h2 => v_Tret ⟨rfl, Or.inr ⟨by omega, by omega⟩⟩))) ?_
  rintro r _ ⟨rfl, hr⟩
  refine v_Tif (fun _ => v_Tret ⟨h, v_F_rf⟩) (fun hn => ?_)
  have hb := hr.resolve_left hn
  refine v_Tbi (P := fun _ t => v_CI t ∧ v_F c_B _ t) ?_ (fun r t ht => v_Tif (fun _ => v_Tret ht) (fun _ => v_Tret ht))
  unfold f_Cl_add
  refine v_Tif (fun _ => v_Tret ⟨h, v_F_rf⟩) (fun _ => v_Tif (fun hc => v_Tck ⟨by omega, by omega⟩ (v_Tlet (v_Tlet (v_Tret ?_)))) (fun _ => v_Tret ⟨h, v_F_rf⟩))
  rename_i s _
  have hf : v_F c_B s (v_w1 (v_w1 s 133 (Int32.toNatClampNeg (s.1 132 0)) b) 132 0 ((v_w1 s 133 (Int32.toNatClampNeg (s.1 132 0)) b).1 132 0 + 1)) := v_F_w1 (v_F_w1 v_F_rf (by unfold c_B; omega)) (by unfold c_B; omega)
  refine ⟨v_CI_B h hf (fun j hj => ?_) ?_, hf⟩
  · rw [v_w1_1, if_neg (by omega), v_w1_1]
    by_cases hz : (133 : Nat) = 133 ∧ j = Int32.toNatClampNeg (s.1 132 0)
    · rw [if_pos hz]; exact hb
    · rw [if_neg hz]; exact h.2.1 j hj
  · rw [v_w1_1, if_pos ⟨rfl, rfl⟩, v_w1_1, if_neg (by omega), v_inc (by omega)]
    omega
theorem c_act (b c d : Int32) (s : vS) (h : v_CI s) : v_T (f_Ol_act b c d s) (fun _ t => v_CI t ∧ v_F c_B s t) := v_Tm (q_Olact b c d s h.2.1) (fun _ t ht => by
  have hf : v_F c_B s t := v_F_im ht (fun a j q => by unfold c_ac at q; unfold c_B; omega)
  exact ⟨v_CI_B h hf (c_kinds_F h.2.1 ht) (by rw [(ht 132 0 (by unfold c_ac; omega)).1]; exact h.2.2), hf⟩)
theorem c_trace (b : Int32) (s : vS) : v_T (f_Ol_trace b s) (fun _ t => t = s) := by
  unfold f_Ol_trace f_Cl_traced
  refine v_Tbi (P := fun _ t => t = s) (v_Tif (fun _ => v_Tret rfl) (fun _ => v_Tif (fun _ => v_Tret rfl) (fun _ => v_Tif (fun _ => v_Tret rfl) (fun _ => v_Tck ⟨by omega, by omega⟩ (v_Tret rfl))))) ?_
  rintro _ _ rfl
  exact v_Tret rfl
theorem n_shAt (b : Int32) (s : vS) (hb : 0 ≤ b.toInt ∧ b.toInt ≤ 5) : v_T (f_Ol_shelfAt b s) (fun r t => t = s ∧ v_kd r = 6 ∧ (139 ≤ r ∧ r ≤ 149)) := by
  unfold f_Ol_shelfAt
  have hv : v_in b 6 := ⟨hb.1, by omega⟩
  have h := v_ii hv.1 hv.2
  exact v_Tif (fun _ => by omega) (fun _ => v_Tif (fun _ => by omega) (fun _ => v_Tck hv (v_Tck hv (v_Tret ⟨rfl, (v_shelves h).2, by omega⟩))))
theorem n_isShelf2 (b : Int32) (s : vS) : v_T (f_Ol_isShelf b s) (fun r t => t = s ∧ (r.toInt = 0 ∨ (0 ≤ b.toInt ∧ b.toInt ≤ 5))) := by
  unfold f_Ol_isShelf
  exact v_Tif (fun _ => v_Tret ⟨rfl, Or.inl rfl⟩) (fun _ => v_Tif (fun _ => v_Tret ⟨rfl, Or.inl rfl⟩) (fun _ => v_Tret ⟨rfl, Or.inr ⟨by omega, by omega⟩⟩))
theorem c_S1 {s : vS} (h : v_CI s) {a j : Nat} {x : Int32} (ha : 139 ≤ a ∧ a ≤ 149) (hj : j ≠ 2) : v_CI (v_w1 s a j x) ∧ v_F c_S s (v_w1 s a j x) := by
  have hf : v_F c_S s (v_w1 s a j x) := v_F_w1 v_F_rf (by unfold c_S; omega)
  exact ⟨v_CI_S h hf (fun b hb => by rw [v_w1_1, if_neg (by omega)]; exact h.1.1.2 b hb), hf⟩
theorem c_S2 {s : vS} (h : v_CI s) {a j : Nat} {x : Int64} (ha : 139 ≤ a ∧ a ≤ 150) : v_CI (v_w2 s a j x) ∧ v_F c_S s (v_w2 s a j x) := by
  have hf : v_F c_S s (v_w2 s a j x) := v_F_w2 v_F_rf (by unfold c_S; omega)
  exact ⟨v_CI_S h hf (fun b hb => h.1.1.2 b hb), hf⟩
theorem c_keep (b c : Int32) (s : vS) (h : v_CI s) : v_T (f_Ol_keep b c s) (fun _ t => v_CI t ∧ v_F c_S s t) := by
  unfold f_Ol_keep
  refine v_Tbi (n_isShelf2 b s) ?_
  rintro r s ⟨rfl, hr⟩
  refine v_Tif (fun _ => v_Tret ⟨h, v_F_rf⟩) (fun hn => ?_)
  have hb := hr.resolve_left hn
  have hbare : v_T (v_bi (f_Ol_shelfAt b s) (fun r5 s5 => if v_kd r5 = 6 then (v_bi (f_Sh_bare r5 s5) (fun _ s7 => (some ((1 : Int32), s7)))) else none)) (fun _ t => v_CI t ∧ v_F c_S s t) := by
    refine v_Tbi (n_shAt b s hb) ?_
    rintro r s ⟨rfl, h6, hr⟩
    rw [if_pos h6]
    unfold f_Sh_bare
    exact v_Tbi (P := fun _ t => v_CI t ∧ v_F c_S _ t) (v_Tlet (v_Tret (c_S1 h hr (by decide)))) (fun _ t ht => v_Tret ht)
  have hbody : v_T (v_bi (f_Ol_shelfAt b s) (fun r8 s8 => if v_kd r8 = 6 then (v_bi (f_Sh_takeBody r8 c s8) (fun _ s10 => (some ((1 : Int32), s10)))) else none)) (fun _ t => v_CI t ∧ v_F c_S s t) := by
    refine v_Tbi (n_shAt b s hb) ?_
    rintro r s ⟨rfl, h6, hr⟩
    rw [if_pos h6]
    unfold f_Sh_takeBody
    have h1 := c_S1 h (x := 5) hr (j := 0) (by decide)
    have h2 := c_S1 h1.1 (x := c) hr (j := 1) (by decide)
    exact v_Tbi (P := fun _ t => v_CI t ∧ v_F c_S _ t) (v_Tlet (v_Tlet (v_Tret ⟨h2.1, v_F_tr h1.2 h2.2⟩))) (fun _ t ht => v_Tret ht)
  refine v_Tif (fun _ => v_Tif (fun _ => hbare) (fun _ => hbody)) (fun _ => ?_)
  refine v_Tbi (n_Clknows c s) ?_
  rintro _ s rfl
  exact v_Tif (fun _ => v_Tret ⟨h, v_F_rf⟩) (fun _ => v_Tif (fun _ => hbare) (fun _ => hbody))
theorem c_takeL (p : Nat) (hp : 139 ≤ p ∧ p ≤ 149) {s0 : vS} {k : vS → Option (Unit × vS)} {Q : Unit → vS → Prop} (hk : ∀ t, v_F c_S s0 t → t.1 = s0.1 → v_T (k t) Q) : ∀ (m n : Nat) (v : Int32) (s : vS), v.toInt + m = 60 → 0 ≤ v.toInt → v_F c_S s0 s → s.1 = s0.1 → m < n → v_T (f_Sh_takeRow_L12 p k n v s) Q := by
  intro m
  induction m with
  | zero =>
    intro n v s hm hv h0 h1 hn
    obtain ⟨n, rfl⟩ : ∃ q, n = q + 1 := ⟨n - 1, by omega⟩
    show v_T (f_Sh_takeRow_L12b p k (f_Sh_takeRow_L12 p k n) v s) _
    unfold f_Sh_takeRow_L12b
    rw [if_pos (by omega)]
    exact hk s h0 h1
  | succ m ih =>
    intro n v s hm hv h0 h1 hn
    obtain ⟨n, rfl⟩ : ∃ q, n = q + 1 := ⟨n - 1, by omega⟩
    show v_T (f_Sh_takeRow_L12b p k (f_Sh_takeRow_L12 p k n) v s) _
    unfold f_Sh_takeRow_L12b
    have e1 := v_inc (x := v) (by omega)
    rw [if_neg (by omega)]
    exact v_Tck ⟨hv, by omega⟩ (v_Tlet (ih n _ _ (by omega) (by omega) (v_F_w2 h0 (by unfold c_S; omega)) h1 (by omega)))
theorem c_row (b c d : Int32) (s : vS) (h : v_CI s) : v_T (f_Ol_row b c d s) (fun _ t => v_CI t ∧ v_F c_S s t) := by
  unfold f_Ol_row
  refine v_Tbi (n_isShelf2 b s) ?_
  rintro r s ⟨rfl, hr⟩
  refine v_Tif (fun _ => v_Tret ⟨h, v_F_rf⟩) (fun hn => ?_)
  have hb := hr.resolve_left hn
  refine v_Tbi (show v_T (f_Sh_isSort c s) (fun _ t => t = s) from by
    unfold f_Sh_isSort
    exact v_Tif (fun _ => v_Tret rfl) (fun _ => v_Tif (fun _ => v_Tret rfl) (fun _ => v_Tret rfl))) ?_
  rintro _ s rfl
  refine v_Tif (fun _ => v_Tret ⟨h, v_F_rf⟩) (fun _ => v_Tif (fun hd => v_Tif (fun hd0 => ?_) (fun _ => v_Tret ⟨h, v_F_rf⟩)) (fun _ => v_Tret ⟨h, v_F_rf⟩))
  refine v_Tbi (n_shAt b _ hb) ?_
  rintro r s ⟨rfl, h6, hr⟩
  rw [if_pos h6]
  unfold f_Sh_takeRow
  refine v_Tbi (P := fun _ t => v_CI t ∧ v_F c_S _ t) (v_Tlet (v_Tlet ?_)) (fun _ t ht => v_Tret ht)
  refine c_takeL r hr (fun t ht h1 => v_Tret ?_) 60 4096 0 _ (by decide) (by decide) v_F_rf rfl (by decide)
  have hf : v_F c_S _ t := v_F_tr (v_F_w1 (v_F_w1 v_F_rf (by unfold c_S; omega)) (by unfold c_S; omega)) ht
  refine ⟨v_CI_S h hf (fun a ha => ?_), hf⟩
  rw [h1, v_w1_1]
  by_cases hz : a = r ∧ 2 = 2
  · rw [if_pos hz]; omega
  · rw [if_neg hz, v_w1_1, if_neg (by omega)]
    exact h.1.1.2 a ha
theorem n_isRow (a : Nat) (s : vS) : v_T (f_Sh_isRow a s) (fun _ t => t = s) := by
  unfold f_Sh_isRow f_Sh_isSort
  refine v_Tbi (P := fun r t => t = s ∧ (r = 0 ∨ r = 1)) (v_Tif (fun _ => v_Tret ⟨rfl, Or.inl rfl⟩) (fun _ => v_Tif (fun _ => v_Tret ⟨rfl, Or.inl rfl⟩) (fun _ => v_Tret ⟨rfl, Or.inr rfl⟩))) ?_
  rintro r s ⟨rfl, hr⟩
  exact v_Tck hr (v_Tret rfl)
theorem n_hasPlaces (a : Nat) (b c : Int32) (s : vS) : v_T (f_Sh_hasPlaces a b c s) (fun r t => t = s ∧ (r.toInt = 0 ∨ (0 ≤ b.toInt ∧ 0 ≤ c.toInt ∧ c.toInt ≤ (s.1 a 2).toInt ∧ b.toInt ≤ ((s.1 a 2) - c).toInt))) := by
  unfold f_Sh_hasPlaces
  exact v_Tif (fun _ => v_Tret ⟨rfl, Or.inl rfl⟩) (fun _ => v_Tif (fun _ => v_Tret ⟨rfl, Or.inl rfl⟩) (fun _ => v_Tif (fun _ => v_Tret ⟨rfl, Or.inl rfl⟩) (fun _ => v_Tif (fun _ => v_Tret ⟨rfl, Or.inl rfl⟩) (fun _ => v_Tret ⟨rfl, Or.inr ⟨by omega, by omega, by omega, by omega⟩⟩))))
theorem n_refEl (b c : Int32) (s : vS) : v_T (f_Ol_refusalOfElement b c s) (fun r t => t = s ∧ (r.toInt = 0 → 0 ≤ b.toInt ∧ b.toInt ≤ 5)) := by
  unfold f_Ol_refusalOfElement
  refine v_Tbi (n_isShelf2 b s) ?_
  rintro r s ⟨rfl, hr⟩
  refine v_Tif (fun _ => v_Tret ⟨rfl, fun q => absurd q (by decide)⟩) (fun hn => ?_)
  have hb := hr.resolve_left hn
  refine v_Tbi (n_shAt b _ hb) ?_
  rintro r2 s ⟨rfl, h6, _⟩
  refine v_Tck h6 ?_
  refine v_Tbi (n_isBare ..) ?_
  rintro _ s rfl
  refine v_Tif (fun _ => ?_) (fun _ => v_Tret ⟨rfl, fun _ => hb⟩)
  refine v_Tbi (n_isRow ..) ?_
  rintro _ s rfl
  refine v_Tif (fun _ => v_Tret ⟨rfl, fun _ => hb⟩) (fun _ => ?_)
  refine v_Tbi (n_hasPlaces ..) ?_
  rintro _ _ ⟨rfl, _⟩
  exact v_Tif (fun _ => v_Tret ⟨rfl, fun _ => hb⟩) (fun _ => v_Tret ⟨rfl, fun _ => hb⟩)
theorem n_cut (a : Nat) (b : Int64) (s : vS) : v_T (f_Sh_cut a b s) (fun _ t => t = s) := by
  unfold f_Sh_cut
  repeat' first
    | ((with_reducible refine v_Tret ?_); (focus exact rfl))
    | ((with_reducible refine v_Tret ?_); exact ⟨rfl, by first | assumption | decide | omega | exact Or.inl rfl | exact Or.inr rfl⟩)
    | ((with_reducible refine v_Tck ?_ ?_); (focus first | assumption | exact ⟨by omega, by omega⟩ | decide | omega))
    | with_reducible refine v_Tif (fun _ => ?_) (fun _ => ?_)
theorem c_put (b c : Int32) (d : Int64) (s : vS) (h : v_CI s) : v_T (f_Ol_put b c d s) (fun _ t => v_CI t ∧ v_F c_S s t) := by
  unfold f_Ol_put
  refine v_Tbi (n_refEl b c s) ?_
  rintro r s ⟨rfl, hr⟩
  refine v_Tif (fun hz => ?_) (fun _ => v_Tret ⟨h, v_F_rf⟩)
  refine v_Tbi (n_shAt b _ (hr hz)) ?_
  rintro r2 s ⟨rfl, h6, hr2⟩
  rw [if_pos h6]
  refine v_Tbi (P := fun _ t => v_CI t ∧ v_F c_S _ t) ?_ (fun _ t ht => v_Tret ht)
  unfold f_Sh_set
  refine v_Tif (fun _ => v_Tret ⟨h, v_F_rf⟩) (fun _ => v_Tif (fun _ => v_Tret ⟨h, v_F_rf⟩) (fun _ => v_Tif (fun _ => v_Tret ⟨h, v_F_rf⟩) (fun _ => ?_)))
  refine v_Tbi (n_cut ..) ?_
  rintro _ s rfl
  exact v_Tck ⟨by omega, by omega⟩ (v_Tlet (v_Tret (c_S2 h (by omega))))
theorem c_element (b c : Int32) (s : vS) : v_T (f_Ol_element b c s) (fun _ t => t = s) := by
  unfold f_Ol_element
  refine v_Tbi (n_refEl b c s) ?_
  rintro r s ⟨rfl, hr⟩
  refine v_Tif (fun hz => ?_) (fun _ => v_Tret rfl)
  refine v_Tbi (n_shAt b _ (hr hz)) ?_
  rintro r2 s ⟨rfl, h6, hr2⟩
  refine v_Tck h6 ?_
  refine v_Tbi (n_Shat ..) ?_
  rintro _ s rfl
  exact v_Tret rfl
theorem v_F_cp2 {P : Nat → Nat → Prop} {s t : vS} {a sp b dp n : Nat} (h : v_F P s t) (hs : ∀ j, P b j) : v_F P s (v_cp2 t a sp b dp n) := fun c j hc => ⟨(h c j hc).1, by
  show (if c = b ∧ dp ≤ j ∧ j < dp + n then t.2 a (sp + (j - dp)) else t.2 c j) = _
  rw [if_neg (fun q => hc (by rw [q.1]; exact hs j))]
  exact (h c j hc).2⟩
theorem c_shift (b c d e f : Int32) (s : vS) (h : v_CI s) : v_T (f_Ol_shift b c d e f s) (fun _ t => v_CI t ∧ v_F c_S s t) := by
  unfold f_Ol_shift
  refine v_Tbi (n_isShelf2 b s) ?_
  rintro r s ⟨rfl, hr⟩
  refine v_Tif (fun _ => v_Tret ⟨h, v_F_rf⟩) (fun hn => ?_)
  have hb := hr.resolve_left hn
  refine v_Tbi (n_isShelf2 d _) ?_
  rintro r s ⟨rfl, hr⟩
  refine v_Tif (fun _ => v_Tret ⟨h, v_F_rf⟩) (fun hn2 => ?_)
  have hd := hr.resolve_left hn2
  refine v_Tbi (n_shAt b _ hb) ?_
  rintro r1 s ⟨rfl, h61, hr1⟩
  refine v_Tck h61 ?_
  refine v_Tbi (n_shAt d _ hd) ?_
  rintro r2 s ⟨rfl, h62, hr2⟩
  refine v_Tck h62 ?_
  refine v_Tbi (n_isBare ..) ?_
  rintro _ s rfl
  refine v_Tif (fun _ => ?_) (fun _ => v_Tret ⟨h, v_F_rf⟩)
  refine v_Tbi (n_isBare ..) ?_
  rintro _ s rfl
  refine v_Tif (fun _ => ?_) (fun _ => v_Tret ⟨h, v_F_rf⟩)
  refine v_Tbi (n_isRow ..) ?_
  rintro _ s rfl
  refine v_Tif (fun _ => v_Tret ⟨h, v_F_rf⟩) (fun _ => v_Tif (fun _ => ?_) (fun _ => v_Tret ⟨h, v_F_rf⟩))
  refine v_Tbi (n_hasPlaces ..) ?_
  rintro _ _ ⟨rfl, _⟩
  refine v_Tif (fun _ => v_Tret ⟨h, v_F_rf⟩) (fun _ => ?_)
  refine v_Tbi (n_hasPlaces ..) ?_
  rintro _ _ ⟨rfl, _⟩
  refine v_Tif (fun _ => v_Tret ⟨h, v_F_rf⟩) (fun _ => ?_)
  refine v_Tbi (P := fun _ t => v_CI t ∧ v_F c_S _ t) ?_ (fun _ t ht => v_Tret ht)
  unfold f_Sh_copyFrom
  refine v_Tbi (n_hasPlaces ..) ?_
  rintro _ s ⟨rfl, q1⟩
  refine v_Tif (fun _ => v_Tret ⟨h, v_F_rf⟩) (fun z1 => ?_)
  refine v_Tbi (n_hasPlaces ..) ?_
  rintro _ s ⟨rfl, q2⟩
  refine v_Tif (fun _ => v_Tret ⟨h, v_F_rf⟩) (fun z2 => ?_)
  obtain ⟨p1, p2, p3, p4⟩ := q1.resolve_left z1
  obtain ⟨o1, o2, o3, o4⟩ := q2.resolve_left z2
  have k1 := h.1.1.2 r1 h61
  have k2 := h.1.1.2 r2 h62
  rw [v_sub (by omega) (by omega)] at p4 o4
  refine v_Tck ⟨p1, o1, p2, by omega, by omega⟩ (v_Tlet (v_Tret ?_))
  have hf := v_F_cp2 (P := c_S) (s := s) (t := s) (a := r1 + 1) (sp := Int32.toNatClampNeg c) (b := r2 + 1) (dp := Int32.toNatClampNeg e) (n := Int32.toNatClampNeg f) (v_F_rf (P := c_S)) (fun j => by unfold c_S; omega)
  exact ⟨v_CI_S h hf (fun a ha => h.1.1.2 a ha), hf⟩
theorem c_taken (b c : Int32) (s : vS) : v_T (f_Ol_taken b c s) (fun _ t => t = s) := by
  unfold f_Ol_taken
  refine v_Tbi (n_isShelf2 b s) ?_
  rintro r s ⟨rfl, hr⟩
  refine v_Tif (fun _ => v_Tret rfl) (fun hn => ?_)
  have hb := hr.resolve_left hn
  refine v_Tbi (n_isKind ..) ?_
  rintro _ s rfl
  refine v_Tif (fun _ => v_Tret rfl) (fun _ => ?_)
  refine v_Tbi (n_shAt b _ hb) ?_
  rintro r2 s ⟨rfl, h6, hr2⟩
  refine v_Tck h6 ?_
  refine v_Tbi (n_isBare ..) ?_
  rintro _ s rfl
  refine v_Tif (fun _ => v_Tif (fun _ => ?_) (fun _ => ?_)) (fun _ => v_Tret rfl)
  · refine v_Tbi (n_kindOf ..) ?_
    rintro _ s rfl
    refine v_Tbi (n_ClUnder ..) ?_
    rintro _ s rfl
    exact v_Tif (fun _ => v_Tret rfl) (fun _ => v_Tret rfl)
  · refine v_Tbi (n_ClUnder ..) ?_
    rintro _ s rfl
    exact v_Tif (fun _ => v_Tret rfl) (fun _ => v_Tret rfl)
