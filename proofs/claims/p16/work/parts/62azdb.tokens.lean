/-! what tokens a text is made of -/
def t_ok (q : Int32 × Int32) : Prop := q.1.toInt = 1 ∨ q.1.toInt = 2 ∨ q.1.toInt = 3 ∨ q.1.toInt = 4 ∨ q.1.toInt = 37 ∨ q.1.toInt = 38 ∨ q.1.toInt = 42 ∨ q.1.toInt = 43 ∨ q.1.toInt = 45 ∨ q.1.toInt = 47 ∨ q.1.toInt = 60 ∨ q.1.toInt = 61 ∨ q.1.toInt = 62 ∨ q.1.toInt = 124
def t_al (l : List (Int32 × Int32)) : Prop := ∀ q, q ∈ l → t_ok q
theorem tk_nil : t_al [] := fun q h => by cases h
theorem t_app {l : List (Int32 × Int32)} {q : Int32 × Int32} (h : t_al l) (hq : t_ok q) : t_al (l ++ [q]) := fun x hx => by
  rcases List.mem_append.mp hx with z | z
  · exact h x z
  · rw [List.mem_singleton.mp z]
    exact hq
def t_P (P : gS → gR) : Prop := ∀ (i : Nat) (l : List (Int32 × Int32)), t_al l → t_al (P (i, l)).2.2
theorem t_th {r : gR} {k : gS → gR} (h : t_al r.2.2) (hk : t_al (k r.2).2.2) : t_al (g_th r k).2.2 := by
  unfold g_th
  by_cases hr : r.1 = true
  · rw [if_pos hr]; exact hk
  · rw [if_neg hr]; exact h
theorem t_q1 {c : Int32} (h : g_q1 c = true) : t_ok (c, 0) := by have h2 := of_decide_eq_true h; unfold t_ok; dsimp only; omega
theorem t_q2 {c : Int32} (h : g_q2 c = true) : t_ok (c, 0) := by have h2 := of_decide_eq_true h; unfold t_ok; dsimp only; omega
theorem t_q3 {c : Int32} (h : g_q3 c = true) : t_ok (c, 0) := by have h2 := of_decide_eq_true h; unfold t_ok; dsimp only; omega
theorem t_q4 {c : Int32} (h : g_q4 c = true) : t_ok (c, 0) := by have h2 := of_decide_eq_true h; unfold t_ok; dsimp only; omega
theorem t_q5 {c : Int32} (h : g_q5 c = true) : t_ok (c, 0) := by have h2 := of_decide_eq_true h; unfold t_ok; dsimp only; omega
theorem t_ch {g : Nat → Int32} {P : gS → gR} (hP : t_P P) {q : Int32 → Bool} (hq : ∀ c, q c = true → t_ok (c, 0)) : ∀ (k i : Nat) (l : List (Int32 × Int32)), t_al l → t_al (g_ch g P q k (i, l)).2.2
  | 0, _, _, h => h
  | k + 1, i, l, h => by
    show t_al (if q (g i) = true then g_th (P (i + 1, l)) (fun t => g_ch g P q k (t.1, t.2 ++ [(g i, 0)])) else ((true, (i, l)) : gR)).2.2
    by_cases hc : q (g i) = true
    · rw [if_pos hc]
      have h1 := hP (i + 1) l h
      exact t_th h1 (t_ch hP hq k _ _ (t_app h1 (hq _ hc)))
    · rw [if_neg hc]
      exact h
theorem t_pr {g : Nat → Int32} {P : gS → gR} (hP : t_P P) : t_P (g_pr g P) := fun i l h => t_th (hP i l h) (t_ch hP (fun _ => t_q1) 60 _ _ (hP i l h))
theorem t_su {g : Nat → Int32} {P : gS → gR} (hP : t_P P) : t_P (g_su g P) := fun i l h => t_th (t_pr hP i l h) (t_ch (t_pr hP) (fun _ => t_q2) 60 _ _ (t_pr hP i l h))
theorem t_cm {g : Nat → Int32} {P : gS → gR} (hP : t_P P) : t_P (g_cm g P) := fun i l h => by
  have h1 := t_su (g := g) hP i l h
  refine t_th h1 ?_
  generalize (g_su g P (i, l)).2 = t at h1 ⊢
  obtain ⟨j, m⟩ := t
  show t_al (if g_q3 (g j) = true then g_th (g_su g P (j + 1, m)) (fun u => ((true, (u.1, u.2 ++ [(g j, 0)])) : gR)) else ((true, (j, m)) : gR)).2.2
  by_cases hc : g_q3 (g j) = true
  · rw [if_pos hc]
    have h2 := t_su (g := g) hP (j + 1) m h1
    exact t_th h2 (t_app h2 (t_q3 hc))
  · rw [if_neg hc]
    exact h1
theorem t_bo {g : Nat → Int32} {P : gS → gR} (hP : t_P P) : t_P (g_bo g P) := fun i l h => t_th (t_cm hP i l h) (t_ch (t_cm hP) (fun _ => t_q4) 60 _ _ (t_cm hP i l h))
theorem t_ei {g : Nat → Int32} {P : gS → gR} (hP : t_P P) : t_P (g_ei g P) := fun i l h => t_th (t_bo hP i l h) (t_ch (t_bo hP) (fun _ => t_q5) 60 _ _ (t_bo hP i l h))
theorem t_op {g : Nat → Int32} {n : Nat} {po pe : gS → gR} (ho : t_P po) (he : t_P pe) : t_P (g_op g n po pe) := fun i l h => by
  unfold g_op
  dsimp only
  by_cases hn : (g_name (g i)).toInt < 0
  · rw [if_pos hn]
    by_cases h1 : (g i).toInt = 33 ∨ (g i).toInt = 45
    · rw [if_pos h1]
      by_cases hz : n = 0
      · rw [if_pos hz]; exact h
      · rw [if_neg hz]
        have h2 := ho (i + 1) l h
        refine t_th h2 (t_app h2 ?_)
        unfold t_ok
        by_cases h3 : (g i).toInt = 33
        · rw [if_pos h3]; exact Or.inr (Or.inr (Or.inl rfl))
        · rw [if_neg h3]; exact Or.inr (Or.inr (Or.inr (Or.inl rfl)))
    · rw [if_neg h1]
      by_cases h2 : (g i).toInt = 40
      · rw [if_pos h2]
        by_cases hz : n = 0
        · rw [if_pos hz]; exact h
        · rw [if_neg hz]
          have h3 := he (i + 1) l h
          refine t_th h3 ?_
          by_cases h4 : (g (pe (i + 1, l)).2.1).toInt = 41
          · rw [if_pos h4]; exact h3
          · rw [if_neg h4]; exact h3
      · rw [if_neg h2]
        by_cases h3 : g_dig (g i) = true
        · rw [if_pos h3]
          by_cases h4 : g_dig (g (g_num g 4 i 0).1) = true
          · rw [if_pos h4]; exact h
          · rw [if_neg h4]; exact t_app h (Or.inl rfl)
        · rw [if_neg h3]; exact h
  · rw [if_neg hn]
    exact t_app h (Or.inr (Or.inl rfl))
theorem t_O {g : Nat → Int32} : ∀ n, t_P (g_O g n)
  | 0 => t_op (fun _ _ h => h) (fun _ _ h => h)
  | n + 1 => t_op (t_O n) (t_ei (t_O n))
theorem t_E {g : Nat → Int32} : t_P (g_E g) := t_ei (t_O 6)
def g_tok (acc : List gL) : Prop := ∀ ln, ln ∈ acc → t_al ln.1 ∧ t_al ln.2
theorem t_li {g : Nat → Int32} {i : Nat} : t_al (g_li g i).2.2.1 ∧ t_al (g_li g i).2.2.2 := by
  unfold g_li
  by_cases h1 : (g_E g (i, [])).1 = true
  · rw [if_pos h1]
    by_cases h2 : (g (g_E g (i, [])).2.1).toInt = 63
    · rw [if_pos h2]
      exact ⟨t_E i [] tk_nil, t_E _ [] tk_nil⟩
    · rw [if_neg h2]
      exact ⟨tk_nil, t_E i [] tk_nil⟩
  · rw [if_neg h1]
    exact ⟨tk_nil, tk_nil⟩
theorem t_snoc {acc : List gL} {ln : gL} (h : g_tok acc) (hl : t_al ln.1 ∧ t_al ln.2) : g_tok (acc ++ [ln]) := fun x hx => by
  rcases List.mem_append.mp hx with z | z
  · exact h x z
  · rw [List.mem_singleton.mp z]
    exact hl
theorem t_ls {g : Nat → Int32} {mny : Nat} : ∀ (k i : Nat) (acc : List gL), g_tok acc → g_tok (g_ls g mny k i acc).2.2
  | 0, _, _, h => h
  | k + 1, i, acc, h => by
    show g_tok (if (g_li g i).1 = true then (if (g (g_li g i).2.1).toInt = 59 then g_ls g mny k ((g_li g i).2.1 + 1) (acc ++ [(g_li g i).2.2]) else if mny ≤ (g_li g i).2.1 then (true, ((g_li g i).2.1, acc ++ [(g_li g i).2.2])) else (false, ((g_li g i).2.1, acc))) else ((false, ((g_li g i).2.1, acc)) : Bool × (Nat × List gL))).2.2
    by_cases h1 : (g_li g i).1 = true
    · rw [if_pos h1]
      by_cases h2 : (g (g_li g i).2.1).toInt = 59
      · rw [if_pos h2]
        exact t_ls k _ _ (t_snoc h t_li)
      · rw [if_neg h2]
        by_cases h3 : mny ≤ (g_li g i).2.1
        · rw [if_pos h3]; exact t_snoc h t_li
        · rw [if_neg h3]; exact h
    · rw [if_neg h1]; exact h
theorem tk_rd {g : Nat → Int32} {mny : Nat} : g_tok (g_rd g mny).2.2 := t_ls 61 0 [] (fun x hx => by cases hx)
