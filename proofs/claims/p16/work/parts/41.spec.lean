/-! the grammar of texts as a reader over letters: place, steps so far -/
abbrev gS : Type := Nat × List (Int32 × Int32)
abbrev gR : Type := Bool × gS
def g_ab (x : Int32) : Int32 := if 0 ≤ x.toInt ∧ x.toInt < 128 then x else -1
def g_name (b : Int32) : Int32 := if b.toInt = 100 then 3 else if b.toInt = 110 then 5 else if b.toInt = 116 then 4 else if b.toInt = 120 then 0 else if b.toInt = 121 then 1 else if b.toInt = 122 then 2 else -1
def g_dig (b : Int32) : Bool := decide (48 ≤ b.toInt) && decide (b.toInt ≤ 57)
def g_q1 (b : Int32) : Bool := decide (b.toInt = 42 ∨ b.toInt = 47 ∨ b.toInt = 37)
def g_q2 (b : Int32) : Bool := decide (b.toInt = 43 ∨ b.toInt = 45)
def g_q3 (b : Int32) : Bool := decide (b.toInt = 60 ∨ b.toInt = 61 ∨ b.toInt = 62)
def g_q4 (b : Int32) : Bool := decide (b.toInt = 38)
def g_q5 (b : Int32) : Bool := decide (b.toInt = 124)
/-- a step: how deep the pile is behind it -/
def r_st (q : Int32 × Int32) (d : Nat) : Option Nat := if q.1.toInt = 1 then (if 0 ≤ q.2.toInt ∧ q.2.toInt < 10000 then some (d + 1) else none) else if q.1.toInt = 2 then (if 0 ≤ q.2.toInt ∧ q.2.toInt < 6 then some (d + 1) else none) else if q.1.toInt = 3 ∨ q.1.toInt = 4 then (if 1 ≤ d then some d else none) else if 2 ≤ d ∧ 5 ≤ q.1.toInt ∧ q.1.toInt < 127 then some (d - 1) else none
def r_run : List (Int32 × Int32) → Nat → Option Nat
  | [], d => some d
  | q :: l, d => (r_st q d).bind (fun e => r_run l e)
theorem r_run_app : ∀ (l m : List (Int32 × Int32)) (d : Nat), r_run (l ++ m) d = (r_run l d).bind (fun e => r_run m e)
  | [], m, d => rfl
  | q :: l, m, d => by
    show (r_st q d).bind (fun e => r_run (l ++ m) e) = ((r_st q d).bind (fun e => r_run l e)).bind (fun e => r_run m e)
    cases r_st q d with
    | none => rfl
    | some e => exact r_run_app l m e
def g_th (r : gR) (k : gS → gR) : gR := if r.1 = true then k r.2 else r
def g_ch (g : Nat → Int32) (P : gS → gR) (q : Int32 → Bool) : Nat → gS → gR
  | 0, st => (true, st)
  | k + 1, st => if q (g st.1) = true then g_th (P (st.1 + 1, st.2)) (fun t => g_ch g P q k (t.1, t.2 ++ [(g st.1, 0)])) else (true, st)
def g_num (g : Nat → Int32) : Nat → Nat → Int32 → Nat × Int32
  | 0, i, v => (i, v)
  | k + 1, i, v => if g_dig (g i) = true then g_num g k (i + 1) (v * 10 + g i - 48) else (i, v)
def g_op (g : Nat → Int32) (n : Nat) (po pe : gS → gR) (st : gS) : gR :=
  if (g_name (g st.1)).toInt < 0 then
    (if (g st.1).toInt = 33 ∨ (g st.1).toInt = 45 then (if n = 0 then (false, st) else g_th (po (st.1 + 1, st.2)) (fun t => (true, (t.1, t.2 ++ [(if (g st.1).toInt = 33 then 3 else 4, 0)]))))
    else if (g st.1).toInt = 40 then (if n = 0 then (false, st) else g_th (pe (st.1 + 1, st.2)) (fun t => if (g t.1).toInt = 41 then (true, (t.1 + 1, t.2)) else (false, t)))
    else if g_dig (g st.1) = true then (if g_dig (g (g_num g 4 st.1 0).1) = true then (false, ((g_num g 4 st.1 0).1, st.2)) else (true, ((g_num g 4 st.1 0).1, st.2 ++ [(1, (g_num g 4 st.1 0).2)])))
    else (false, st))
  else (true, (st.1 + 1, st.2 ++ [(2, g_name (g st.1))]))
def g_pr (g : Nat → Int32) (P : gS → gR) (st : gS) : gR := g_th (P st) (g_ch g P g_q1 60)
def g_su (g : Nat → Int32) (P : gS → gR) (st : gS) : gR := g_th (g_pr g P st) (g_ch g (g_pr g P) g_q2 60)
def g_cm (g : Nat → Int32) (P : gS → gR) (st : gS) : gR := g_th (g_su g P st) (fun t => if g_q3 (g t.1) = true then g_th (g_su g P (t.1 + 1, t.2)) (fun u => (true, (u.1, u.2 ++ [(g t.1, 0)]))) else (true, t))
def g_bo (g : Nat → Int32) (P : gS → gR) (st : gS) : gR := g_th (g_cm g P st) (g_ch g (g_cm g P) g_q4 60)
def g_ei (g : Nat → Int32) (P : gS → gR) (st : gS) : gR := g_th (g_bo g P st) (g_ch g (g_bo g P) g_q5 60)
def g_O (g : Nat → Int32) : Nat → gS → gR
  | 0 => g_op g 0 (fun st => (false, st)) (fun st => (false, st))
  | n + 1 => g_op g (n + 1) (g_O g n) (g_ei g (g_O g n))
/-- an E at no depth yet -/
def g_E (g : Nat → Int32) (st : gS) : gR := g_ei g (g_O g 6) st
/-- what comes of a part: it goes on, its steps leave one number more -/
def g_po (i : Nat) (l : List (Int32 × Int32)) (r : gR) : Prop := i ≤ r.2.1 ∧ r.2.1 ≤ 60 ∧ (r.1 = true → i < r.2.1 ∧ ∃ d, r.2.2 = l ++ d ∧ d.length ≤ r.2.1 - i ∧ ∀ n, r_run d n = some (n + 1))
def g_pc (i : Nat) (l : List (Int32 × Int32)) (r : gR) : Prop := i ≤ r.2.1 ∧ r.2.1 ≤ 60 ∧ (r.1 = true → ∃ d, r.2.2 = l ++ d ∧ d.length ≤ r.2.1 - i ∧ ∀ n, r_run d (n + 1) = some (n + 1))
def g_ok (P : gS → gR) : Prop := ∀ i l, i ≤ 60 → g_po i l (P (i, l))
def g_ltr (g : Nat → Int32) : Prop := ∀ j, 60 ≤ j → g j = -1
theorem g_lt {g : Nat → Int32} (hg : g_ltr g) {i : Nat} (h : ¬ (g i).toInt = -1) : i < 60 := by
  by_cases hi : i < 60
  · exact hi
  · exact absurd (by rw [hg i (by omega)]; rfl) h
theorem g_th_po {i : Nat} {l : List (Int32 × Int32)} {r : gR} {k : gS → gR} (h : g_po i l r) (hk : r.1 = true → g_pc r.2.1 r.2.2 (k r.2)) : g_po i l (g_th r k) := by
  unfold g_th
  by_cases hr : r.1 = true
  · rw [if_pos hr]
    obtain ⟨a1, a2, a3⟩ := h
    obtain ⟨b0, d, b1, b2, b3⟩ := a3 hr
    obtain ⟨c1, c2, c3⟩ := hk hr
    refine ⟨by omega, c2, fun hq => ⟨by omega, ?_⟩⟩
    obtain ⟨e, e1, e2, e3⟩ := c3 hq
    refine ⟨d ++ e, by rw [e1, b1, List.append_assoc], by rw [List.length_append]; omega, fun n => ?_⟩
    rw [r_run_app, b3]
    exact e3 n
  · rw [if_neg hr]
    exact h
def g_bin (c : Int32) : Prop := 5 ≤ c.toInt ∧ c.toInt < 127
theorem g_q1b {c : Int32} (h : g_q1 c = true) : g_bin c := by
  have h2 := of_decide_eq_true h
  unfold g_bin
  omega
theorem g_q2b {c : Int32} (h : g_q2 c = true) : g_bin c := by
  have h2 := of_decide_eq_true h
  unfold g_bin
  omega
theorem g_q3b {c : Int32} (h : g_q3 c = true) : g_bin c := by
  have h2 := of_decide_eq_true h
  unfold g_bin
  omega
theorem g_q4b {c : Int32} (h : g_q4 c = true) : g_bin c := by
  have h2 := of_decide_eq_true h
  unfold g_bin
  omega
theorem g_q5b {c : Int32} (h : g_q5 c = true) : g_bin c := by
  have h2 := of_decide_eq_true h
  unfold g_bin
  omega
theorem r_st_bin {c v : Int32} {d : Nat} (h : g_bin c) (hd : 2 ≤ d) : r_st (c, v) d = some (d - 1) := by
  obtain ⟨h1, h2⟩ := h
  unfold r_st
  dsimp only
  rw [if_neg (by omega), if_neg (by omega), if_neg (by omega), if_pos ⟨hd, h1, h2⟩]
theorem g_bin_run {d : List (Int32 × Int32)} {c v : Int32} (hb : g_bin c) (h : ∀ n, r_run d n = some (n + 1)) : ∀ n, r_run (d ++ [(c, v)]) (n + 1) = some (n + 1) := by
  intro n
  rw [r_run_app, h]
  show (r_st (c, v) (n + 1 + 1)).bind (fun e => some e) = _
  rw [r_st_bin hb (by omega)]
  rfl
theorem g_ch_pc {g : Nat → Int32} (hg : g_ltr g) {P : gS → gR} (hP : g_ok P) {q : Int32 → Bool} (hq : ∀ c, q c = true → g_bin c) : ∀ (k i : Nat) (l : List (Int32 × Int32)), i ≤ 60 → g_pc i l (g_ch g P q k (i, l))
  | 0, i, l, hi => ⟨Nat.le_refl _, hi, fun _ => ⟨[], (List.append_nil l).symm, Nat.zero_le _, fun n => rfl⟩⟩
  | k + 1, i, l, hi => by
    show g_pc i l (if q (g i) = true then g_th (P (i + 1, l)) (fun t => g_ch g P q k (t.1, t.2 ++ [(g i, 0)])) else (true, (i, l)))
    by_cases hc : q (g i) = true
    · rw [if_pos hc]
      have hb := hq _ hc
      have hi6 : i < 60 := g_lt hg (by have := hb.1; omega)
      obtain ⟨a1, a2, a3⟩ := hP (i + 1) l (by omega)
      unfold g_th
      by_cases hr : (P (i + 1, l)).1 = true
      · rw [if_pos hr]
        dsimp only
        obtain ⟨b0, d, b1, b2, b3⟩ := a3 hr
        obtain ⟨c1, c2, c3⟩ := g_ch_pc hg hP hq k (P (i + 1, l)).2.1 ((P (i + 1, l)).2.2 ++ [(g i, 0)]) a2
        refine ⟨by omega, c2, fun hz => ?_⟩
        obtain ⟨e, e1, e2, e3⟩ := c3 hz
        refine ⟨d ++ [(g i, 0)] ++ e, by rw [e1, b1, List.append_assoc, List.append_assoc, List.append_assoc], ?_, fun n => ?_⟩
        · rw [List.length_append, List.length_append]
          show d.length + 1 + e.length ≤ _
          omega
        · rw [r_run_app, g_bin_run hb b3]
          exact e3 n
      · rw [if_neg hr]
        exact ⟨by omega, a2, fun hz => absurd hz hr⟩
    · rw [if_neg hc]
      exact ⟨Nat.le_refl _, hi, fun _ => ⟨[], (List.append_nil l).symm, Nat.zero_le _, fun n => rfl⟩⟩
theorem g_pr_ok {g : Nat → Int32} (hg : g_ltr g) {P : gS → gR} (hP : g_ok P) : g_ok (g_pr g P) := fun i l hi =>
  g_th_po (hP i l hi) (fun _ => g_ch_pc hg hP (fun _ h => g_q1b h) 60 _ _ (hP i l hi).2.1)
theorem g_su_ok {g : Nat → Int32} (hg : g_ltr g) {P : gS → gR} (hP : g_ok P) : g_ok (g_su g P) := fun i l hi =>
  g_th_po (g_pr_ok hg hP i l hi) (fun _ => g_ch_pc hg (g_pr_ok hg hP) (fun _ h => g_q2b h) 60 _ _ (g_pr_ok hg hP i l hi).2.1)
theorem g_cm_ok {g : Nat → Int32} (hg : g_ltr g) {P : gS → gR} (hP : g_ok P) : g_ok (g_cm g P) := fun i l hi => by
  refine g_th_po (g_su_ok hg hP i l hi) (fun hr => ?_)
  have hi2 := (g_su_ok hg hP i l hi).2.1
  generalize (g_su g P (i, l)).2 = t at hi2 ⊢
  obtain ⟨j, m⟩ := t
  dsimp only at hi2 ⊢
  by_cases hc : g_q3 (g j) = true
  · rw [if_pos hc]
    have hb := g_q3b hc
    have hi6 : j < 60 := g_lt hg (by have := hb.1; omega)
    obtain ⟨a1, a2, a3⟩ := g_su_ok hg hP (j + 1) m (by omega)
    unfold g_th
    by_cases hr : (g_su g P (j + 1, m)).1 = true
    · rw [if_pos hr]
      obtain ⟨b0, d, b1, b2, b3⟩ := a3 hr
      refine ⟨by dsimp only; omega, a2, fun _ => ⟨d ++ [(g j, 0)], by dsimp only; rw [b1, List.append_assoc], ?_, g_bin_run hb b3⟩⟩
      rw [List.length_append]
      show d.length + 1 ≤ _
      dsimp only
      omega
    · rw [if_neg hr]
      exact ⟨by omega, a2, fun hz => absurd hz hr⟩
  · rw [if_neg hc]
    exact ⟨Nat.le_refl _, hi2, fun _ => ⟨[], (List.append_nil m).symm, Nat.zero_le _, fun n => rfl⟩⟩
theorem g_bo_ok {g : Nat → Int32} (hg : g_ltr g) {P : gS → gR} (hP : g_ok P) : g_ok (g_bo g P) := fun i l hi =>
  g_th_po (g_cm_ok hg hP i l hi) (fun _ => g_ch_pc hg (g_cm_ok hg hP) (fun _ h => g_q4b h) 60 _ _ (g_cm_ok hg hP i l hi).2.1)
theorem g_ei_ok {g : Nat → Int32} (hg : g_ltr g) {P : gS → gR} (hP : g_ok P) : g_ok (g_ei g P) := fun i l hi =>
  g_th_po (g_bo_ok hg hP i l hi) (fun _ => g_ch_pc hg (g_bo_ok hg hP) (fun _ h => g_q5b h) 60 _ _ (g_bo_ok hg hP i l hi).2.1)
def g_bd (k : Nat) : Int := if k = 4 then 1 else if k = 3 then 10 else if k = 2 then 100 else if k = 1 then 1000 else 10000
theorem g_dig_sp {c : Int32} (h : g_dig c = true) : 48 ≤ c.toInt ∧ c.toInt ≤ 57 := by
  unfold g_dig at h
  simp only [Bool.and_eq_true, decide_eq_true_eq] at h
  exact h
theorem g_dig_i {c : Int32} (h : 48 ≤ c.toInt ∧ c.toInt ≤ 57) : g_dig c = true := by
  unfold g_dig
  simp only [Bool.and_eq_true, decide_eq_true_eq]
  exact h
theorem g_num_v {v c : Int32} (h1 : 0 ≤ v.toInt) (h2 : v.toInt ≤ 1000) (h3 : 48 ≤ c.toInt ∧ c.toInt ≤ 57) : (v * 10 + c - 48).toInt = v.toInt * 10 + c.toInt - 48 := by
  have e1 : (v * 10).toInt = v.toInt * 10 := i32_mul (y := 10) (show -2 ^ 31 ≤ v.toInt * 10 by omega) (show v.toInt * 10 < 2 ^ 31 by omega)
  have e2 : (v * 10 + c).toInt = v.toInt * 10 + c.toInt := by rw [i32_add (by omega) (by omega), e1]
  have e3 : (v * 10 + c - 48).toInt = (v * 10 + c).toInt - 48 := i32_sub (y := 48) (show -2 ^ 31 ≤ (v * 10 + c).toInt - 48 by omega) (show (v * 10 + c).toInt - 48 < 2 ^ 31 by omega)
  omega
theorem g_num_ok {g : Nat → Int32} (hg : g_ltr g) : ∀ (k i : Nat) (v : Int32), i ≤ 60 → k ≤ 4 → 0 ≤ v.toInt → v.toInt < g_bd k → i ≤ (g_num g k i v).1 ∧ (g_num g k i v).1 ≤ 60 ∧ 0 ≤ (g_num g k i v).2.toInt ∧ (g_num g k i v).2.toInt < 10000
  | 0, i, v, hi, _, h0, h1 => ⟨Nat.le_refl _, hi, h0, h1⟩
  | k + 1, i, v, hi, hk, h0, h1 => by
    have hv : v.toInt * 10 + 9 < g_bd k ∧ v.toInt ≤ 1000 := by
      unfold g_bd at h1 ⊢
      rcases (show k = 0 ∨ k = 1 ∨ k = 2 ∨ k = 3 by omega) with rfl | rfl | rfl | rfl <;> simp at h1 ⊢ <;> omega
    have hlt : g_bd (k + 1) ≤ 10000 := by
      unfold g_bd
      rcases (show k = 0 ∨ k = 1 ∨ k = 2 ∨ k = 3 by omega) with rfl | rfl | rfl | rfl <;> simp
    show i ≤ (if g_dig (g i) = true then g_num g k (i + 1) (v * 10 + g i - 48) else (i, v)).1 ∧ (if g_dig (g i) = true then g_num g k (i + 1) (v * 10 + g i - 48) else (i, v)).1 ≤ 60 ∧ 0 ≤ (if g_dig (g i) = true then g_num g k (i + 1) (v * 10 + g i - 48) else (i, v)).2.toInt ∧ (if g_dig (g i) = true then g_num g k (i + 1) (v * 10 + g i - 48) else (i, v)).2.toInt < 10000
    by_cases hc : g_dig (g i) = true
    · rw [if_pos hc]
      have hd := g_dig_sp hc
      have hi6 : i < 60 := g_lt hg (by omega)
      have e := g_num_v h0 hv.2 hd
      have h := g_num_ok hg k (i + 1) (v * 10 + g i - 48) (by omega) (by omega) (by omega) (by omega)
      exact ⟨by omega, h.2.1, h.2.2.1, h.2.2.2⟩
    · rw [if_neg hc]
      exact ⟨Nat.le_refl _, hi, h0, by dsimp only; omega⟩
theorem g_num_gt {g : Nat → Int32} (hg : g_ltr g) {i : Nat} (hi : i ≤ 60) (h : g_dig (g i) = true) : i < (g_num g 4 i 0).1 := by
  show i < (if g_dig (g i) = true then g_num g 3 (i + 1) (0 * 10 + g i - 48) else (i, 0)).1
  rw [if_pos h]
  have hd := g_dig_sp h
  have hi6 : i < 60 := g_lt hg (by omega)
  have e := g_num_v (v := 0) (by decide) (by decide) hd
  have h0 : (0 : Int32).toInt = 0 := rfl
  have := (g_num_ok hg 3 (i + 1) (0 * 10 + g i - 48) (by omega) (by decide) (by omega) (by show _ < (10 : Int); omega)).1
  omega
theorem g_name_lt {c : Int32} : (g_name c).toInt < 6 := by
  unfold g_name
  repeat' first
    | decide
    | (split)
theorem g_name_ne {c : Int32} (h : ¬ (g_name c).toInt < 0) : 100 ≤ c.toInt ∧ c.toInt ≤ 122 := by
  unfold g_name at h
  by_cases h1 : c.toInt = 100
  · omega
  rw [if_neg h1] at h
  by_cases h2 : c.toInt = 110
  · omega
  rw [if_neg h2] at h
  by_cases h3 : c.toInt = 116
  · omega
  rw [if_neg h3] at h
  by_cases h4 : c.toInt = 120
  · omega
  rw [if_neg h4] at h
  by_cases h5 : c.toInt = 121
  · omega
  rw [if_neg h5] at h
  by_cases h6 : c.toInt = 122
  · omega
  rw [if_neg h6] at h
  exact absurd (by decide) h
theorem g_one_run {q : Int32 × Int32} (h : ∀ n, r_st q n = some (n + 1)) : ∀ n, r_run [q] n = some (n + 1) := fun n => by
  show (r_st q n).bind (fun e => some e) = _
  rw [h]
  rfl
theorem g_op_ok {g : Nat → Int32} (hg : g_ltr g) {n : Nat} {po pe : gS → gR} (ho : n ≠ 0 → g_ok po) (he : n ≠ 0 → g_ok pe) : g_ok (g_op g n po pe) := by
  intro i l hi
  unfold g_op
  dsimp only
  by_cases hn : (g_name (g i)).toInt < 0
  · rw [if_pos hn]
    by_cases h1 : (g i).toInt = 33 ∨ (g i).toInt = 45
    · rw [if_pos h1]
      have hi6 : i < 60 := g_lt hg (by omega)
      by_cases hz : n = 0
      · rw [if_pos hz]
        exact ⟨Nat.le_refl _, hi, fun h => by cases h⟩
      · rw [if_neg hz]
        obtain ⟨a1, a2, a3⟩ := ho hz (i + 1) l (by omega)
        unfold g_th
        by_cases hr : (po (i + 1, l)).1 = true
        · rw [if_pos hr]
          obtain ⟨b0, d, b1, b2, b3⟩ := a3 hr
          refine ⟨by dsimp only; omega, a2, fun _ => ⟨by dsimp only; omega, d ++ [(if (g i).toInt = 33 then 3 else 4, 0)], by dsimp only; rw [b1, List.append_assoc], ?_, fun n => ?_⟩⟩
          · rw [List.length_append]
            show d.length + 1 ≤ _
            dsimp only
            omega
          · rw [r_run_app, b3]
            show (r_st (if (g i).toInt = 33 then 3 else 4, 0) (n + 1)).bind (fun e => some e) = _
            by_cases h33 : (g i).toInt = 33
            · rw [if_pos h33]
              unfold r_st
              rw [if_neg (by decide), if_neg (by decide), if_pos (by decide), if_pos (by omega)]
              rfl
            · rw [if_neg h33]
              unfold r_st
              rw [if_neg (by decide), if_neg (by decide), if_pos (by decide), if_pos (by omega)]
              rfl
        · rw [if_neg hr]
          exact ⟨by omega, a2, fun hz => absurd hz hr⟩
    · rw [if_neg h1]
      by_cases h2 : (g i).toInt = 40
      · rw [if_pos h2]
        have hi6 : i < 60 := g_lt hg (by omega)
        by_cases hz : n = 0
        · rw [if_pos hz]
          exact ⟨Nat.le_refl _, hi, fun h => by cases h⟩
        · rw [if_neg hz]
          obtain ⟨a1, a2, a3⟩ := he hz (i + 1) l (by omega)
          unfold g_th
          by_cases hr : (pe (i + 1, l)).1 = true
          · rw [if_pos hr]
            dsimp only
            obtain ⟨b0, d, b1, b2, b3⟩ := a3 hr
            by_cases h4 : (g (pe (i + 1, l)).2.1).toInt = 41
            · rw [if_pos h4]
              have hj6 : (pe (i + 1, l)).2.1 < 60 := g_lt hg (by omega)
              refine ⟨by dsimp only; omega, by dsimp only; omega, fun _ => ⟨by dsimp only; omega, d, b1, by dsimp only; omega, b3⟩⟩
            · rw [if_neg h4]
              exact ⟨by dsimp only; omega, a2, fun h => by cases h⟩
          · rw [if_neg hr]
            exact ⟨by omega, a2, fun hz => absurd hz hr⟩
      · rw [if_neg h2]
        by_cases h3 : g_dig (g i) = true
        · rw [if_pos h3]
          have hm := g_num_ok hg 4 i 0 hi (by decide) (by decide) (by decide)
          have hgt := g_num_gt hg hi h3
          by_cases h4 : g_dig (g (g_num g 4 i 0).1) = true
          · rw [if_pos h4]
            exact ⟨hm.1, hm.2.1, fun h => by cases h⟩
          · rw [if_neg h4]
            refine ⟨hm.1, hm.2.1, fun _ => ⟨hgt, [(1, (g_num g 4 i 0).2)], rfl, ?_, g_one_run (fun n => ?_)⟩⟩
            · show 1 ≤ (g_num g 4 i 0).1 - i
              omega
            · unfold r_st
              dsimp only
              rw [if_pos (by decide), if_pos hm.2.2]
        · rw [if_neg h3]
          exact ⟨Nat.le_refl _, hi, fun h => by cases h⟩
  · rw [if_neg hn]
    have hc := g_name_ne hn
    have hi6 : i < 60 := g_lt hg (by omega)
    refine ⟨by dsimp only; omega, by dsimp only; omega, fun _ => ⟨by dsimp only; omega, [(2, g_name (g i))], rfl, ?_, g_one_run (fun n => ?_)⟩⟩
    · show 1 ≤ i + 1 - i
      omega
    · unfold r_st
      dsimp only
      rw [if_neg (by decide), if_pos (by decide), if_pos ⟨by omega, g_name_lt⟩]
theorem g_O_ok {g : Nat → Int32} (hg : g_ltr g) : ∀ n, g_ok (g_O g n)
  | 0 => g_op_ok hg (fun h => absurd rfl h) (fun h => absurd rfl h)
  | n + 1 => g_op_ok hg (fun _ => g_O_ok hg n) (fun _ => g_ei_ok hg (g_O_ok hg n))
theorem g_E_ok {g : Nat → Int32} (hg : g_ltr g) : g_ok (g_E g) := g_ei_ok hg (g_O_ok hg 6)
/-! rows that hold a list -/
def g_row {β : Type} (f : Nat → β) (b : Nat) (l : List β) : Prop := ∀ j x, l[j]? = some x → f (b + j) = x
theorem g_row_nil {β : Type} {f : Nat → β} {b : Nat} : g_row f b [] := fun j x h => by simp at h
theorem g_row_add {β : Type} {f f' : Nat → β} {b : Nat} {l : List β} {x : β} (h : g_row f b l) (h1 : f' (b + l.length) = x) (h2 : ∀ j, j < b + l.length → b ≤ j → f' j = f j) : g_row f' b (l ++ [x]) := by
  intro j y hy
  by_cases hj : j < l.length
  · rw [List.getElem?_append_left hj] at hy
    rw [h2 _ (by omega) (by omega)]
    exact h j y hy
  · rw [List.getElem?_append_right (by omega)] at hy
    have hj2 : j - l.length = 0 := by
      have h3 := (List.getElem?_eq_some_iff.mp hy).1
      have h4 : [x].length = 1 := rfl
      omega
    rw [hj2] at hy
    have hj3 : j = l.length := by omega
    rw [hj3, h1]
    exact Option.some.inj hy
theorem g_row_eq {β : Type} {f f' : Nat → β} {b : Nat} {l : List β} (h : g_row f b l) (h2 : ∀ j, b ≤ j → j < b + l.length → f' j = f j) : g_row f' b l := by
  intro j x hx
  have hj := (List.getElem?_eq_some_iff.mp hx).1
  rw [h2 _ (by omega) (by omega)]
  exact h j x hx
