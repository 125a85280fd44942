/-! the reference: what is worked out anew, its quiet functions -/
def v_sd (a j : Nat) : Prop := (a = 151 ∧ 30 ≤ j ∧ j ≤ 31) ∨ (158 ≤ a ∧ a ≤ 159) ∨ (170 ≤ a ∧ a ≤ 173) ∨ ((a = 160 ∨ a = 161) ∧ j = 10)
def v_RQ (s : vS) : Prop := (0 ≤ (s.1 151 14).toInt ∧ (s.1 151 14).toInt ≤ 10) ∧ (∀ j, j < 6 → 0 ≤ (s.1 182 j).toInt ∧ (s.1 182 j).toInt ≤ 60) ∧ ∀ p, p < (s.1 151 14).toInt.toNat → ∃ acc, m_text s p acc
theorem m_text_eq {s t : vS} {p : Nat} {acc : List gL} (h : m_text s p acc) (h1 : t.1 155 p = s.1 155 p) (h2 : ∀ j, 130 * p ≤ j → j < 130 * p + 130 → t.1 153 j = s.1 153 j ∧ t.1 154 j = s.1 154 j) (h3 : ∀ j, 61 * p ≤ j → j < 61 * p + 61 → t.1 156 j = s.1 156 j ∧ t.1 157 j = s.1 157 j) : m_text t p acc := by
  obtain ⟨a1, a2, a3, a4, a5, a6⟩ := h
  refine ⟨by rw [h1]; exact a1, a2, a3, g_row_eq a4 (fun j hj hl => ?_), g_row_eq a5 (fun j hj hl => ?_), a6⟩
  · unfold m_pr2
    rw [(h2 j hj (by omega)).1, (h2 j hj (by omega)).2]
  · rw [m_en_len] at hl
    unfold m_ends
    rw [(h3 j hj (by omega)).1, (h3 j hj (by omega)).2]
theorem v_RQ_F {s t : vS} (h : v_RQ s) (hf : v_F v_sd s t) : v_RQ t := by
  have e1 : t.1 151 14 = s.1 151 14 := (hf 151 14 (by unfold v_sd; omega)).1
  refine ⟨by rw [e1]; exact h.1, fun j hj => by rw [(hf 182 j (by unfold v_sd; omega)).1]; exact h.2.1 j hj, fun p hp => ?_⟩
  rw [e1] at hp
  obtain ⟨acc, ha⟩ := h.2.2 p hp
  exact ⟨acc, m_text_eq ha (hf 155 p (by unfold v_sd; omega)).1 (fun j _ _ => ⟨(hf 153 j (by unfold v_sd; omega)).1, (hf 154 j (by unfold v_sd; omega)).1⟩) (fun j _ _ => ⟨(hf 156 j (by unfold v_sd; omega)).1, (hf 157 j (by unfold v_sd; omega)).1⟩)⟩
theorem v_FTw {P : Nat → Nat → Prop} {α : Type} {s0 s : vS} {a i : Nat} {x : Int32} {k : vS → Option (α × vS)} {Q : α → vS → Prop} (h : v_F P s0 s) (hs : P a i) (hk : ∀ t, v_F P s0 t → v_T (k t) Q) : v_T (v_let (v_w1 s a i x) k) Q := hk _ (v_F_w1 h hs)
theorem v_FTb {P : Nat → Nat → Prop} {α β : Type} {s0 s : vS} {o : Option (α × vS)} {k : α → vS → Option (β × vS)} {Q : β → vS → Prop} (h : v_F P s0 s) (hc : v_T o (fun _ t => v_F P s t)) (hk : ∀ r t, v_F P s0 t → v_T (k r t) Q) : v_T (v_bi o k) Q :=
  v_Tbi hc (fun r t ht => hk r t (v_F_tr h ht))
theorem v_FTb2 {P : Nat → Nat → Prop} {α β : Type} {s0 s : vS} {o : Option (α × vS)} {k : α → vS → Option (β × vS)} {Q : β → vS → Prop} {R : α → Prop} (h : v_F P s0 s) (hc : v_T o (fun r t => v_F P s t ∧ R r)) (hk : ∀ r t, v_F P s0 t → R r → v_T (k r t) Q) : v_T (v_bi o k) Q :=
  v_Tbi hc (fun r t ht => hk r t (v_F_tr h ht.1) ht.2)
theorem v_lw {s t : vS} (h : v_F v_sd s t) : t.1 151 14 = s.1 151 14 := (h 151 14 (by unfold v_sd; omega)).1
theorem m_in (b c d : Int32) (s : vS) : f_Md_in b c d s = some (v_b (c.toInt ≤ b.toInt ∧ b.toInt ≤ d.toInt), s) := by
  unfold f_Md_in
  by_cases h1 : b.toInt < c.toInt
  · rw [if_pos h1, v_b_neg (by omega)]
  · rw [if_neg h1]
    by_cases h2 : d.toInt < b.toInt
    · rw [if_pos h2, v_b_neg (by omega)]
    · rw [if_neg h2, v_b_pos (by omega)]
theorem v_Tin {α : Type} {b c d : Int32} {s : vS} {X Y : vS → Option (α × vS)} {Q : α → vS → Prop} (h1 : c.toInt ≤ b.toInt ∧ b.toInt ≤ d.toInt → v_T (Y s) Q) (h2 : ¬ (c.toInt ≤ b.toInt ∧ b.toInt ≤ d.toInt) → v_T (X s) Q) : v_T (v_bi (f_Md_in b c d s) (fun r s => if r.toInt = 0 then X s else Y s)) Q := by
  rw [m_in, v_bi_some, v_bif]
  exact v_Tif h1 h2
theorem m_isLaw (b : Int32) (s : vS) (h : 0 ≤ (s.1 151 14).toInt ∧ (s.1 151 14).toInt ≤ 10) : f_Md_isLaw b s = some (v_b (0 ≤ b.toInt ∧ b.toInt < (s.1 151 14).toInt), s) := by
  have e : (s.1 151 14 - 1).toInt = (s.1 151 14).toInt - 1 := v_sub (y := 1) (show -2147483648 ≤ (s.1 151 14).toInt - 1 by omega) (show (s.1 151 14).toInt - 1 < 2147483648 by omega)
  unfold f_Md_isLaw
  rw [m_in, v_bi_some, if_pos v_b01, e]
  have e2 : ((0 : Int32).toInt ≤ b.toInt ∧ b.toInt ≤ (s.1 151 14).toInt - 1) = (0 ≤ b.toInt ∧ b.toInt < (s.1 151 14).toInt) := propext ⟨fun q => ⟨q.1, by omega⟩, fun q => ⟨q.1, by omega⟩⟩
  simp only [e2]
theorem v_TisLaw {α : Type} {b : Int32} {s : vS} (h : 0 ≤ (s.1 151 14).toInt ∧ (s.1 151 14).toInt ≤ 10) {X Y : vS → Option (α × vS)} {Q : α → vS → Prop} (h1 : 0 ≤ b.toInt ∧ b.toInt < (s.1 151 14).toInt → v_T (Y s) Q) (h2 : v_T (X s) Q) : v_T (v_bi (f_Md_isLaw b s) (fun r s => if r.toInt = 0 then X s else Y s)) Q := by
  rw [m_isLaw b s h, v_bi_some, v_bif]
  exact v_Tif h1 (fun _ => h2)
theorem m_isShelf (b : Int32) (s : vS) : f_Md_isShelf b s = some (v_b (0 ≤ b.toInt ∧ b.toInt ≤ 5), s) := by
  unfold f_Md_isShelf
  rw [m_in, v_bi_some, if_pos v_b01]
  rfl
theorem v_TisShelf {α : Type} {b : Int32} {s : vS} {X Y : vS → Option (α × vS)} {Q : α → vS → Prop} (h1 : 0 ≤ b.toInt ∧ b.toInt ≤ 5 → v_T (Y s) Q) (h2 : ¬ (0 ≤ b.toInt ∧ b.toInt ≤ 5) → v_T (X s) Q) : v_T (v_bi (f_Md_isShelf b s) (fun r s => if r.toInt = 0 then X s else Y s)) Q := by
  rw [m_isShelf, v_bi_some, v_bif]
  exact v_Tif h1 h2
theorem m_isThere (b : Int32) (s : vS) (h : v_in b 11) : v_T (f_Md_isThere b s) (fun r t => t = s ∧ (r = 0 ∨ r = 1)) := by
  unfold f_Md_isThere
  exact v_Tck h (v_Tif (fun _ => v_Tret ⟨rfl, Or.inl rfl⟩) (fun _ => v_Tret ⟨rfl, Or.inr rfl⟩))
theorem m_order (b : Int32) (s : vS) (h : v_in b 11) : v_T (f_Md_order b s) (fun _ t => t = s) := by
  unfold f_Md_order
  exact v_Tif (fun _ => v_Tret rfl) (fun _ => v_Tck h (v_Tret rfl))
theorem m_isOlder (b c : Int32) (s : vS) (hb : v_in b 11) (hc : v_in c 11) : v_T (f_Md_isOlder b c s) (fun r t => t = s ∧ (r = 0 ∨ r = 1)) := by
  unfold f_Md_isOlder
  refine v_Tbi (m_order b s hb) ?_
  rintro _ _ rfl
  refine v_Tbi (m_order c _ hc) ?_
  rintro _ _ rfl
  exact v_Tif (fun _ => v_Tret ⟨rfl, Or.inl rfl⟩) (fun _ => v_Tret ⟨rfl, Or.inr rfl⟩)
theorem m_isIn (b : Int32) (s : vS) (hb : v_in b 11) : v_T (f_Md_isIn b s) (fun r t => t = s ∧ (r = 0 ∨ r = 1)) := by
  unfold f_Md_isIn
  refine v_Tbi (m_isThere b s hb) ?_
  rintro _ _ ⟨rfl, _⟩
  exact v_Tif (fun _ => v_Tret ⟨rfl, Or.inl rfl⟩) (fun _ => v_Tif (fun _ => v_Tret ⟨rfl, Or.inr rfl⟩) (fun _ => v_Tret ⟨rfl, Or.inl rfl⟩))
theorem m_meaning (b : Int32) (s : vS) (hb : v_in b 3) : v_T (f_Md_meaning b s) (fun _ t => t = s) := by
  unfold f_Md_meaning
  exact v_Tck hb (v_Tif (fun _ => v_Tret rfl) (fun _ => v_Tck hb (v_Tif (fun _ => v_Tret rfl) (fun _ => v_Tck hb (v_Tret rfl)))))
theorem m_wordIn (b c : Int32) (s : vS) : v_T (f_Md_wordIn b c s) (fun _ t => t = s) := by
  unfold f_Md_wordIn
  repeat' first
    | ((with_reducible refine v_Tret ?_); (focus exact rfl))
    | ((with_reducible refine v_Tret ?_); exact ⟨rfl, by first | assumption | decide | omega | exact Or.inl rfl | exact Or.inr rfl⟩)
    | ((with_reducible refine v_Tck ?_ ?_); (focus first | assumption | exact ⟨by omega, by omega⟩ | decide | omega))
    | with_reducible refine v_Tif (fun _ => ?_) (fun _ => ?_)
theorem m_kindness (b : Int32) (s : vS) : v_T (f_Md_kindness b s) (fun _ t => t = s) := by
  unfold f_Md_kindness
  repeat' first
    | ((with_reducible refine v_Tret ?_); (focus exact rfl))
    | ((with_reducible refine v_Tret ?_); exact ⟨rfl, by first | assumption | decide | omega | exact Or.inl rfl | exact Or.inr rfl⟩)
    | ((with_reducible refine v_Tck ?_ ?_); (focus first | assumption | exact ⟨by omega, by omega⟩ | decide | omega))
    | with_reducible refine v_Tif (fun _ => ?_) (fun _ => ?_)
theorem m_isAhead (b c d : Int32) (s : vS) (hb : v_in b 11) (hc : v_in c 11) : v_T (f_Md_isAhead b c d s) (fun r t => t = s ∧ (r = 0 ∨ r = 1)) := by
  unfold f_Md_isAhead
  repeat' first
    | ((with_reducible refine v_Tret ?_); (focus exact ⟨rfl, Or.inl rfl⟩))
    | ((with_reducible refine v_Tret ?_); (focus exact ⟨rfl, Or.inr rfl⟩))
    | ((with_reducible refine v_Tret ?_); (focus exact ⟨rfl, by assumption⟩))
    | ((with_reducible refine v_Tck ?_ ?_); (focus exact hb))
    | ((with_reducible refine v_Tck ?_ ?_); (focus exact hc))
    | ((with_reducible refine v_Tck ?_ ?_); (focus exact (by assumption)))
    | with_reducible refine v_Tif (fun _ => ?_) (fun _ => ?_)
    | ((with_reducible refine v_Tbi (m_isOlder b c _ hb hc) ?_); rintro _ _ ⟨rfl, _⟩)
    | ((with_reducible refine v_Tbi (m_isOlder c b _ hc hb) ?_); rintro _ _ ⟨rfl, _⟩)
    | ((with_reducible refine v_Tbi (m_kindness ..) ?_); rintro _ _ rfl)
theorem m_caseOf (b : Int32) (s : vS) : v_T (f_Md_caseOf b s) (fun r t => t = s) := ⟨_, _, rfl, rfl⟩
theorem m_numberOf (b : Int32) (s : vS) : v_T (f_Md_numberOf b s) (fun r t => t = s) := ⟨_, _, rfl, rfl⟩
set_option maxRecDepth 100000 in
theorem m_cs0 : (List.range 445).all (fun j => decide (4 < ((Int32.ofNat j / 10) - (Int32.ofNat j / 10) / 10 * 10).toInt) || (decide (4 < (Int32.ofNat j - Int32.ofNat j / 10 * 10).toInt) || (decide (0 ≤ ((((Int32.ofNat j / 100) * 25) + (((Int32.ofNat j / 10) - (Int32.ofNat j / 10) / 10 * 10) * 5)) + (Int32.ofNat j - Int32.ofNat j / 10 * 10)).toInt) && decide (((((Int32.ofNat j / 100) * 25) + (((Int32.ofNat j / 10) - (Int32.ofNat j / 10) / 10 * 10) * 5)) + (Int32.ofNat j - Int32.ofNat j / 10 * 10)).toInt < 125)))) = true := by decide +kernel
/-- what is a case has its place among all -/
def m_kase (b : Int32) : Prop := 0 ≤ ((((b / 100) * 25) + (((b / 10) - (b / 10) / 10 * 10) * 5)) + (b - b / 10 * 10)).toInt ∧ ((((b / 100) * 25) + (((b / 10) - (b / 10) / 10 * 10) * 5)) + (b - b / 10 * 10)).toInt < 125
theorem m_isCase (b : Int32) (s : vS) : v_T (f_Md_isCase b s) (fun r t => t = s ∧ (r.toInt = 0 ∨ m_kase b)) := by
  unfold f_Md_isCase
  refine v_Tin (fun h => ?_) (fun _ => v_Tret ⟨rfl, Or.inl rfl⟩)
  have h : 0 ≤ b.toInt ∧ b.toInt ≤ 444 := h
  refine v_Tif (fun _ => v_Tret ⟨rfl, Or.inl rfl⟩) (fun c1 => v_Tif (fun _ => v_Tret ⟨rfl, Or.inl rfl⟩) (fun c2 => v_Tret ⟨rfl, Or.inr ?_⟩))
  have h1 := List.all_eq_true.mp m_cs0 b.toInt.toNat (List.mem_range.mpr (by omega))
  rw [← v_of h.1, Bool.or_eq_true, Bool.or_eq_true, Bool.and_eq_true, decide_eq_true_eq, decide_eq_true_eq, decide_eq_true_eq, decide_eq_true_eq] at h1
  rcases h1 with h1 | h1 | h1
  · exact absurd h1 c1
  · exact absurd h1 c2
  · exact h1
theorem m_rowFault (b : Int32) (s : vS) (hb : v_in b 6) : v_T (f_Md_rowFault b s) (fun _ t => t = s) := by
  unfold f_Md_rowFault
  exact v_Tck hb (v_Tif (fun _ => v_Tret rfl) (fun _ => v_Tck hb (v_Tif (fun _ => v_Tret rfl) (fun _ => v_Tret rfl))))
theorem m_60 {b c : Int32} (hb : 0 ≤ b.toInt ∧ b.toInt ≤ 5) (hc : 0 ≤ c.toInt ∧ c.toInt ≤ 100) : ((60 : Int32) * b + (2 : Int32) * c).toInt = 60 * b.toInt + 2 * c.toInt ∧ ((60 : Int32) * b + (2 : Int32) * c + (1 : Int32)).toInt = 60 * b.toInt + 2 * c.toInt + 1 ∧ ((2 : Int32) * c).toInt = 2 * c.toInt ∧ ((2 : Int32) * c + (1 : Int32)).toInt = 2 * c.toInt + 1 := by
  have e1 : ((60 : Int32) * b).toInt = 60 * b.toInt := i32_mul (x := 60) (show -2 ^ 31 ≤ (60 : Int) * b.toInt by omega) (show (60 : Int) * b.toInt < 2 ^ 31 by omega)
  have e2 : ((2 : Int32) * c).toInt = 2 * c.toInt := i32_mul (x := 2) (show -2 ^ 31 ≤ (2 : Int) * c.toInt by omega) (show (2 : Int) * c.toInt < 2 ^ 31 by omega)
  have e3 : ((60 : Int32) * b + (2 : Int32) * c).toInt = 60 * b.toInt + 2 * c.toInt := by rw [i32_add (by omega) (by omega), e1, e2]
  exact ⟨e3, by rw [v_inc (by omega), e3], e2, by rw [v_inc (by omega), e2]⟩
theorem m_caseAt (b c : Int32) (s : vS) (hb : 0 ≤ b.toInt ∧ b.toInt ≤ 5) (hc : 0 ≤ c.toInt ∧ c.toInt ≤ 29) : v_T (f_Md_caseAt b c s) (fun _ t => t = s) := by
  have h := m_60 hb (c := c) ⟨by omega, by omega⟩
  unfold f_Md_caseAt
  exact v_Tck ⟨by omega, by omega⟩ (v_Tret rfl)
theorem m_dueAt (b c : Int32) (s : vS) (hb : 0 ≤ b.toInt ∧ b.toInt ≤ 5) (hc : 0 ≤ c.toInt ∧ c.toInt ≤ 29) : v_T (f_Md_dueAt b c s) (fun _ t => t = s) := by
  have h := m_60 hb (c := c) ⟨by omega, by omega⟩
  unfold f_Md_dueAt
  exact v_Tck ⟨by omega, by omega⟩ (v_Tret rfl)
/-- a two: what is not none is a case; read again it is the same -/
theorem m_isTwo (b c : Int32) (s : vS) (h : v_RQ s) (hb : 0 ≤ b.toInt ∧ b.toInt ≤ 5) (hc : 0 ≤ c.toInt ∧ 2 * c.toInt < (s.1 182 b.toNatClampNeg).toInt) : v_T (f_Md_isTwo b c s) (fun r t => t = s ∧ (r.toInt = 0 ∨ m_kase (Int64.toInt32 (s.2 183 (Int32.toNatClampNeg (((60 : Int32) * b) + ((2 : Int32) * c))))))) := by
  have hz := h.2.1 b.toNatClampNeg (by rw [v_nc]; omega)
  have h60 := m_60 hb (c := c) ⟨by omega, by omega⟩
  have hc2 : 0 ≤ c.toInt ∧ c.toInt ≤ 29 := ⟨hc.1, by omega⟩
  unfold f_Md_isTwo
  refine v_Tck ⟨hb.1, by omega⟩ (v_Tif (fun _ => v_Tret ⟨rfl, Or.inl rfl⟩) (fun _ => ?_))
  unfold f_Md_caseAt
  rw [if_pos ⟨by omega, by omega⟩, v_bi_some]
  refine v_Tbi (m_isCase _ s) ?_
  rintro r t ⟨rfl, hr⟩
  refine v_Tif (fun _ => v_Tret ⟨rfl, Or.inl rfl⟩) (fun hn => ?_)
  have hk := hr.resolve_left hn
  refine v_Tbi (m_dueAt b c _ hb hc2) ?_
  rintro _ _ rfl
  refine v_Tin (fun _ => v_Tret ⟨rfl, Or.inr hk⟩) (fun _ => ?_)
  refine v_Tbi (m_dueAt b c _ hb hc2) ?_
  rintro _ _ rfl
  exact v_Tif (fun _ => v_Tret ⟨rfl, Or.inr hk⟩) (fun _ => v_Tret ⟨rfl, Or.inl rfl⟩)
theorem m_twoOf (b c d : Int32) (s : vS) : v_T (f_Md_twoOf b c d s) (fun _ t => t = s) := by
  unfold f_Md_twoOf
  repeat' first
    | ((with_reducible refine v_Tret ?_); (focus exact rfl))
    | ((with_reducible refine v_Tck ?_ ?_); (focus exact (v_ne0 (by assumption))))
    | with_reducible refine v_Tif (fun _ => ?_) (fun _ => ?_)
/-- a stretch of steps is worked -/
theorem m_workedL {s0 : vS} {p1 p3 : Int32} {k : vS → Option (Int32 × vS)} {Q : Int32 → vS → Prop} (hk : ∀ t, v_F v_sd s0 t → v_T (k t) Q) : ∀ (l : List (Int32 × Int32)) (n : Nat) (v w : Int32) (s : vS) (e : Nat), 0 ≤ w.toInt → w.toInt + l.length = ((130 : Int32) * p1 + p3).toInt → w.toInt + l.length ≤ 1430 → g_row (m_pr2 s) w.toInt.toNat l → 0 ≤ v.toInt → v.toInt + l.length ≤ 130 → r_run l v.toInt.toNat = some e → v_F v_sd s0 s → l.length < n → v_T (f_Md_worked_L12 p1 p3 k n v w s) Q := by
  intro l
  induction l with
  | nil =>
    intro n v w s e hw he _ _ _ _ _ h0 hn
    obtain ⟨n, rfl⟩ : ∃ q, n = q + 1 := ⟨n - 1, by have : 0 < n := hn; omega⟩
    show v_T (f_Md_worked_L12b p1 p3 k (f_Md_worked_L12 p1 p3 k n) v w s) _
    unfold f_Md_worked_L12b
    rw [if_pos (by have : w.toInt + ((0 : Nat) : Int) = _ := he; omega)]
    exact hk s h0
  | cons q l ih =>
    intro n v w s e hw he hm hrow hv hd hrun h0 hn
    rw [List.length_cons] at he hm hd hn
    obtain ⟨n, rfl⟩ : ∃ q, n = q + 1 := ⟨n - 1, by omega⟩
    show v_T (f_Md_worked_L12b p1 p3 k (f_Md_worked_L12 p1 p3 k n) v w s) _
    have hwn : w.toNatClampNeg = w.toInt.toNat := rfl
    have hq0 := hrow 0 q rfl
    have hx1 : s.1 153 w.toNatClampNeg = q.1 := congrArg (fun z => z.1) hq0
    have hx2 : s.1 154 w.toNatClampNeg = q.2 := congrArg (fun z => z.2) hq0
    have hwi : v_in w 1430 := ⟨by omega, by omega⟩
    have hrun2 : (r_st q v.toInt.toNat).bind (fun e => r_run l e) = some e := hrun
    have hw1 : (w + 1).toInt = w.toInt + 1 := v_inc (by omega)
    have hwn1 : (w + 1).toInt.toNat = w.toInt.toNat + 1 := by omega
    have hv1 : (v + 1).toInt = v.toInt + 1 := v_inc (by omega)
    have hvn1 : (v + 1).toInt.toNat = v.toInt.toNat + 1 := by omega
    have hgo : ∀ (u : Int32) (t : vS), v_F v_sd s t → 0 ≤ u.toInt → u.toInt ≤ v.toInt + 1 → r_run l u.toInt.toNat = some e → v_T (f_Md_worked_L12 p1 p3 k n u (w + 1) t) Q := by
      intro u t ht hu0 hu1 hur
      refine ih n u (w + 1) t e (by omega) (by omega) (by omega) ?_ hu0 (by omega) hur (v_F_tr h0 ht) (by omega)
      rw [hwn1]
      intro j x hj
      have h1 := hrow (j + 1) x hj
      unfold m_pr2 at h1 ⊢
      rw [(ht 153 _ (by unfold v_sd; omega)).1, (ht 154 _ (by unfold v_sd; omega)).1, show w.toInt.toNat + 1 + j = w.toInt.toNat + (j + 1) by omega]
      exact h1
    have hvi : v_in v 130 := ⟨by omega, by omega⟩
    unfold f_Md_worked_L12b
    rw [if_neg (by omega), if_pos hwi, hx1, hx2]
    unfold r_st at hrun2
    by_cases c1 : q.1.toInt = 1
    · rw [if_pos c1] at hrun2
      have hr : r_run l (v.toInt.toNat + 1) = some e := by
        by_cases hz : 0 ≤ q.2.toInt ∧ q.2.toInt < 10000
        · rw [if_pos hz] at hrun2
          exact hrun2
        · rw [if_neg hz] at hrun2
          cases hrun2
      rw [if_pos c1, if_pos c1, if_pos hwi, if_pos hvi]
      exact v_FTw (P := v_sd) v_F_rf (by unfold v_sd; omega) (fun t ht => hgo _ t ht (by omega) (by omega) (by rw [hvn1]; exact hr))
    · rw [if_neg c1] at hrun2
      rw [if_neg c1]
      by_cases c2 : q.1.toInt = 2
      · rw [if_pos c2] at hrun2
        by_cases hz : 0 ≤ q.2.toInt ∧ q.2.toInt < 6
        · rw [if_pos hz] at hrun2
          rw [if_pos c2, if_neg c1, if_pos hwi, if_pos (show v_in q.2 6 from hz), if_pos hvi]
          exact v_FTw (P := v_sd) v_F_rf (by unfold v_sd; omega) (fun t ht => hgo _ t ht (by omega) (by omega) (by rw [hvn1]; exact hrun2))
        · rw [if_neg hz] at hrun2
          cases hrun2
      · rw [if_neg c2] at hrun2
        rw [if_neg c2]
        have em1 : (v - (1 : Int32)).toInt = v.toInt - 1 := v_sub (y := 1) (show -2147483648 ≤ v.toInt - 1 by omega) (show v.toInt - 1 < 2147483648 by omega)
        by_cases c3 : q.1.toInt = 3 ∨ q.1.toInt = 4
        · rw [if_pos c3] at hrun2
          by_cases hz : 1 ≤ v.toInt.toNat
          · rw [if_pos hz] at hrun2
            have hvi2 : v_in (v - (1 : Int32)) 130 := ⟨by omega, by omega⟩
            by_cases c33 : q.1.toInt = 3
            · rw [if_pos c33, if_pos hvi2]
              refine v_Tif (fun _ => ?_) (fun _ => ?_)
              · rw [if_pos hvi2]
                exact v_FTw (P := v_sd) v_F_rf (by unfold v_sd; omega) (fun t ht => hgo _ t ht (by omega) (by omega) hrun2)
              · rw [if_pos hvi2]
                exact v_FTw (P := v_sd) v_F_rf (by unfold v_sd; omega) (fun t ht => hgo _ t ht (by omega) (by omega) hrun2)
            · rw [if_neg c33, if_pos (by omega), if_pos hvi2, if_pos hvi2]
              exact v_FTw (P := v_sd) v_F_rf (by unfold v_sd; omega) (fun t ht => hgo _ t ht (by omega) (by omega) hrun2)
          · rw [if_neg hz] at hrun2
            cases hrun2
        · rw [if_neg c3] at hrun2
          by_cases hz : 2 ≤ v.toInt.toNat ∧ 5 ≤ q.1.toInt ∧ q.1.toInt < 127
          · rw [if_pos hz] at hrun2
            have ea : (v + (-1)).toInt = v.toInt - 1 := v_dec (by omega)
            generalize v + (-1) = w at ea ⊢
            have hw0 : -1 ≤ w.toInt ∧ w.toInt.toNat = v.toInt.toNat - 1 := ⟨by omega, by omega⟩
            have eb : (w - (1 : Int32)).toInt = v.toInt - 2 := by
              have e := v_sub (x := w) (y := 1) (show -2147483648 ≤ w.toInt - 1 by omega) (show w.toInt - 1 < 2147483648 by omega)
              rw [e, ea]
              show v.toInt - 1 - 1 = _
              omega
            have hi1 : v_in (w - (1 : Int32)) 130 := ⟨by omega, by omega⟩
            have hi2 : v_in w 130 := ⟨by omega, by omega⟩
            rw [if_neg (show ¬ q.1.toInt = 3 from fun z => c3 (Or.inl z)), if_neg (show ¬ q.1.toInt = 4 from fun z => c3 (Or.inr z)), if_pos hi1, if_pos hi2]
            refine v_Tbi (m_twoOf ..) ?_
            rintro _ _ rfl
            rw [if_pos hi1]
            exact v_FTw (P := v_sd) v_F_rf (by unfold v_sd; omega) (fun t ht => hgo _ t ht (by omega) (by omega) (by rw [hw0.2]; exact hrun2))
          · rw [if_neg hz] at hrun2
            cases hrun2
theorem m_worked {s : vS} {b c d : Int32} {p x : Nat} {l : List (Int32 × Int32)} (hb : b.toInt = p) (hp : p ≤ 10) (hc : c.toInt = x) (hd : d.toInt = (x : Int) + l.length) (hx : x + l.length ≤ 130) (hrow : g_row (m_pr2 s) (130 * p + x) l) {e : Nat} (hrun : r_run l 0 = some e) : v_T (f_Md_worked b c d s) (fun _ t => v_F v_sd s t) := by
  have e1 := m_130 (v := c) hb hp ⟨by omega, by omega⟩
  have e2 := m_130 (v := d) hb hp ⟨by omega, by omega⟩
  unfold f_Md_worked
  refine m_workedL (s0 := s) (fun t ht => v_Tret ht) l 4096 0 _ s e (by omega) (by omega) (by omega) ?_ (by decide) (by show (0 : Int) + _ ≤ _; omega) hrun v_F_rf (by omega)
  rw [e1, show (130 * (p : Int) + c.toInt).toNat = 130 * p + x by omega]
  exact hrow
theorem m_cat_cons {ln : gL} {r : List gL} : m_cat (ln :: r) = ln.1 ++ (ln.2 ++ m_cat r) := by
  unfold m_cat
  simp [List.append_assoc]
theorem g_row_app {β : Type} {f : Nat → β} {b : Nat} {l m : List β} (h : g_row f b (l ++ m)) : g_row f b l ∧ g_row f (b + l.length) m := by
  refine ⟨fun j x hj => h j x ?_, fun j x hj => ?_⟩
  · rw [List.getElem?_append_left (List.getElem?_eq_some_iff.mp hj).1]
    exact hj
  · have := h (l.length + j) x (by rw [List.getElem?_append_right (by omega), Nat.add_sub_cancel_left]; exact hj)
    rw [show b + l.length + j = b + (l.length + j) by omega]
    exact this
theorem m_givesL {s0 : vS} {b : Int32} {p : Nat} (hb : b.toInt = p) (hp : p ≤ 10) : ∀ (r : List gL) (n : Nat) (v w : Int32) (s : vS) (x q : Nat), (s.1 155 p).toInt = (q : Int) + r.length → q + r.length ≤ 61 → v.toInt = x → w.toInt = 61 * (p : Int) + q → x + (m_cat r).length ≤ 130 → g_row (m_pr2 s) (130 * p + x) (m_cat r) → g_row (m_ends s) (61 * p + q) (m_en x r) → (∀ ln, ln ∈ r → g_wl ln) → v_F v_sd s0 s → r.length < n → v_T (f_Md_gives_L7 b (fun w1 s2 => (if v_in w1 671 then (if v_in w1 671 then (v_bi (f_Md_worked b (s2.1 156 (Int32.toNatClampNeg w1)) (s2.1 157 (Int32.toNatClampNeg w1)) s2) (fun r6 s6 => (some (r6, s6)))) else none) else none)) (fun s3 => (some (0, s3))) n v w s) (fun _ t => v_F v_sd s0 t) := by
  have hb1 : v_in b 11 := ⟨by omega, by omega⟩
  have hbn : b.toNatClampNeg = p := by rw [v_nc]; omega
  intro r
  induction r with
  | nil =>
    intro n v w s x q hm hq hv hw _ _ _ _ h0 hn
    obtain ⟨n, rfl⟩ : ∃ q, n = q + 1 := ⟨n - 1, by have : 0 < n := hn; omega⟩
    have e1 := m_61 (v := s.1 155 p) hb hp ⟨by omega, by rw [List.length_nil] at hm hq; omega⟩
    rw [List.length_nil] at hm
    unfold f_Md_gives_L7
    show v_T (f_Md_gives_L7b b _ _ (f_Md_gives_L7 b _ _ n) v w s) _
    unfold f_Md_gives_L7b
    rw [if_pos hb1, hbn, if_pos (by omega)]
    exact v_Tret h0
  | cons ln r ih =>
    intro n v w s x q hm hq hv hw hx hrow hend hwl h0 hn
    rw [List.length_cons] at hm hq hn
    obtain ⟨n, rfl⟩ : ∃ q, n = q + 1 := ⟨n - 1, by omega⟩
    have e1 := m_61 (v := s.1 155 p) hb hp ⟨by omega, by omega⟩
    unfold f_Md_gives_L7
    show v_T (f_Md_gives_L7b b _ _ (f_Md_gives_L7 b _ _ n) v w s) _
    unfold f_Md_gives_L7b
    have hwi : v_in w 671 := ⟨by omega, by omega⟩
    have hwn : w.toNatClampNeg = 61 * p + q := by rw [v_nc]; omega
    have he0 := hend 0 _ rfl
    have hte : (s.1 156 (61 * p + q)).toInt = (x : Int) + ln.1.length := congrArg (fun z => z.1) he0
    have hle : (s.1 157 (61 * p + q)).toInt = (x : Int) + ln.1.length + ln.2.length := congrArg (fun z => z.2) he0
    rw [m_cat_cons] at hrow hx
    rw [List.length_append, List.length_append] at hx
    obtain ⟨r1, r2⟩ := g_row_app hrow
    obtain ⟨r3, r4⟩ := g_row_app r2
    obtain ⟨w1, w2⟩ := hwl ln List.mem_cons_self
    have hlast : ∀ t, v_F v_sd s t → v_T (if v_in w 671 then (if v_in w 671 then (v_bi (f_Md_worked b (t.1 156 (Int32.toNatClampNeg w)) (t.1 157 (Int32.toNatClampNeg w)) t) (fun r6 s6 => (some (r6, s6)))) else none) else none) (fun (_ : Int32) u => v_F v_sd s0 u) := by
      intro t ht
      rw [if_pos hwi, if_pos hwi, hwn]
      refine v_FTb (v_F_tr h0 ht) (m_worked (p := p) (x := x + ln.1.length) (l := ln.2) hb hp ?_ ?_ (by omega) ?_ (w2 0)) (fun _ u hu => v_Tret hu)
      · rw [(ht 156 _ (by unfold v_sd; omega)).1, hte]
        omega
      · rw [(ht 157 _ (by unfold v_sd; omega)).1, hle]
        omega
      · rw [show 130 * p + (x + ln.1.length) = 130 * p + x + ln.1.length by omega]
        exact g_row_eq r3 (fun j _ _ => by
          unfold m_pr2
          rw [(ht 153 _ (by unfold v_sd; omega)).1, (ht 154 _ (by unfold v_sd; omega)).1])
    rw [if_pos hb1, hbn, if_neg (by omega), if_pos hwi]
    refine v_Tif (fun _ => hlast s v_F_rf) (fun hne => ?_)
    rw [if_pos hwi]
    have hl1 : ¬ ln.1 = [] := fun z => hne (by rw [hwn, hte, hv, z]; show (x : Int) + ((0 : Nat) : Int) = _; omega)
    refine v_Tbi (m_worked (p := p) (x := x) (l := ln.1) hb hp hv (by rw [hwn, hte]) (by omega) r1 ((w1.resolve_left hl1) 0)) ?_
    intro z t ht
    refine v_Tif (fun _ => ?_) (fun _ => hlast t ht)
    rw [if_pos hwi, hwn]
    have hw1 : (w + 1).toInt = w.toInt + 1 := v_inc (by omega)
    refine ih n _ (w + 1) t (x + ln.1.length + ln.2.length) (q + 1) ?_ (by omega) ?_ (by omega) (by omega) ?_ ?_ (fun y hy => hwl y (List.mem_cons_of_mem _ hy)) (v_F_tr h0 ht) (by omega)
    · rw [(ht 155 _ (by unfold v_sd; omega)).1, hm]
      omega
    · rw [(ht 157 _ (by unfold v_sd; omega)).1, hle]
      omega
    · rw [show 130 * p + (x + ln.1.length + ln.2.length) = 130 * p + x + ln.1.length + ln.2.length by omega]
      exact g_row_eq r4 (fun j _ _ => by
        unfold m_pr2
        rw [(ht 153 _ (by unfold v_sd; omega)).1, (ht 154 _ (by unfold v_sd; omega)).1])
    · intro j y hj
      have h1 := hend (j + 1) y hj
      unfold m_ends at h1 ⊢
      rw [(ht 156 _ (by unfold v_sd; omega)).1, (ht 157 _ (by unfold v_sd; omega)).1, show 61 * p + (q + 1) + j = 61 * p + q + (j + 1) by omega]
      exact h1
theorem m_gives {s : vS} {b : Int32} {p : Nat} {acc : List gL} (hb : b.toInt = p) (hp : p ≤ 10) (h : m_text s p acc) : v_T (f_Md_gives b s) (fun _ t => v_F v_sd s t) := by
  obtain ⟨h1, h2, h3, h4, h5, h6⟩ := h
  have e1 : ((61 : Int32) * b).toInt = 61 * b.toInt := i32_mul (x := 61) (show -2 ^ 31 ≤ (61 : Int) * b.toInt by omega) (show (61 : Int) * b.toInt < 2 ^ 31 by omega)
  unfold f_Md_gives
  exact m_givesL hb hp acc 4096 0 _ s 0 0 (by rw [h1]; omega) (by omega) (by rfl) (by rw [e1, hb]; omega) (by omega) h4 h5 h6 v_F_rf (by omega)
