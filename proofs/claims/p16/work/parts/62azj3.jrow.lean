/-! rows of shorts, judge, falseOnes: the answers alike -/
def j_Sh (s t : vS) : Prop := (∀ k, k < 6 → z_r0x s t k) ∧ ∀ k, k < 6 → (t.1 181 k).toInt ≤ -2 → ∀ i, i < 60 → s.2 (140 + 2 * k) i = t.2 183 (60 * k + i)
theorem jr_shelf {s t : vS} (h : v_I9 s) (hl : v_lo s t) (hX : j_X s t) : j_Sh s t := by
  refine ⟨fun k hk => ?_, fun k hk hk2 i hi => ?_⟩
  · have h1 := h.1.1.1.2 k hk
    unfold z_r0 at h1
    unfold z_r0x
    rw [hl 181 k (by decide), hl 182 k (by decide)]
    exact h1
  · rw [hl 181 k (by decide)] at hk2
    rw [hX 183 _ (by decide)]
    exact h.1.1.2 k hk hk2 i hi
theorem j9_ansX {α : Type} {s : vS} {o : Option (α × vS)} {f : vS → Option (α × vS)} (hj : v_T o (fun _ s1 => v_T (f s1) (fun _ s2 => v_I9 s2))) (hl : v_T o (fun _ t => v_CI t ∧ v_lo s t)) (hx : v_P o (fun _ t => j_X s t)) (ha : ∀ t, v_lo s t → j_X s t → ∀ r1 s1 r2 t1, o = some (r1, s1) → f t = some (r2, t1) → r1 = r2) : v_T o (fun r1 s1 => v_T (f s1) (fun r2 s2 => v_I9 s2 ∧ r1 = r2)) := by
  obtain ⟨r1, s1, e1, h1, h2⟩ := v_Tand hj hl
  obtain ⟨r2, s2, e2, h3⟩ := h1
  exact ⟨r1, s1, e1, r2, s2, e2, h3, ha s1 h2.2 (hx r1 s1 e1) r1 s1 r2 s2 e1 e2⟩
/-- what a question about a row is refused for -/
def td_R (t : vS) (b : Int32) : Int32 := if 0 ≤ b.toInt ∧ b.toInt ≤ 5 then (if (t.1 181 b.toInt.toNat).toInt = -1 then -11 else if (t.1 181 b.toInt.toNat).toInt = -3 then 0 else -12) else -1
theorem td_0 {t : vS} {b : Int32} (h : (td_R t b).toInt = 0) : (0 ≤ b.toInt ∧ b.toInt ≤ 5) ∧ (t.1 181 b.toInt.toNat).toInt = -3 := by
  unfold td_R at h
  by_cases hb : 0 ≤ b.toInt ∧ b.toInt ≤ 5
  · rw [if_pos hb] at h
    refine ⟨hb, ?_⟩
    by_cases h1 : (t.1 181 b.toInt.toNat).toInt = -1
    · rw [if_pos h1] at h; exact absurd h (by decide)
    · rw [if_neg h1] at h
      by_cases h2 : (t.1 181 b.toInt.toNat).toInt = -3
      · exact h2
      · rw [if_neg h2] at h; exact absurd h (by decide)
  · rw [if_neg hb] at h; exact absurd h (by decide)
theorem td_n {t : vS} {b : Int32} (h : ¬ (td_R t b).toInt = 0) : (td_R t b).toInt < 0 := by
  unfold td_R at h ⊢
  by_cases hb : 0 ≤ b.toInt ∧ b.toInt ≤ 5
  · rw [if_pos hb] at h ⊢
    by_cases h1 : (t.1 181 b.toInt.toNat).toInt = -1
    · rw [if_pos h1]; decide
    · rw [if_neg h1] at h ⊢
      by_cases h2 : (t.1 181 b.toInt.toNat).toInt = -3
      · rw [if_pos h2] at h; exact absurd rfl h
      · rw [if_neg h2]; decide
  · rw [if_neg hb]; decide
theorem yC_told {s t : vS} (hS : j_Sh s t) (b : Int32) : v_P (f_Ol_refusalOfTold b s) (fun r u => u = s ∧ r = td_R t b) := by
  unfold f_Ol_refusalOfTold td_R
  rw [z_isShelf, v_bi_some, v_bif]
  by_cases hb : 0 ≤ b.toInt ∧ b.toInt ≤ 5
  · rw [if_pos hb, if_pos hb, z_shelfAt b s hb, v_bi_some, v_nc]
    refine v_Pif (fun _ => ?_) (fun _ => v_Pnone)
    have hr := hS.1 b.toInt.toNat (by omega)
    unfold z_r0x at hr
    unfold f_Sh_isBare
    generalize b.toInt.toNat = k at hr ⊢
    by_cases h0 : (s.1 (139 + 2 * k) 0).toInt = -1
    · rw [if_pos h0, v_bi_some, if_neg (by decide), if_pos (show (t.1 181 k).toInt = -1 by omega)]
      exact v_Pret ⟨rfl, rfl⟩
    · rw [if_neg h0, v_bi_some, if_pos (by decide), if_neg (show ¬ (t.1 181 k).toInt = -1 by omega)]
      by_cases h1 : (s.1 (139 + 2 * k) 0).toInt = 1
      · rw [if_pos h1, if_pos (show (t.1 181 k).toInt = -3 by omega)]
        exact v_Pret ⟨rfl, rfl⟩
      · rw [if_neg h1, if_neg (show ¬ (t.1 181 k).toInt = -3 by omega)]
        exact v_Pret ⟨rfl, rfl⟩
  · rw [if_neg hb, if_neg hb]
    exact v_Pret ⟨rfl, rfl⟩
/-- the reference refuses likewise -/
theorem yM_told {t : vS} (b : Int32) {g : vS → Option (Int32 × vS)} {Q : Int32 → vS → Prop} (h1 : (td_R t b).toInt = 0 → v_P (g t) Q) (h2 : ¬ (td_R t b).toInt = 0 → Q (td_R t b) t) : v_P (v_bi (f_Md_isShelf b t) (fun r1 s1 => (if r1.toInt = 0 then (some ((-1), s1)) else (v_bi (f_Md_rowFault b s1) (fun r3 s3 => (if 0 ≤ r3.toInt then g s3 else (v_bi (f_Md_rowFault b s3) (fun r7 s7 => (some (r7, s7)))))))))) Q := by
  have hsh : f_Md_isShelf b t = some (v_b (0 ≤ b.toInt ∧ b.toInt ≤ 5), t) := by
    unfold f_Md_isShelf
    rw [z_in, v_bi_some]
    exact if_pos v_b01
  rw [hsh, v_bi_some, v_bif]
  by_cases hb : 0 ≤ b.toInt ∧ b.toInt ≤ 5
  · rw [if_pos hb]
    have hi : v_in b 6 := ⟨hb.1, by omega⟩
    have hf : f_Md_rowFault b t = some (td_R t b, t) := by
      unfold f_Md_rowFault td_R
      rw [if_pos hi, if_pos hi, if_pos hb, v_nc]
      by_cases k1 : (t.1 181 b.toInt.toNat).toInt = -1
      · rw [if_pos k1, if_pos k1]
      · rw [if_neg k1, if_neg k1]
        by_cases k2 : (t.1 181 b.toInt.toNat).toInt = -3
        · rw [if_pos k2, if_pos k2]
        · rw [if_neg k2, if_neg k2]
    rw [hf, v_bi_some]
    by_cases h0 : (td_R t b).toInt = 0
    · rw [if_pos (by omega)]
      exact h1 h0
    · have := td_n h0
      rw [if_neg (by omega), hf, v_bi_some]
      exact v_Pret (h2 h0)
  · rw [if_neg hb]
    have e : td_R t b = -1 := by unfold td_R; rw [if_neg hb]
    have h3 := h2 (by rw [e]; decide)
    rw [e] at h3
    exact v_Pret h3
/-- a row: its length, what stands in it -/
def sh_C (s : vS) (a N : Nat) (E : Nat → Int32) : Prop := (s.1 a 2).toInt = N ∧ N ≤ 60 ∧ ∀ i, i < N → Int64.toInt32 (s.2 (a + 1) i) = E i
def sh_M (t : vS) (b : Int32) (N : Nat) (E : Nat → Int32) : Prop := (0 ≤ b.toInt ∧ b.toInt ≤ 5) ∧ (t.1 182 b.toInt.toNat).toInt = N ∧ N ≤ 60 ∧ ∀ i, i < N → Int64.toInt32 (t.2 183 (60 * b.toInt.toNat + i)) = E i
theorem sh_ex {s t : vS} (hS : j_Sh s t) (hR : v_RI t) {b : Int32} (h : (td_R t b).toInt = 0) : ∃ N E, sh_C s (139 + 2 * b.toInt.toNat) N E ∧ sh_M t b N E := by
  obtain ⟨hb, h3⟩ := td_0 h
  have hz := hR.1.2.1 b.toInt.toNat (by omega)
  have hr := hS.1 b.toInt.toNat (by omega)
  have he := hS.2 b.toInt.toNat (by omega) (by omega)
  unfold z_r0x at hr
  have hsz : s.1 (139 + 2 * b.toInt.toNat) 2 = t.1 182 b.toInt.toNat := by
    rcases hr with h4 | h4 | h4
    · omega
    · omega
    · exact h4.2.2.2
  refine ⟨(t.1 182 b.toInt.toNat).toInt.toNat, fun i => Int64.toInt32 (t.2 183 (60 * b.toInt.toNat + i)), ⟨by rw [hsz]; omega, by omega, fun i hi => ?_⟩, hb, by omega, by omega, fun i hi => rfl⟩
  rw [show 139 + 2 * b.toInt.toNat + 1 = 140 + 2 * b.toInt.toNat by omega, he i (by omega)]
theorem sh_CF {s u : vS} {a N : Nat} {E : Nat → Int32} (h : sh_C s a N E) (h1 : u.1 a 2 = s.1 a 2) (h2 : ∀ i, u.2 (a + 1) i = s.2 (a + 1) i) : sh_C u a N E := ⟨by rw [h1]; exact h.1, h.2.1, fun i hi => by rw [h2]; exact h.2.2 i hi⟩
theorem sh_MF {t w : vS} {b : Int32} {N : Nat} {E : Nat → Int32} (h : sh_M t b N E) (h1 : w.1 182 = t.1 182) (h2 : w.2 = t.2) : sh_M w b N E := ⟨h.1, by rw [h1]; exact h.2.1, h.2.2.1, fun i hi => by rw [h2]; exact h.2.2.2 i hi⟩
def due (x : Int32) : Bool := decide (0 ≤ x.toInt ∧ x.toInt ≤ 2) || decide (x.toInt = -2)
/-- a two that is a case and a verdict -/
def tw (N : Nat) (E : Nat → Int32) (k : Nat) : Bool := decide (2 * k + 1 < N) && (pl_C (E (2 * k)) && due (E (2 * k + 1)))
theorem y_twos {s : vS} {a N : Nat} {E : Nat → Int32} (h : sh_C s a N E) : ∃ x, f_Sh_twos a s = some (x, s) ∧ x.toInt = ((N + 1) / 2 : Nat) := by
  refine ⟨_, rfl, ?_⟩
  have h1 := h.1
  have h2 := h.2.1
  have e1 := v_inc (x := s.1 a 2) (by omega)
  rw [v_tdiv (y := 2) (by omega) (by decide), e1, h1]
  show ((N : Int) + 1) / 2 = _
  omega
theorem v_21 {v : Int32} {k : Nat} (h : v.toInt = k) (hk : k ≤ 100) : ((2 : Int32) * v).toInt = ((2 * k : Nat) : Int) ∧ ((2 : Int32) * v + 1).toInt = ((2 * k + 1 : Nat) : Int) := by
  have e := v_2m (v := v) ⟨by omega, by omega⟩
  refine ⟨by rw [e]; omega, ?_⟩
  rw [v_inc (by rw [e]; omega), e]
  omega
theorem y_Shat {s : vS} {a N : Nat} {E : Nat → Int32} (h : sh_C s a N E) {v : Int32} {i : Nat} (hv : v.toInt = i) (hi : i < N) : f_Sh_at a v s = some (s.2 (a + 1) i, s) := by
  have h2 := h.2.1
  unfold f_Sh_at
  rw [if_neg (by omega), if_neg (by rw [h.1]; omega), if_neg (by omega), if_pos (show v_in v 60 from ⟨by omega, by omega⟩), show v.toNatClampNeg = i by rw [v_nc]; omega]
theorem y_placeTwo {s : vS} {a N : Nat} {E : Nat → Int32} (h : sh_C s a N E) {v : Int32} {k : Nat} (hv : v.toInt = k) (hk : 2 * k < N) : f_Sh_placeOfTwo a v s = some (if pl_C (E (2 * k)) = true then pl_V (E (2 * k)) else -1, s) := by
  have h2 := h.2.1
  unfold f_Sh_placeOfTwo
  rw [y_Shat h (v_21 hv (by omega)).1 hk, v_bi_some, y_placeOf, v_bi_some, h.2.2 _ hk]
theorem y_verdTwo {s : vS} {a N : Nat} {E : Nat → Int32} (h : sh_C s a N E) {v : Int32} {k : Nat} (hv : v.toInt = k) (hk : 2 * k < N) : f_Sh_verdictOfTwo a v s = some (if (decide (2 * k + 1 < N) && due (E (2 * k + 1))) = true then E (2 * k + 1) else -1, s) := by
  have h2 := h.2.1
  have e := (v_21 hv (by omega)).2
  unfold f_Sh_verdictOfTwo
  by_cases hl : 2 * k + 1 < N
  · rw [y_Shat h e hl, v_bi_some, if_pos (show ((2 : Int32) * v + 1).toInt < (s.1 a 2).toInt by rw [e, h.1]; omega), h.2.2 _ hl, jz_isSaying, v_bi_some, v_bif, decide_eq_true hl, Bool.true_and]
    unfold due
    by_cases c1 : 0 ≤ (E (2 * k + 1)).toInt ∧ (E (2 * k + 1)).toInt ≤ 2
    · rw [if_pos c1, decide_eq_true c1, Bool.true_or, if_pos rfl]
    · rw [if_neg c1, decide_eq_false c1, Bool.false_or]
      by_cases c2 : (E (2 * k + 1)).toInt = -2
      · rw [if_pos c2, decide_eq_true c2, if_pos rfl]
      · rw [if_neg c2, decide_eq_false c2, if_neg (by decide)]
  · rw [decide_eq_false hl, Bool.false_and, if_neg (by decide)]
    have e2 : f_Sh_at a ((2 : Int32) * v + 1) s = some (0, s) := by
      unfold f_Sh_at
      rw [if_neg (by rw [e]; omega), if_pos (by rw [e, h.1]; omega)]
    rw [e2, v_bi_some, if_neg (show ¬ ((2 : Int32) * v + 1).toInt < (s.1 a 2).toInt by rw [e, h.1]; omega)]
theorem due_1 {x : Int32} (h : due x = true) : ¬ x.toInt = -1 := by
  unfold due at h
  rcases Bool.or_eq_true_iff.mp h with h | h
  · have := of_decide_eq_true h; omega
  · have := of_decide_eq_true h; omega
theorem y_isTwo {s : vS} {a N : Nat} {E : Nat → Int32} (h : sh_C s a N E) {v : Int32} {k : Nat} (hv : v.toInt = k) (hk : 2 * k < N) : f_Sh_isTwo a v s = some (if tw N E k = true then 1 else 0, s) := by
  unfold f_Sh_isTwo
  rw [y_placeTwo h hv hk, v_bi_some, y_verdTwo h hv hk]
  unfold tw
  by_cases hp : pl_C (E (2 * k)) = true
  · obtain ⟨i, hi, e⟩ := pl_in hp
    rw [if_pos hp, if_neg (show ¬ (pl_V (E (2 * k))).toInt < 0 by omega), v_bi_some, hp, Bool.true_and]
    by_cases hd : (decide (2 * k + 1 < N) && due (E (2 * k + 1))) = true
    · rw [if_pos hd, if_pos hd, if_neg (due_1 (Bool.and_eq_true_iff.mp hd).2)]
    · rw [if_neg hd, if_neg hd, if_pos (by decide)]
  · have hp2 : pl_C (E (2 * k)) = false := by
      cases hx : pl_C (E (2 * k)) with
      | true => exact absurd hx hp
      | false => rfl
    rw [if_neg hp, if_pos (by decide), hp2, Bool.false_and, Bool.and_false, if_neg (by decide)]
theorem v_6021 {b v : Int32} {k : Nat} (hb : 0 ≤ b.toInt ∧ b.toInt ≤ 5) (h : v.toInt = k) (hk : 2 * k < 60) : ((60 : Int32) * b + (2 : Int32) * v).toInt = 60 * b.toInt + 2 * (k : Int) ∧ ((60 : Int32) * b + (2 : Int32) * v + 1).toInt = 60 * b.toInt + 2 * (k : Int) + 1 := by
  have e := v_2m (v := v) ⟨by omega, by omega⟩
  have e6 : ((60 : Int32) * b).toInt = 60 * b.toInt := i32_mul (x := 60) (show -2 ^ 31 ≤ (60 : Int) * b.toInt by omega) (show (60 : Int) * b.toInt < 2 ^ 31 by omega)
  have e7 : ((60 : Int32) * b + (2 : Int32) * v).toInt = 60 * b.toInt + 2 * (k : Int) := by
    rw [i32_add (by omega) (by omega), e6, e, h]
  exact ⟨e7, by rw [v_inc (by omega), e7]⟩
theorem yM_caseAt {t : vS} {b v : Int32} {N k : Nat} {E : Nat → Int32} (h : sh_M t b N E) (hv : v.toInt = k) (hk : 2 * k < N) : f_Md_caseAt b v t = some (E (2 * k), t) := by
  have h2 := h.2.2.1
  obtain ⟨e1, e2⟩ := v_6021 h.1 hv (by omega)
  have hb := h.1
  unfold f_Md_caseAt
  rw [if_pos (show v_in ((60 : Int32) * b + (2 : Int32) * v) 360 from ⟨by omega, by omega⟩), show ((60 : Int32) * b + (2 : Int32) * v).toNatClampNeg = 60 * b.toInt.toNat + 2 * k by rw [v_nc]; omega, h.2.2.2 _ hk]
theorem yM_dueAt {t : vS} {b v : Int32} {N k : Nat} {E : Nat → Int32} (h : sh_M t b N E) (hv : v.toInt = k) (hk : 2 * k + 1 < N) : f_Md_dueAt b v t = some (E (2 * k + 1), t) := by
  have h2 := h.2.2.1
  obtain ⟨e1, e2⟩ := v_6021 h.1 hv (by omega)
  have hb := h.1
  unfold f_Md_dueAt
  rw [if_pos (show v_in ((60 : Int32) * b + (2 : Int32) * v + 1) 360 from ⟨by omega, by omega⟩), show ((60 : Int32) * b + (2 : Int32) * v + 1).toNatClampNeg = 60 * b.toInt.toNat + (2 * k + 1) by rw [v_nc]; omega, h.2.2.2 _ hk]
theorem yM_isTwo {t : vS} {b v : Int32} {N k : Nat} {E : Nat → Int32} (h : sh_M t b N E) (hv : v.toInt = k) (hk : 2 * k < N) : f_Md_isTwo b v t = some (if tw N E k = true then 1 else 0, t) := by
  have h2 := h.2.2.1
  have hb := h.1
  have e := (v_21 hv (by omega)).2
  unfold f_Md_isTwo tw
  rw [if_pos (show v_in b 6 from ⟨hb.1, by omega⟩), v_nc]
  by_cases hl : 2 * k + 1 < N
  · rw [if_neg (show ¬ (t.1 182 b.toInt.toNat).toInt ≤ ((2 : Int32) * v + 1).toInt by rw [e, h.2.1]; omega), yM_caseAt h hv hk, v_bi_some, y_isCase, v_bi_some, v_bif, decide_eq_true hl, Bool.true_and]
    by_cases hp : pl_C (E (2 * k)) = true
    · rw [if_pos hp, yM_dueAt h hv hl, v_bi_some, z_in, v_bi_some, v_bif, hp, Bool.true_and]
      unfold due
      by_cases c1 : 0 ≤ (E (2 * k + 1)).toInt ∧ (E (2 * k + 1)).toInt ≤ 2
      · rw [if_pos (show (0 : Int32).toInt ≤ (E (2 * k + 1)).toInt ∧ (E (2 * k + 1)).toInt ≤ (2 : Int32).toInt from c1), decide_eq_true c1, Bool.true_or, if_pos rfl]
      · rw [if_neg (show ¬ ((0 : Int32).toInt ≤ (E (2 * k + 1)).toInt ∧ (E (2 * k + 1)).toInt ≤ (2 : Int32).toInt) from c1), decide_eq_false c1, Bool.false_or, yM_dueAt h hv hl, v_bi_some]
        by_cases c2 : (E (2 * k + 1)).toInt = -2
        · rw [if_pos c2, decide_eq_true c2, if_pos rfl]
        · rw [if_neg c2, decide_eq_false c2, if_neg (by decide)]
    · have hp2 : pl_C (E (2 * k)) = false := by
        cases hx : pl_C (E (2 * k)) with
        | true => exact absurd hx hp
        | false => rfl
      rw [if_neg hp, hp2, Bool.false_and, if_neg (by decide)]
  · rw [if_pos (show (t.1 182 b.toInt.toNat).toInt ≤ ((2 : Int32) * v + 1).toInt by rw [e, h.2.1]; omega), decide_eq_false hl, Bool.false_and, if_neg (by decide)]
/-- the first that is not so -/
def FW (w : Nat → Bool) (n : Nat) (o : Option Nat) : Prop := match o with
  | none => ∀ k, k < n → w k = false
  | some k => k < n ∧ w k = true ∧ ∀ j, j < k → w j = false
theorem FW_eq {w w2 : Nat → Bool} {n : Nat} (hw : ∀ k, k < n → w k = w2 k) {o o2 : Option Nat} (h : FW w n o) (h2 : FW w2 n o2) : o = o2 := by
  cases o with
  | none =>
    cases o2 with
    | none => rfl
    | some j =>
      have h1 := h j h2.1
      rw [hw j h2.1, h2.2.1] at h1
      cases h1
  | some i =>
    cases o2 with
    | none =>
      have h1 := h2 i h.1
      rw [← hw i h.1, h.2.1] at h1
      cases h1
    | some j =>
      rcases Nat.lt_trichotomy i j with z | z | z
      · have h1 := h2.2.2 i z
        rw [← hw i h.1, h.2.1] at h1
        cases h1
      · rw [z]
      · have h1 := h.2.2 j z
        rw [hw j h2.1, h2.2.1] at h1
        cases h1
/-- whether a two is not so, by the verdicts V -/
def wr (N : Nat) (E : Nat → Int32) (V : Nat → Int32) (k : Nat) : Bool := !(tw N E k && decide ((V (pl_V (E (2 * k))).toInt.toNat).toInt = (E (2 * k + 1)).toInt))
def fw_R (z : Int32) (o : Option Nat) : Int32 := match o with
  | none => z
  | some k => Int32.ofNat k
theorem tw_in {N : Nat} {E : Nat → Int32} {k : Nat} (h : tw N E k = true) : 2 * k + 1 < N ∧ pl_C (E (2 * k)) = true ∧ due (E (2 * k + 1)) = true := by
  unfold tw at h
  obtain ⟨h1, h2⟩ := Bool.and_eq_true_iff.mp h
  obtain ⟨h3, h4⟩ := Bool.and_eq_true_iff.mp h2
  exact ⟨of_decide_eq_true h1, h3, h4⟩
theorem b_ff {p : Bool} (h : ¬ p = true) : p = false := by
  cases p with
  | true => exact absurd rfl h
  | false => rfl
theorem yC_fwL {s : vS} (ho : ok_C s) {a N : Nat} {E : Nat → Int32} (hsh : sh_C s a N E) {k1 : Int32 → vS → Option (Int32 × vS)} {k2 : vS → Option (Int32 × vS)} {Q : Int32 → vS → Prop} (hk1 : ∀ (v : Int32) (k : Nat), v = Int32.ofNat k → FW (wr N E (fun i => vdC s i (s.1 8 2).toInt)) ((N + 1) / 2) (some k) → v_P (k1 v s) Q) (hk2 : FW (wr N E (fun i => vdC s i (s.1 8 2).toInt)) ((N + 1) / 2) none → v_P (k2 s) Q) : ∀ (n : Nat) (v : Int32), 0 ≤ v.toInt → v.toInt ≤ 31 → (∀ j, j < v.toInt.toNat → wr N E (fun i => vdC s i (s.1 8 2).toInt) j = false) → v_P (f_Ct_firstWrong_L2 a k1 k2 n v s) Q
  | 0, _, _, _, _ => v_Pnone
  | n + 1, v, h0, h1, hj => by
    show v_P (f_Ct_firstWrong_L2b a k1 k2 (f_Ct_firstWrong_L2 a k1 k2 n) v s) Q
    unfold f_Ct_firstWrong_L2b
    have hN := hsh.2.1
    obtain ⟨x, x1, x2⟩ := y_twos hsh
    rw [x1, v_bi_some]
    by_cases c : x.toInt ≤ v.toInt
    · rw [if_pos c]
      exact hk2 (fun k hk => hj k (by omega))
    · rw [if_neg c]
      obtain ⟨k, hk⟩ : ∃ k : Nat, v.toInt = k := ⟨v.toInt.toNat, by omega⟩
      have e1 := v_inc (x := v) (by omega)
      have hvo := v_ofn hk
      have hn0 : v.toInt.toNat = k := by omega
      rw [hn0] at hj
      have h2k : 2 * k < N := by omega
      rw [y_isTwo hsh hk h2k, v_bi_some, b01]
      by_cases ht : tw N E k = true
      · obtain ⟨t1, t2, t3⟩ := tw_in ht
        obtain ⟨i, hi, ei⟩ := pl_in t2
        rw [if_pos ht, y_placeTwo hsh hk h2k, v_bi_some, if_pos t2]
        refine v_Pbi (yC_verdictIn ho.1 ho.2.1 ho.2.2 ei hi) ?_
        rintro r s2 ⟨rfl, rfl⟩
        rw [y_verdTwo hsh hk h2k, v_bi_some, if_pos (show (decide (2 * k + 1 < N) && due (E (2 * k + 1))) = true by rw [decide_eq_true t1, t3]; rfl)]
        have hn : (pl_V (E (2 * k))).toInt.toNat = i := by omega
        by_cases z : (vdC s2 i (s2.1 8 2).toInt).toInt = (E (2 * k + 1)).toInt
        · rw [if_pos z]
          refine yC_fwL ho hsh hk1 hk2 n (v + 1) (by omega) (by omega) (fun j hj2 => ?_)
          by_cases e : j = k
          · rw [e]
            unfold wr
            rw [ht, hn, decide_eq_true z]
            rfl
          · exact hj j (by omega)
        · rw [if_neg z]
          refine hk1 v k hvo ⟨by omega, ?_, hj⟩
          unfold wr
          rw [hn, decide_eq_false z, Bool.and_false]
          rfl
      · rw [if_neg ht]
        refine hk1 v k hvo ⟨by omega, ?_, hj⟩
        unfold wr
        rw [b_ff ht, Bool.false_and]
        rfl
theorem yC_firstWrong {s : vS} (ho : ok_C s) {a N : Nat} {E : Nat → Int32} (hsh : sh_C s a N E) : v_P (f_Ct_firstWrong a s) (fun r u => u = s ∧ ∃ o, FW (wr N E (fun i => vdC s i (s.1 8 2).toInt)) ((N + 1) / 2) o ∧ r = fw_R (-1) o) := by
  unfold f_Ct_firstWrong
  exact yC_fwL ho hsh (fun v k hv h => v_Pret ⟨rfl, some k, h, hv⟩) (fun h => v_Pret ⟨rfl, none, h, rfl⟩) 4096 0 (by decide) (by decide) (fun j hj => absurd hj (Nat.not_lt_zero j))
theorem yM_wiL {w : vS} (ho : ok_M w) {b : Int32} {N : Nat} {E : Nat → Int32} (hsh : sh_M w b N E) {k1 : Int32 → vS → Option (Int32 × vS)} {k2 : vS → Option (Int32 × vS)} {Q : Int32 → vS → Prop} (hk1 : ∀ (v : Int32) (k : Nat), v = Int32.ofNat k → FW (wr N E (fun i => vdM w i (w.1 151 18).toInt)) ((N + 1) / 2) (some k) → v_P (k1 v w) Q) (hk2 : FW (wr N E (fun i => vdM w i (w.1 151 18).toInt)) ((N + 1) / 2) none → v_P (k2 w) Q) : ∀ (n : Nat) (v : Int32), 0 ≤ v.toInt → v.toInt ≤ 31 → (∀ j, j < v.toInt.toNat → wr N E (fun i => vdM w i (w.1 151 18).toInt) j = false) → v_P (f_Md_wrongIn_L2 b k1 k2 n v w) Q
  | 0, _, _, _, _ => v_Pnone
  | n + 1, v, h0, h1, hj => by
    show v_P (f_Md_wrongIn_L2b b k1 k2 (f_Md_wrongIn_L2 b k1 k2 n) v w) Q
    unfold f_Md_wrongIn_L2b
    have hN := hsh.2.2.1
    have hb := hsh.1
    obtain ⟨k, hk⟩ : ∃ k : Nat, v.toInt = k := ⟨v.toInt.toNat, by omega⟩
    have e2 := (v_21 hk (by omega)).1
    rw [if_pos (show v_in b 6 from ⟨hb.1, by omega⟩), v_nc]
    by_cases c : (w.1 182 b.toInt.toNat).toInt ≤ ((2 : Int32) * v).toInt
    · rw [if_pos c]
      rw [e2, hsh.2.1] at c
      exact hk2 (fun j hj2 => hj j (by omega))
    · rw [if_neg c]
      rw [e2, hsh.2.1] at c
      have e1 := v_inc (x := v) (by omega)
      have hvo := v_ofn hk
      have hn0 : v.toInt.toNat = k := by omega
      rw [hn0] at hj
      have h2k : 2 * k < N := by omega
      rw [yM_isTwo hsh hk h2k, v_bi_some, b01]
      by_cases ht : tw N E k = true
      · obtain ⟨t1, t2, t3⟩ := tw_in ht
        obtain ⟨i, hi, ei⟩ := pl_in t2
        rw [if_pos ht, yM_caseAt hsh hk h2k, v_bi_some, y_caseOf, v_bi_some]
        refine v_Pbi (yM_verdictIn ho.1 ho.2 ei hi) ?_
        rintro r w2 ⟨rfl, rfl⟩
        rw [yM_dueAt hsh hk t1, v_bi_some]
        have hn : (pl_V (E (2 * k))).toInt.toNat = i := by omega
        by_cases z : (vdM w2 i (w2.1 151 18).toInt).toInt = (E (2 * k + 1)).toInt
        · rw [if_pos z]
          refine yM_wiL ho hsh hk1 hk2 n (v + 1) (by omega) (by omega) (fun j hj2 => ?_)
          by_cases e : j = k
          · rw [e]
            unfold wr
            rw [ht, hn, decide_eq_true z]
            rfl
          · exact hj j (by omega)
        · rw [if_neg z]
          refine hk1 v k hvo ⟨by omega, ?_, hj⟩
          unfold wr
          rw [hn, decide_eq_false z, Bool.and_false]
          rfl
      · rw [if_neg ht]
        refine hk1 v k hvo ⟨by omega, ?_, hj⟩
        unfold wr
        rw [b_ff ht, Bool.false_and]
        rfl
theorem yM_wrongIn {w : vS} (ho : ok_M w) {b : Int32} {N : Nat} {E : Nat → Int32} (hsh : sh_M w b N E) : v_P (f_Md_wrongIn b w) (fun r u => u = w ∧ ∃ o, FW (wr N E (fun i => vdM w i (w.1 151 18).toInt)) ((N + 1) / 2) o ∧ r = fw_R (-2) o) := by
  unfold f_Md_wrongIn
  exact yM_wiL ho hsh (fun v k hv h => v_Pret ⟨rfl, some k, h, hv⟩) (fun h => v_Pret ⟨rfl, none, h, rfl⟩) 4096 0 (by decide) (by decide) (fun j hj => absurd hj (Nat.not_lt_zero j))
theorem wr_eq {N : Nat} {E V V2 : Nat → Int32} (hV : ∀ i, i < 125 → V i = V2 i) (k : Nat) : wr N E V k = wr N E V2 k := by
  unfold wr
  by_cases ht : tw N E k = true
  · obtain ⟨i, hi, ei⟩ := pl_in (tw_in ht).2.1
    rw [hV _ (by omega)]
  · rw [b_ff ht, Bool.false_and, Bool.false_and]
theorem sh_hd {s u : vS} (hu : hd_C s u) {k N : Nat} {E : Nat → Int32} (hk : k < 6) (h : sh_C s (139 + 2 * k) N E) : sh_C u (139 + 2 * k) N E := sh_CF h (hu.1.1.1 _ 2 (by unfold hx_S hx_R; omega)).1 (fun i => (hu.1.1.1 _ i (by unfold hx_S hx_R; omega)).2)
theorem jr_judge {s t : vS} (h : j_R s t) (hR : v_RI t) (hK : v_KQ s) (h2 : j_2 s) (hS : j_Sh s t) (b : Int32) : j_An s t (f_Ol_judge b s) (f_Md_judge b t) := by
  obtain ⟨AC, hAC⟩ := j_ACex h hR.1.1.2
  unfold f_Ol_judge f_Md_judge
  by_cases h0 : (td_R t b).toInt = 0
  · obtain ⟨N, E, hC, hM⟩ := sh_ex hS hR h0
    have hb := hM.1
    refine j_AnI (P := fun r _ => ∃ u o, hd_C s u ∧ FW (wr N E (fun i => vdC u i (u.1 8 2).toInt)) ((N + 1) / 2) o ∧ r = fw_R (-2) o) (Q := fun r _ => ∃ w o, hd_M s t w AC ∧ FW (wr N E (fun i => vdM w i (w.1 151 18).toInt)) ((N + 1) / 2) o ∧ r = fw_R (-2) o) ?_ ?_ ?_
    · refine v_Pbi (yC_told hS b) ?_
      rintro r s ⟨rfl, rfl⟩
      rw [if_pos h0]
      refine v_Pbi (jd_C h hR hK h2 hAC) ?_
      rintro _ u hu
      rw [z_shelfAt b u hb, v_bi_some, v_nc]
      refine v_Pif (fun _ => ?_) (fun _ => v_Pnone)
      refine v_Pbi (yC_firstWrong hu.2 (sh_hd hu (by omega) hC)) ?_
      rintro r u2 ⟨rfl, o, o1, rfl⟩
      cases o with
      | none =>
        rw [if_neg (show ¬ 0 ≤ (fw_R (-1) none).toInt by decide)]
        exact v_Pret ⟨u2, none, hu, o1, rfl⟩
      | some k =>
        have hk := o1.1
        have hN := hC.2.1
        have e : (fw_R (-1) (some k)).toInt = k := v_oi (n := k) (by omega)
        rw [if_pos (show 0 ≤ (fw_R (-1) (some k)).toInt by omega)]
        exact v_Pret ⟨u2, some k, hu, o1, rfl⟩
    · refine yM_told b (fun _ => ?_) (fun z => absurd h0 z)
      refine v_Pbi (jd_M h hR hAC) ?_
      rintro _ w hw
      refine v_Pbi (yM_wrongIn hw.2 (sh_MF hM (funext fun j => hw.1.1.1 182 j (by omega)) hw.1.1.2)) ?_
      rintro r w2 ⟨rfl, o, o1, rfl⟩
      exact v_Pret ⟨w2, o, hw, o1, rfl⟩
    · rintro r1 _ r2 _ ⟨u, o, hu, o1, rfl⟩ ⟨w, o2, hw, o3, rfl⟩
      obtain ⟨hV, hr8, _⟩ := jd_V h hR hAC hu hw
      rw [FW_eq (fun k _ => wr_eq (fun i hi => by rw [jv_vd hV hi, hr8]) k) o1 o3]
  · refine j_AnI (P := fun r _ => r = td_R t b) (Q := fun r _ => r = td_R t b) ?_ (yM_told b (fun z => absurd z h0) (fun _ => rfl)) (fun _ _ _ _ a1 a2 => by rw [a1, a2])
    refine v_Pbi (yC_told hS b) ?_
    rintro r s ⟨rfl, rfl⟩
    rw [if_neg h0]
    exact v_Pret rfl
/-! falseOnes -/
/-- who stands without a set x: y -/
def sd_Y (u : vS) (x y : Int32) : Prop := st_F (nC u) (st_T u x) (dC u) (stK u) (fun m => bt y m = true) ∧ ∀ m, m < 32 → bt y m = true → m < nC u
theorem sd_uq {u : vS} (hm : nC u ≤ 10) {x y y2 : Int32} (h : sd_Y u x y) (h2 : sd_Y u x y2) : y = y2 := by
  refine b_ext (fun m hm32 => ?_)
  by_cases c : m < nC u
  · have h3 := st_uniq h.1 h2.1 (((dC u m).toInt * 1000 + 2147483648000 + m).toNat + 1) m c (by omega) (by omega)
    cases hy : bt y m with
    | true => exact (h3.mp hy).symm
    | false =>
      cases hy2 : bt y2 m with
      | true => have := h3.mpr hy2; rw [hy] at this; cases this
      | false => rfl
  · cases hy : bt y m with
    | true => exact absurd (h.2 m hm32 hy) c
    | false =>
      cases hy2 : bt y2 m with
      | true => exact absurd (h2.2 m hm32 hy2) c
      | false => rfl
/-- the class's state, but for who stands -/
def j_Y (u s : vS) : Prop := (∀ a j, ¬ (a = 8 ∧ j = 4) → s.1 a j = u.1 a j) ∧ s.2 = u.2
theorem j_Y_n {u s : vS} (h : j_Y u s) : nC s = nC u := by unfold nC; rw [h.1 8 1 (by decide)]
theorem j_Y_d {u s : vS} (h : j_Y u s) : dC s = dC u ∧ stK s = stK u := ⟨funext fun k => h.1 _ _ (by omega), funext fun k => h.1 _ _ (by omega)⟩
theorem j_Y_T {u s : vS} (h : j_Y u s) (x : Int32) : st_T s x = st_T u x := by
  funext m
  unfold st_T
  show (x_th (s.1 8 1).toInt (s.1 8 3).toInt (dC s) m ∧ _) = (x_th (u.1 8 1).toInt (u.1 8 3).toInt (dC u) m ∧ _)
  rw [h.1 8 1 (by decide), h.1 8 3 (by decide), (j_Y_d h).1]
theorem j_Y_ok {u s : vS} (h : j_Y u s) (ho : ok_C u) : ok_C s := by
  obtain ⟨⟨h1, h2⟩, h3, h4⟩ := ho
  have e8 : s.1 8 1 = u.1 8 1 := h.1 _ _ (by decide)
  refine ⟨⟨by rw [e8]; exact h1, by rw [e8]; exact h2⟩, fun k hk => by rw [h.1 _ _ (by omega)]; exact h3 k hk, fun k hk q q1 q2 => ?_⟩
  rw [j_Y_n h] at hk
  unfold lb
  rw [h.2]
  exact h4 k hk q q1 q2
def st_ok (u : vS) : Prop := st_S (dC u) u (nC u) ∧ ∀ k, k < nC u → -1 ≤ (stK u k).toInt ∧ (stK u k).toInt ≤ 9
theorem j_Y_st {u s : vS} (h : j_Y u s) (ho : st_ok u) : st_ok s := by
  obtain ⟨h1, h2⟩ := ho
  refine ⟨?_, fun k hk => ?_⟩
  · rw [j_Y_n h, (j_Y_d h).1]
    unfold st_S at h1 ⊢
    have e : s.1 20 = u.1 20 := funext fun j => h.1 _ _ (by omega)
    rw [e]
    exact h1
  · rw [(j_Y_d h).2]
    rw [j_Y_n h] at hk
    exact h2 k hk
theorem yC_without {u s : vS} (h : j_Y u s) (ho : ok_C u) (hs : st_ok u) (x : Int32) : v_P (f_Ct_standWithout x s) (fun _ t => j_Y u t ∧ sd_Y u x (t.1 8 4)) := by
  have h1 := j_Y_ok h ho
  have h2 := j_Y_st h hs
  refine v_Pm2 (y_standW x s h1.1 h2.1 h2.2) (fun _ t ht => ⟨⟨fun a j q => (ht.1 a j q).trans (h.1 a j q), ht.2.1.trans h.2⟩, ?_, ?_⟩)
  · have h3 := ht.2.2.1
    rw [j_Y_T h, (j_Y_d h).1, (j_Y_d h).2] at h3
    have e : (s.1 8 1).toInt.toNat = nC u := j_Y_n h
    rw [e] at h3
    exact h3
  · have h3 := ht.2.2.2
    have e : (s.1 8 1).toInt.toNat = nC u := j_Y_n h
    rw [e] at h3
    exact h3
/-- verdicts with y standing -/
def hoY (u : vS) (y : Int32) (i : Nat) (r : Int) : Option Nat := hol (fun k => bt y k) (pC u i) (ahC u r) (nC u)
def vdY (u : vS) (y : Int32) (i : Nat) (r : Int) : Int32 := match hoY u y i r with
  | none => -2
  | some k => u.1 (23 + 5 * k) 2
theorem vdC_Y {u s : vS} (h : j_Y u s) (i : Nat) (r : Int) : vdC s i r = vdY u (s.1 8 4) i r := by
  have e : hoC s i r = hoY u (s.1 8 4) i r := by
    unfold hoC hoY
    rw [j_Y_n h]
    refine hol_eq (nC u) (fun k hk => ⟨rfl, by unfold pC lb; rw [h.2]⟩) (fun a b ha hb => ?_)
    have el : ∀ k, lb s k = lb u k := fun k => funext fun i => by unfold lb; rw [h.2]
    unfold ahC
    rw [h.1 (23 + 5 * a) 1 (by omega), h.1 (23 + 5 * b) 1 (by omega), h.1 (23 + 5 * a) 2 (by omega), h.1 (23 + 5 * b) 2 (by omega), el, el]
  unfold vdC vdY
  rw [e]
  cases hoY u (s.1 8 4) i r with
  | none => rfl
  | some k => exact h.1 _ _ (by omega)
/-- the set x of laws false makes the row so -/
def ok_F (u : vS) (N : Nat) (E : Nat → Int32) (x : Nat) : Prop := ∃ y, sd_Y u (Int32.ofNat x) y ∧ FW (wr N E (fun i => vdY u y i (u.1 8 2).toInt)) ((N + 1) / 2) none
noncomputable def pcN (x : Nat) : Nat := (pcV (Int32.ofNat x)).toInt.toNat
set_option maxRecDepth 100000 in
theorem pcN_0 : (List.range 1024).all (fun x => decide (0 ≤ (pcV (Int32.ofNat x)).toInt) && (decide ((pcV (Int32.ofNat x)).toInt ≤ 10))) = true := by decide +kernel
theorem pcN_in {x : Nat} (h : x < 1024) : (pcV (Int32.ofNat x)).toInt = pcN x ∧ pcN x ≤ 10 := by
  have h1 := List.all_eq_true.mp pcN_0 x (List.mem_range.mpr h)
  obtain ⟨h2, h3⟩ := Bool.and_eq_true_iff.mp h1
  have h2 := of_decide_eq_true h2
  have h3 := of_decide_eq_true h3
  unfold pcN
  exact ⟨by omega, by omega⟩
/-- the best so far, of the sets below v -/
def Bs (ok : Nat → Prop) (v : Nat) (f l : Int32) : Prop := (f.toInt = 11 ∧ l = -2 ∧ ∀ x, x < v → ¬ ok x) ∨ ∃ x0, x0 < v ∧ l = Int32.ofNat x0 ∧ f.toInt = pcN x0 ∧ ok x0 ∧ ∀ x, x < v → ok x → pcN x0 < pcN x ∨ (pcN x0 = pcN x ∧ x0 ≤ x)
theorem Bs_no {ok : Nat → Prop} {v : Nat} {f l : Int32} (h : Bs ok v f l) (hn : ¬ ok v ∨ f.toInt ≤ pcN v) (hv : v < 1024) : Bs ok (v + 1) f l := by
  have h10 := (pcN_in hv).2
  rcases h with ⟨h1, h2, h3⟩ | ⟨x0, h1, h2, h3, h4, h5⟩
  · refine Or.inl ⟨h1, h2, fun x hx => ?_⟩
    by_cases e : x = v
    · rw [e]
      rcases hn with z | z
      · exact z
      · omega
    · exact h3 x (by omega)
  · refine Or.inr ⟨x0, by omega, h2, h3, h4, fun x hx hok => ?_⟩
    by_cases e : x = v
    · rw [e] at hok ⊢
      rcases hn with z | z
      · exact absurd hok z
      · omega
    · exact h5 x (by omega) hok
theorem Bs_yes {ok : Nat → Prop} {v : Nat} {f l g : Int32} (h : Bs ok v f l) (hy : ok v) (hlt : pcN v < f.toInt) (hg : g.toInt = pcN v) : Bs ok (v + 1) g (Int32.ofNat v) := by
  refine Or.inr ⟨v, by omega, rfl, hg, hy, fun x hx hok => ?_⟩
  by_cases e : x = v
  · rw [e]; exact Or.inr ⟨rfl, Nat.le_refl _⟩
  · rcases h with ⟨h1, h2, h3⟩ | ⟨x0, h1, h2, h3, h4, h5⟩
    · exact absurd hok (h3 x (by omega))
    · have := h5 x (by omega) hok
      omega
theorem yC_flL {u : vS} (ho : ok_C u) (hs : st_ok u) {k N : Nat} (hk6 : k < 6) {E : Nat → Int32} (hsh : sh_C u (139 + 2 * k) N E) {p6 : Int32} (hp6 : p6.toInt < 1024) {kk : Int32 → vS → Option (Int32 × vS)} {Q : Int32 → vS → Prop} (hk : ∀ f l s, Bs (ok_F u N E) (p6.toInt + 1).toNat f l → v_P (kk l s) Q) : ∀ (n : Nat) (f l v : Int32) (s : vS), 0 ≤ v.toInt → v.toInt ≤ p6.toInt + 1 → j_Y u s → Bs (ok_F u N E) v.toInt.toNat f l → v_P (f_Ol_falseOnes_L55 (139 + 2 * k) p6 kk n f l v s) Q
  | 0, _, _, _, _, _, _, _, _ => v_Pnone
  | n + 1, f, l, v, s, h0, h1, hY, hB => by
    show v_P (f_Ol_falseOnes_L55b (139 + 2 * k) p6 kk (f_Ol_falseOnes_L55 (139 + 2 * k) p6 kk n) f l v s) Q
    unfold f_Ol_falseOnes_L55b
    by_cases c : p6.toInt < v.toInt
    · rw [if_pos c]
      rw [show v.toInt = p6.toInt + 1 by omega] at hB
      exact hk f l s hB
    · rw [if_neg c, pc_eq, v_bi_some]
      obtain ⟨q, hq⟩ : ∃ q : Nat, v.toInt = q := ⟨v.toInt.toNat, by omega⟩
      have e1 := v_inc (x := v) (by omega)
      have hvo := v_ofn hq
      have hn1 : (v + 1).toInt.toNat = q + 1 := by omega
      have hn0 : v.toInt.toNat = q := by omega
      rw [hn0] at hB
      obtain ⟨p1, p2⟩ := pcN_in (x := q) (by omega)
      have hpv : (pcV v).toInt = pcN q := by rw [hvo]; exact p1
      by_cases cf : f.toInt ≤ (pcV v).toInt
      · rw [if_pos cf]
        refine yC_flL ho hs hk6 hsh hp6 hk n f l (v + 1) s (by omega) (by omega) hY ?_
        rw [hn1]
        exact Bs_no hB (Or.inr (by omega)) (by omega)
      · rw [if_neg cf]
        refine v_Pbi (yC_without hY ho hs v) ?_
        rintro _ s2 ⟨hY2, hsd⟩
        have ho2 := j_Y_ok hY2 ho
        have hsh2 : sh_C s2 (139 + 2 * k) N E := sh_CF hsh (hY2.1 _ _ (by omega)) (fun i => by rw [hY2.2])
        refine v_Pbi (yC_firstWrong ho2 hsh2) ?_
        rintro r s3 ⟨rfl, o, o1, rfl⟩
        have e82 : s3.1 8 2 = u.1 8 2 := hY2.1 _ _ (by decide)
        have hfw : FW (wr N E (fun i => vdY u (s3.1 8 4) i (u.1 8 2).toInt)) ((N + 1) / 2) o := by
          rw [e82] at o1
          have ew : wr N E (fun i => vdC s3 i (u.1 8 2).toInt) = wr N E (fun i => vdY u (s3.1 8 4) i (u.1 8 2).toInt) := funext fun k => wr_eq (fun i _ => vdC_Y hY2 i _) k
          rw [ew] at o1
          exact o1
        rw [hvo] at hsd
        cases o with
        | none =>
          rw [if_neg (show ¬ 0 ≤ (fw_R (-1) none).toInt by decide)]
          refine yC_flL ho hs hk6 hsh hp6 hk n _ _ (v + 1) _ (by omega) (by omega) hY2 ?_
          rw [hn1, hvo]
          exact Bs_yes hB ⟨_, hsd, hfw⟩ (by omega) p1
        | some j =>
          have hj := hfw.1
          have hN := hsh.2.1
          have e : (fw_R (-1) (some j)).toInt = j := v_oi (n := j) (by omega)
          rw [if_pos (show 0 ≤ (fw_R (-1) (some j)).toInt by omega)]
          refine yC_flL ho hs hk6 hsh hp6 hk n f l (v + 1) _ (by omega) (by omega) hY2 ?_
          rw [hn1]
          refine Bs_no hB (Or.inl ?_) (by omega)
          rintro ⟨y, y1, y2⟩
          rw [sd_uq (by have := ho.1.2; unfold nC; omega) y1 hsd] at y2
          have h5 := y2 j hfw.1
          rw [hfw.2.1] at h5
          cases h5
/-- how many bits, as the reference counts them -/
def bo : Nat → Int32 → Int32 → Int32
  | 0, _, _ => 0
  | n + 1, v, w => if w.toInt = 0 then v else bo n (v + 1) (w &&& (w - (1 : Int32)))
theorem yM_boL : ∀ (n : Nat) (v w : Int32) (s : vS), v_P (f_Md_bitsOf_L4 (fun w1 s2 => some (w1, s2)) n v w s) (fun r u => u = s ∧ r = bo n v w)
  | 0, _, _, _ => v_Pnone
  | n + 1, v, w, s => by
    show v_P (f_Md_bitsOf_L4b (fun w1 s2 => some (w1, s2)) (f_Md_bitsOf_L4 (fun w1 s2 => some (w1, s2)) n) v w s) _
    unfold f_Md_bitsOf_L4b bo
    by_cases c : w.toInt = 0
    · rw [if_pos c, if_pos c]
      exact v_Pret ⟨rfl, rfl⟩
    · rw [if_neg c, if_neg c]
      exact yM_boL n _ _ s
set_option maxRecDepth 100000 in
theorem bo_0 : (List.range 1024).all (fun x => decide (bo 4096 0 (Int32.ofNat x) = pcV (Int32.ofNat x))) = true := by decide +kernel
theorem yM_bitsOf {v : Int32} {x : Nat} (hv : v.toInt = x) (hx : x < 1024) (s : vS) : v_P (f_Md_bitsOf v s) (fun r u => u = s ∧ r.toInt = pcN x) := by
  unfold f_Md_bitsOf
  refine v_Pm2 (yM_boL 4096 0 v s) (fun r u h => ⟨h.1, ?_⟩)
  rw [h.2, v_ofn hv, of_decide_eq_true (List.all_eq_true.mp bo_0 x (List.mem_range.mpr hx))]
  exact (pcN_in hx).1
/-- the reference, but for who stands -/
def j_Z (w s : vS) : Prop := (∀ a j, ¬ (a = 170 ∨ (a = 151 ∧ 30 ≤ j ∧ j ≤ 31)) → s.1 a j = w.1 a j) ∧ s.2 = w.2
def vdZ (w : vS) (A : Nat → Bool) (i : Nat) (r : Int) : Int32 := match hol A (pM w i) (ahM w r) (nM w) with
  | none => -2
  | some k => w.1 161 k
theorem vdM_Z {w s : vS} (h : j_Z w s) (i : Nat) (r : Int) : vdM s i r = vdZ w (aM s) i r := by
  have hn : nM s = nM w := by unfold nM; rw [h.1 151 14 (by omega)]
  have e : ∀ a, ¬ (a = 170 ∨ a = 151) → s.1 a = w.1 a := fun a ha => funext fun j => h.1 a j (fun z => ha (by omega))
  unfold vdM vdZ hoR
  rw [hn]
  have e2 : hol (aM s) (pM s i) (ahM s r) (nM w) = hol (aM s) (pM w i) (ahM w r) (nM w) := hol_eq (nM w) (fun k hk => ⟨rfl, by unfold pM; rw [e 171 (by decide)]⟩) (fun a b ha hb => by unfold ahM; rw [e 160 (by decide), e 161 (by decide), e 172 (by decide)])
  rw [e2]
  cases hol (aM s) (pM w i) (ahM w r) (nM w) with
  | none => rfl
  | some k => exact h.1 _ _ (by omega)
/-- the set x makes the row so, as the reference sees it -/
def ok_G (w : vS) (N : Nat) (E : Nat → Int32) (x : Nat) : Prop := ∃ s, j_Z w s ∧ st_F (nM w) (fun m => xThM w m ∧ bt (Int32.ofNat x) m = false) (dM w) (stM w) (fun m => ¬ (s.1 170 m).toInt = 0) ∧ FW (wr N E (fun i => vdZ w (aM s) i (w.1 151 18).toInt)) ((N + 1) / 2) none
theorem st_hol {w : vS} (hm : nM w ≤ 10) {th : Nat → Prop} {s s2 : vS} (h : st_F (nM w) th (dM w) (stM w) (fun m => ¬ (s.1 170 m).toInt = 0)) (h2 : st_F (nM w) th (dM w) (stM w) (fun m => ¬ (s2.1 170 m).toInt = 0)) (i : Nat) (r : Int) : vdZ w (aM s) i r = vdZ w (aM s2) i r := by
  have e : hol (aM s) (pM w i) (ahM w r) (nM w) = hol (aM s2) (pM w i) (ahM w r) (nM w) := hol_eq (nM w) (fun k hk => ⟨?_, rfl⟩) (fun _ _ _ _ => rfl)
  · unfold vdZ
    rw [e]
  · have h3 := st_uniq h h2 (((dM w k).toInt * 1000 + 2147483648000 + k).toNat + 1) k hk (by omega) (by omega)
    unfold aM
    exact decide_eq_decide.mpr h3
def ok_N (w : vS) : Prop := (0 ≤ (w.1 151 14).toInt ∧ (w.1 151 14).toInt ≤ 10) ∧ ∀ k, k < nM w → (0 ≤ (w.1 160 k).toInt ∧ (w.1 160 k).toInt ≤ 99) ∧ 0 ≤ (w.1 172 k).toInt
theorem yM_flL39 {w : vS} (ho : ok_N w) {b : Int32} {N : Nat} {E : Nat → Int32} (hsh : sh_M w b N E) (hn : (w.1 151 14).toInt = nM w) {p2 : Int32} {many : Nat} (hp2 : p2.toInt = many) {M : Nat} (hM : ((1 : Int32) <<< ((w.1 151 14) &&& 31)).toInt = M) (hM2 : M ≤ 1024) {kk : vS → Option (Int32 × vS)} {Q : Int32 → vS → Prop} (hk : ∀ s, j_Z w s → (∀ x, x < M → pcN x = many → ¬ ok_G w N E x) → v_P (kk s) Q) (hret : ∀ s x, x < M → pcN x = many → ok_G w N E x → (∀ z, z < x → pcN z = many → ¬ ok_G w N E z) → Q (Int32.ofNat x) s) : ∀ (n : Nat) (v : Int32) (s : vS), 0 ≤ v.toInt → v.toInt ≤ M → j_Z w s → (∀ x, x < v.toInt.toNat → pcN x = many → ¬ ok_G w N E x) → v_P (f_Md_falseOnes_L39 b p2 kk n v s) Q
  | 0, _, _, _, _, _, _ => v_Pnone
  | n + 1, v, s, h0, h1, hZ, hB => by
    show v_P (f_Md_falseOnes_L39b b p2 kk (f_Md_falseOnes_L39 b p2 kk n) v s) Q
    unfold f_Md_falseOnes_L39b
    have e14 : s.1 151 14 = w.1 151 14 := hZ.1 _ _ (by omega)
    rw [e14, hM]
    by_cases c : (M : Int) ≤ v.toInt
    · rw [if_pos c]
      exact hk s hZ (fun x hx => hB x (by omega))
    · rw [if_neg c]
      obtain ⟨q, hq⟩ : ∃ q : Nat, v.toInt = q := ⟨v.toInt.toNat, by omega⟩
      have e1 := v_inc (x := v) (by omega)
      have hvo := v_ofn hq
      have hn0 : v.toInt.toNat = q := by omega
      rw [hn0] at hB
      refine v_Pbi (yM_bitsOf hq (by omega) s) ?_
      rintro r s1 ⟨rfl, hr⟩
      by_cases cm : r.toInt = p2.toInt
      · rw [if_pos cm]
        have hmm : pcN q = many := by omega
        have hDm : dM s1 = dM w := funext fun k => hZ.1 _ _ (by omega)
        have hSm : stM s1 = stM w := funext fun k => hZ.1 _ _ (by omega)
        refine v_Pbi (y_findStands3 v s1 (by rw [e14]; exact ho.1) (fun k hk2 => ?_)) ?_
        · rw [e14] at hk2
          rw [hDm]
          exact (ho.2 k hk2).1
        · rintro _ s2 ⟨⟨wE, w2, wF⟩, w31⟩
          have hZ2 : j_Z w s2 := ⟨fun a j z => (wE a j (fun y => z (by omega))).trans (hZ.1 a j z), w2.trans hZ.2⟩
          have hwF : st_F (nM w) (fun m => xThM w m ∧ bt (Int32.ofNat q) m = false) (dM w) (stM w) (fun m => ¬ (s2.1 170 m).toInt = 0) := by
            rw [e14, hDm, hSm, hvo] at wF
            have hx : ∀ m : Int, xThM s1 m = xThM w m := fun m => by
              show x_th (s1.1 151 14).toInt (s1.1 151 19).toInt (dM s1) m = x_th (w.1 151 14).toInt (w.1 151 19).toInt (dM w) m
              rw [e14, hZ.1 151 19 (by omega), hDm]
            intro m hm2
            have h5 := wF m hm2
            dsimp only at h5
            rw [hx] at h5
            exact h5
          have ho2 : ok_M s2 := by
            have f14 : s2.1 151 14 = w.1 151 14 := hZ2.1 _ _ (by omega)
            refine ⟨by rw [f14]; exact ho.1, w31, fun k hk2 => ?_⟩
            unfold nM at hk2
            rw [f14] at hk2
            rw [hZ2.1 160 k (by omega), hZ2.1 172 k (by omega)]
            exact ho.2 k hk2
          refine v_Pbi (yM_wrongIn ho2 (sh_MF hsh (funext fun j => hZ2.1 182 j (by omega)) hZ2.2)) ?_
          rintro r2 s3 ⟨rfl, o, o1, rfl⟩
          have hfw : FW (wr N E (fun i => vdZ w (aM s3) i (w.1 151 18).toInt)) ((N + 1) / 2) o := by
            have e18 : s3.1 151 18 = w.1 151 18 := hZ2.1 _ _ (by omega)
            rw [e18] at o1
            have ew : wr N E (fun i => vdM s3 i (w.1 151 18).toInt) = wr N E (fun i => vdZ w (aM s3) i (w.1 151 18).toInt) := funext fun k => wr_eq (fun i _ => vdM_Z hZ2 i _) k
            rw [ew] at o1
            exact o1
          cases o with
          | none =>
            rw [if_pos (show (fw_R (-2) none).toInt = -2 by decide), hvo]
            exact v_Pret (hret s3 q (by omega) hmm ⟨s3, hZ2, hwF, hfw⟩ hB)
          | some j =>
            have hj := hfw.1
            have hN := hsh.2.2.1
            have e : (fw_R (-2) (some j)).toInt = j := v_oi (n := j) (by omega)
            rw [if_neg (show ¬ (fw_R (-2) (some j)).toInt = -2 by omega)]
            refine yM_flL39 ho hsh hn hp2 hM hM2 hk hret n (v + 1) s3 (by omega) (by omega) hZ2 (fun x hx hxm => ?_)
            by_cases ex : x = q
            · rw [ex]
              rintro ⟨s4, g1, g2, g3⟩
              have ew : wr N E (fun i => vdZ w (aM s4) i (w.1 151 18).toInt) = wr N E (fun i => vdZ w (aM s3) i (w.1 151 18).toInt) := funext fun k => wr_eq (fun i _ => st_hol (by have := ho.1; omega) g2 hwF i _) k
              rw [ew] at g3
              have h5 := g3 j hfw.1
              rw [hfw.2.1] at h5
              cases h5
            · exact hB x (by omega) hxm
      · rw [if_neg cm]
        refine yM_flL39 ho hsh hn hp2 hM hM2 hk hret n (v + 1) s1 (by omega) (by omega) hZ (fun x hx hxm => ?_)
        by_cases ex : x = q
        · rw [ex] at hxm
          omega
        · exact hB x (by omega) hxm
/-- the best of all the sets -/
def bst (ok : Nat → Prop) (M : Nat) (r : Int32) : Prop := (r = -2 ∧ ∀ x, x < M → ¬ ok x) ∨ ∃ x0, x0 < M ∧ r = Int32.ofNat x0 ∧ ok x0 ∧ ∀ x, x < M → ok x → pcN x0 < pcN x ∨ (pcN x0 = pcN x ∧ x0 ≤ x)
theorem bst_eq {ok ok2 : Nat → Prop} {M : Nat} (ho : ∀ x, x < M → (ok x ↔ ok2 x)) {r r2 : Int32} (h : bst ok M r) (h2 : bst ok2 M r2) : r = r2 := by
  rcases h with ⟨h1, h3⟩ | ⟨x0, a1, a2, a3, a4⟩
  · rcases h2 with ⟨h4, _⟩ | ⟨x1, b1, _, b3, _⟩
    · rw [h1, h4]
    · exact absurd ((ho x1 b1).mpr b3) (h3 x1 b1)
  · rcases h2 with ⟨_, h5⟩ | ⟨x1, b1, b2, b3, b4⟩
    · exact absurd ((ho x0 a1).mp a3) (h5 x0 a1)
    · have c1 := a4 x1 b1 ((ho x1 b1).mpr b3)
      have c2 := b4 x0 a1 ((ho x0 a1).mp a3)
      rw [a2, b2, show x0 = x1 by omega]
theorem yM_flL29 {w : vS} (ho : ok_N w) {b : Int32} {N : Nat} {E : Nat → Int32} (hsh : sh_M w b N E) (hn : (w.1 151 14).toInt = nM w) {M : Nat} (hM : ((1 : Int32) <<< ((w.1 151 14) &&& 31)).toInt = M) (hM2 : M ≤ 1024) (hpc : ∀ x, x < M → pcN x ≤ nM w) : ∀ (n : Nat) (v : Int32) (s : vS), 0 ≤ v.toInt → v.toInt ≤ nM w + 1 → j_Z w s → (∀ x, x < M → pcN x < v.toInt.toNat → ¬ ok_G w N E x) → v_P (f_Md_falseOnes_L29 b (fun s6 => some ((-2), s6)) n v s) (fun r _ => bst (ok_G w N E) M r)
  | 0, _, _, _, _, _, _ => v_Pnone
  | n + 1, v, s, h0, h1, hZ, hB => by
    show v_P (f_Md_falseOnes_L29b b (fun s6 => some ((-2), s6)) (f_Md_falseOnes_L29 b (fun s6 => some ((-2), s6)) n) v s) _
    unfold f_Md_falseOnes_L29b
    have e14 : s.1 151 14 = w.1 151 14 := hZ.1 _ _ (by omega)
    rw [e14, hn]
    by_cases c : (nM w : Int) < v.toInt
    · rw [if_pos c]
      exact v_Pret (Or.inl ⟨rfl, fun x hx => hB x hx (by have := hpc x hx; omega)⟩)
    · rw [if_neg c]
      have hm10 := ho.1.2
      have e1 := v_inc (x := v) (by omega)
      obtain ⟨q, hq⟩ : ∃ q : Nat, v.toInt = q := ⟨v.toInt.toNat, by omega⟩
      have hn0 : v.toInt.toNat = q := by omega
      rw [hn0] at hB
      refine yM_flL39 ho hsh hn hq hM hM2 (fun s2 hZ2 hB2 => ?_) (fun s2 x hx hxm hok hlt => ?_) 4096 0 s (by decide) (by show (0 : Int) ≤ _; omega) hZ (fun x hx => absurd hx (Nat.not_lt_zero x))
      · refine yM_flL29 ho hsh hn hM hM2 hpc n (v + 1) s2 (by omega) (by omega) hZ2 (fun x hx hxp => ?_)
        by_cases e : pcN x = q
        · exact hB2 x hx e
        · exact hB x hx (by omega)
      · refine Or.inr ⟨x, hx, rfl, hok, fun z hz hzo => ?_⟩
        by_cases g : pcN z < q
        · exact absurd hzo (hB z hz g)
        · by_cases g2 : pcN z = q
          · by_cases g3 : z < x
            · exact absurd hzo (hlt z g3 g2)
            · exact Or.inr ⟨by omega, by omega⟩
          · exact Or.inl (by omega)
theorem yC_alL {s : vS} {a N : Nat} {E : Nat → Int32} (hsh : sh_C s a N E) : ∀ (n : Nat) (v : Int32), 0 ≤ v.toInt → v.toInt ≤ 31 → (∀ j, j < v.toInt.toNat → tw N E j = true) → v_P (f_Sh_isAllTwos_L2 a (fun s1 => some (1, s1)) n v s) (fun r u => u = s ∧ ((r = 1 ∧ ∀ j, j < (N + 1) / 2 → tw N E j = true) ∨ (r = 0 ∧ ∃ j, j < (N + 1) / 2 ∧ tw N E j = false)))
  | 0, _, _, _, _ => v_Pnone
  | n + 1, v, h0, h1, hj => by
    show v_P (f_Sh_isAllTwos_L2b a (fun s1 => some (1, s1)) (f_Sh_isAllTwos_L2 a (fun s1 => some (1, s1)) n) v s) _
    unfold f_Sh_isAllTwos_L2b
    have hN := hsh.2.1
    obtain ⟨x, x1, x2⟩ := y_twos hsh
    rw [x1, v_bi_some]
    by_cases c : x.toInt ≤ v.toInt
    · rw [if_pos c]
      exact v_Pret ⟨rfl, Or.inl ⟨rfl, fun j hj2 => hj j (by omega)⟩⟩
    · rw [if_neg c]
      obtain ⟨k, hk⟩ : ∃ k : Nat, v.toInt = k := ⟨v.toInt.toNat, by omega⟩
      have e1 := v_inc (x := v) (by omega)
      have hn0 : v.toInt.toNat = k := by omega
      rw [hn0] at hj
      rw [y_isTwo hsh hk (by omega), v_bi_some, b01]
      by_cases ht : tw N E k = true
      · rw [if_pos ht]
        refine yC_alL hsh n (v + 1) (by omega) (by omega) (fun j hj2 => ?_)
        by_cases e : j = k
        · rw [e]; exact ht
        · exact hj j (by omega)
      · rw [if_neg ht]
        exact v_Pret ⟨rfl, Or.inr ⟨rfl, k, by omega, b_ff ht⟩⟩
theorem yC_allTwos {s : vS} {a N : Nat} {E : Nat → Int32} (hsh : sh_C s a N E) : v_P (f_Sh_isAllTwos a s) (fun r u => u = s ∧ ((r = 1 ∧ ∀ j, j < (N + 1) / 2 → tw N E j = true) ∨ (r = 0 ∧ ∃ j, j < (N + 1) / 2 ∧ tw N E j = false))) := by
  unfold f_Sh_isAllTwos
  exact yC_alL hsh 4096 0 (by decide) (by decide) (fun j hj => absurd hj (Nat.not_lt_zero j))
theorem st_okI {s t u : vS} (h : j_R s t) (hu : hd_C s u) : st_ok u := by
  have em : s.1 8 1 = t.1 151 14 := h.1
  have e8 : u.1 8 1 = s.1 8 1 := (hu.1.1.1 8 1 (by unfold hx_S hx_R; omega)).1
  have hn : (s.1 8 1).toInt.toNat = nC u := by unfold nC; rw [e8]
  have hm := hu.2.1
  have hS := hu.1.2.2.2
  rw [hn] at hS
  refine ⟨hS, fun k hk => ?_⟩
  have h3 : stK u k = stK s k := (hu.1.1.1 _ _ (by unfold nC at hk; unfold hx_S hx_R; have := hm.2; omega)).1
  rw [h3]
  unfold nC at hk
  rw [e8] at hk
  have hm2 := hm.2
  rw [e8] at hm2
  exact (h.2.2.2.2.2.2.2.2.2.1 k (by omega) (by omega)).2.2.2.2.1 rfl
/-- what both see, but for who stands -/
def j_W (u w : vS) : Prop := (nM w = nC u ∧ nC u ≤ 10) ∧ (∀ k i, k < nC u → i < 125 → pC u i k = pM w i k) ∧ (∀ k, k < nC u → (w.1 172 k).toInt.toNat = cnt (lb u (27 + 5 * k)) 125) ∧ (∀ k, k < nC u → dC u k = dM w k ∧ u.1 (23 + 5 * k) 2 = w.1 161 k ∧ stK u k = stM w k) ∧ ∀ m : Nat, m < nC u → (xTh u m ↔ xThM w m)
theorem jv_core {s t u w : vS} (h : j_R s t) (hR : v_RI t) {AC : Nat → List gL} (hAC : j_AC s t AC) (hC : hd_C s u) (wE : ∀ a j, ¬ (a = 158 ∨ a = 159 ∨ a = 171 ∨ a = 172) → w.1 a j = t.1 a j) (wV : ∀ q : Nat, (q : Int) < (t.1 151 14).toInt → hvM w q (spM t q (AC q))) : j_W u w := by
  have hm := hR.1.1
  have em : s.1 8 1 = t.1 151 14 := h.1
  obtain ⟨⟨⟨hF, hsp, hcur⟩, hst, hlt⟩, hok⟩ := hC
  have hx : ∀ a j, (a = 8 ∧ j ≤ 3) ∨ (23 ≤ a ∧ a ≤ 72 ∧ a % 5 = 3 ∧ j ≤ 5) → u.1 a j = s.1 a j := fun a j q => (hF a j (fun z => by unfold hx_S hx_R at z; omega)).1
  have e8 : u.1 8 1 = t.1 151 14 := (hx _ _ (by omega)).trans em
  have e14 : w.1 151 14 = t.1 151 14 := wE _ _ (by decide)
  have hn : nC u = (t.1 151 14).toInt.toNat := by unfold nC; rw [e8]
  have hnM : nM w = (t.1 151 14).toInt.toNat := by unfold nM; rw [e14]
  have hspk : ∀ k, k < nC u → ∀ i, i < 128 → lb u (27 + 5 * k) i = (decide (i < 125) && spM t k (AC k) i) := fun k hk => jv_sp h hm.2 hAC hF hcur (by rw [hn] at hk; omega)
  have hd : ∀ k, k < nC u → dC u k = dM w k ∧ u.1 (23 + 5 * k) 2 = w.1 161 k ∧ stK u k = stM w k := fun k hk => by
    rw [hn] at hk
    have h3 := h.2.2.2.1 k (by rw [em]; omega) (by omega)
    exact ⟨(hx _ _ (by omega)).trans (h3.1.trans (wE 160 k (by decide)).symm), (hx _ _ (by omega)).trans (h3.2.1.trans (wE 161 k (by decide)).symm), (hx _ _ (by omega)).trans (h3.2.2.trans (wE 162 k (by decide)).symm)⟩
  refine ⟨⟨by rw [hnM, hn], by rw [hn]; omega⟩, fun k i hk hi => ?_, fun k hk => ?_, hd, fun m hm2 => ?_⟩
  · have h6 := hspk k hk i (by omega)
    rw [hn] at hk
    have h7 := (wV k (by omega)).1 i hi
    unfold pC pM
    rw [h6, h7, decide_eq_true hi, Bool.true_and]
    cases spM t k (AC k) i <;> rfl
  · have h6 := hspk k hk
    rw [hn] at hk
    rw [(wV k (by omega)).2, v_oi (by have := cnt_le (p := spM t k (AC k)) 125; omega)]
    show cnt (spM t k (AC k)) 125 = _
    exact cnt_eq 125 (fun i hi => by rw [h6 i (by omega), decide_eq_true hi, Bool.true_and])
  · have hdd := (hd m hm2).1
    show x_th (u.1 8 1).toInt (u.1 8 3).toInt (dC u) m ↔ x_th (w.1 151 14).toInt (w.1 151 19).toInt (dM w) m
    unfold x_th
    rw [e8, e14, wE 151 19 (by decide), (hx 8 3 (by omega)).trans h.2.2.2.2.1.2, show ((m : Int)).toNat = m by omega, hdd]
theorem vd_YZ {u w : vS} (h : j_W u w) {y : Int32} {A : Nat → Bool} (hA : ∀ k, k < nC u → bt y k = A k) {i : Nat} (hi : i < 125) (r : Int) : vdY u y i r = vdZ w A i r := by
  obtain ⟨⟨h1, h2⟩, h3, h4, h5, h6⟩ := h
  have e : hol (fun k => bt y k) (pC u i) (ahC u r) (nC u) = hol A (pM w i) (ahM w r) (nC u) := hol_eq (nC u) (fun k hk => ⟨hA k hk, h3 k i hk hi⟩) (fun a b ha hb => by
    unfold ahC ahM
    have ea : u.1 (23 + 5 * a) 1 = w.1 160 a := (h5 a ha).1
    have eb : u.1 (23 + 5 * b) 1 = w.1 160 b := (h5 b hb).1
    rw [ea, eb, (h5 a ha).2.1, (h5 b hb).2.1, h4 a ha, h4 b hb])
  unfold vdY hoY vdZ
  rw [h1, e]
  cases hh : hol A (pM w i) (ahM w r) (nC u) with
  | none => rfl
  | some k => exact (h5 k (hol_lt _ _ hh)).2.1
theorem st_F_A {n : Nat} {th : Nat → Prop} {D S : Nat → Int32} {A B : Nat → Prop} (hAB : ∀ m, m < n → (A m ↔ B m)) (h : st_F n th D S A) : st_F n th D S B := fun m hm => by
  rw [← hAB m hm, h m hm]
  refine and_congr_right (fun _ => not_congr ⟨?_, ?_⟩)
  · rintro ⟨j, j1, j2, j3, j4⟩
    exact ⟨j, j1, j2, (hAB j j1).mp j3, j4⟩
  · rintro ⟨j, j1, j2, j3, j4⟩
    exact ⟨j, j1, j2, (hAB j j1).mpr j3, j4⟩
theorem bb_bt {q : Nat → Bool} : ∀ n, n ≤ 32 → ∀ m, m < 32 → bt (bb q n) m = (decide (m < n) && q m)
  | 0, _, m, _ => by
    show bt 0 m = _
    rw [b_0]
    rfl
  | n + 1, hn, m, hm => by
    have ih := bb_bt (q := q) n (by omega) m hm
    unfold bb
    by_cases c : q n = true
    · rw [if_pos c, b_set (by omega) hm, ih]
      by_cases e : m = n
      · rw [e, decide_eq_true (rfl : n = n), Bool.or_true, decide_eq_true (show n < n + 1 by omega), c]
        rfl
      · rw [decide_eq_false e, Bool.or_false, show decide (m < n) = decide (m < n + 1) from decide_eq_decide.mpr (by omega)]
    · rw [if_neg c, ih]
      by_cases e : m = n
      · rw [e, b_ff c, Bool.and_false, Bool.and_false]
      · rw [show decide (m < n) = decide (m < n + 1) from decide_eq_decide.mpr (by omega)]
theorem ok_FG {u w : vS} (h : j_W u w) (hr : u.1 8 2 = w.1 151 18) (N : Nat) (E : Nat → Int32) (x : Nat) : ok_F u N E x ↔ ok_G w N E x := by
  have h0 := h
  obtain ⟨⟨h1, h2⟩, h3, h4, h5, h6⟩ := h
  have hth : ∀ m, m < nC u → (st_T u (Int32.ofNat x) m ↔ (xThM w m ∧ bt (Int32.ofNat x) m = false)) := fun m hm => by
    unfold st_T
    rw [h6 m hm]
  constructor
  · rintro ⟨y, ⟨y1, y2⟩, y3⟩
    have hA : ∀ k, aM ((fun a j => if a = 170 then (if bt y j = true then 1 else 0) else w.1 a j, w.2) : vS) k = bt y k := fun k => by
      unfold aM
      show decide (¬ (if bt y k = true then (1 : Int32) else 0).toInt = 0) = bt y k
      cases bt y k <;> rfl
    refine ⟨(fun a j => if a = 170 then (if bt y j = true then 1 else 0) else w.1 a j, w.2), ⟨fun a j q => if_neg (fun z => q (Or.inl z)), rfl⟩, ?_, ?_⟩
    · rw [h1]
      refine st_F_A (A := fun m => bt y m = true) (fun m hm => ?_) (st_F_eq y1 hth (fun k hk => ⟨(h5 k hk).1, (h5 k hk).2.2⟩))
      show bt y m = true ↔ ¬ (if bt y m = true then (1 : Int32) else 0).toInt = 0
      cases bt y m with
      | true => exact ⟨fun _ => by decide, fun _ => rfl⟩
      | false => exact ⟨fun z => (by cases z), fun z => absurd rfl z⟩
    · have ew : wr N E (fun i => vdY u y i (u.1 8 2).toInt) = wr N E (fun i => vdZ w (aM ((fun a j => if a = 170 then (if bt y j = true then 1 else 0) else w.1 a j, w.2) : vS)) i (w.1 151 18).toInt) := funext fun k => wr_eq (fun i hi => by rw [← hr]; exact vd_YZ h0 (fun k _ => (hA k).symm) hi _) k
      rw [← ew]
      exact y3
  · rintro ⟨s, s1, s2, s3⟩
    have hb : ∀ m, m < 32 → bt (bb (aM s) (nC u)) m = (decide (m < nC u) && aM s m) := fun m hm => bb_bt (nC u) (by omega) m hm
    have hb2 : ∀ k, k < nC u → bt (bb (aM s) (nC u)) k = aM s k := fun k hk => by rw [hb k (by omega), decide_eq_true hk, Bool.true_and]
    rw [h1] at s2
    refine ⟨bb (aM s) (nC u), ⟨?_, fun m hm hz => ?_⟩, ?_⟩
    · refine st_F_A (A := fun m => ¬ (s.1 170 m).toInt = 0) (fun m hm => ?_) (st_F_eq s2 (fun m hm => (hth m hm).symm) (fun k hk => ⟨(h5 k hk).1.symm, (h5 k hk).2.2.symm⟩))
      rw [hb2 m hm]
      unfold aM
      rw [decide_eq_true_iff]
    · rw [hb m hm] at hz
      exact of_decide_eq_true (Bool.and_eq_true_iff.mp hz).1
    · have ew : wr N E (fun i => vdY u (bb (aM s) (nC u)) i (u.1 8 2).toInt) = wr N E (fun i => vdZ w (aM s) i (w.1 151 18).toInt) := funext fun k => wr_eq (fun i hi => by rw [← hr]; exact vd_YZ h0 hb2 hi _) k
      rw [ew]
      exact s3
set_option maxRecDepth 100000 in
theorem p2_0 : (List.range 11).all (fun n => decide (((1 : Int32) <<< (Int32.ofNat n &&& 31)).toInt = ((2 ^ n : Nat) : Int)) && (decide ((((1 : Int32) <<< (Int32.ofNat n &&& 31)) - (1 : Int32)).toInt + 1 = ((2 ^ n : Nat) : Int)) && ((List.range (2 ^ n)).all (fun x => decide (pcN x ≤ n))))) = true := by decide +kernel
theorem jr_falseOnes {s t : vS} (h : j_R s t) (hR : v_RI t) (hK : v_KQ s) (h2 : j_2 s) (hS : j_Sh s t) (b : Int32) : j_An s t (f_Ol_falseOnes b s) (f_Md_falseOnes b t) := by
  obtain ⟨AC, hAC⟩ := j_ACex h hR.1.1.2
  have hm := hR.1.1
  have em : s.1 8 1 = t.1 151 14 := h.1
  unfold f_Ol_falseOnes f_Md_falseOnes
  by_cases h0 : (td_R t b).toInt = 0
  · obtain ⟨N, E, hC, hM⟩ := sh_ex hS hR h0
    have hb := hM.1
    have hN := hC.2.1
    have hp := List.all_eq_true.mp p2_0 (t.1 151 14).toInt.toNat (List.mem_range.mpr (by omega))
    obtain ⟨hp1, hp2⟩ := Bool.and_eq_true_iff.mp hp
    obtain ⟨hp3, hp2⟩ := Bool.and_eq_true_iff.mp hp2
    have hp1 := of_decide_eq_true hp1
    have hp3 := of_decide_eq_true hp3
    have hlw : t.1 151 14 = Int32.ofNat (t.1 151 14).toInt.toNat := v_of hm.1
    rw [← hlw] at hp1 hp3
    have hM2 : 2 ^ (t.1 151 14).toInt.toNat ≤ 1024 := Nat.pow_le_pow_right (n := 2) (by decide) (show (t.1 151 14).toInt.toNat ≤ 10 by omega)
    have hpc : ∀ x, x < 2 ^ (t.1 151 14).toInt.toNat → pcN x ≤ (t.1 151 14).toInt.toNat := fun x hx => of_decide_eq_true (List.all_eq_true.mp hp2 x (List.mem_range.mpr hx))
    generalize 2 ^ (t.1 151 14).toInt.toNat = M at hp1 hp3 hM2 hpc
    refine j_AnI (P := fun r _ => (r = -2 ∧ ∃ j, j < (N + 1) / 2 ∧ tw N E j = false) ∨ ∃ u, hd_C s u ∧ bst (ok_F u N E) M r) (Q := fun r _ => ∃ w, e_E4 t w ∧ (∀ q : Nat, (q : Int) < (t.1 151 14).toInt → hvM w q (spM t q (AC q))) ∧ bst (ok_G w N E) M r) ?_ ?_ ?_
    · refine v_Pbi (yC_told hS b) ?_
      rintro r s ⟨rfl, rfl⟩
      rw [if_pos h0, z_shelfAt b s hb, v_bi_some, v_nc]
      refine v_Pif (fun _ => ?_) (fun _ => v_Pnone)
      refine v_Pbi (yC_allTwos hC) ?_
      rintro r s ⟨rfl, ⟨rfl, hal⟩ | ⟨rfl, hal⟩⟩
      · rw [if_neg (by decide)]
        refine v_Pbi (jd_C h hR hK h2 hAC) ?_
        rintro _ u hu
        have e8 : u.1 8 1 = t.1 151 14 := ((hu.1.1.1 8 1 (by unfold hx_S hx_R; omega)).1).trans em
        have hnum : f_Ct_numbers u = some (((1 : Int32) <<< ((t.1 151 14) &&& 31)) - (1 : Int32), u) := by
          unfold f_Ct_numbers
          rw [e8]
        rw [hnum, v_bi_some]
        refine yC_flL hu.2 (st_okI h hu) (k := b.toInt.toNat) (by omega) (sh_hd hu (by omega) hC) (by omega) (fun f l s3 hB => ?_) 4096 11 (-2) 0 u (by decide) (by show (0 : Int) ≤ _; omega) ⟨fun _ _ _ => rfl, rfl⟩ (Or.inl ⟨rfl, rfl, fun x hx => absurd hx (Nat.not_lt_zero x)⟩)
        refine v_Pret (Or.inr ⟨u, hu, ?_⟩)
        rw [show ((((1 : Int32) <<< ((t.1 151 14) &&& 31)) - (1 : Int32)).toInt + 1).toNat = M by omega] at hB
        rcases hB with ⟨_, b2, b3⟩ | ⟨x0, b1, b2, _, b4, b5⟩
        · exact Or.inl ⟨b2, b3⟩
        · exact Or.inr ⟨x0, b1, b2, b4, b5⟩
      · rw [if_pos (by decide)]
        exact v_Pret (Or.inl ⟨rfl, hal⟩)
    · refine yM_told b (g := fun s3 => v_bi (f_Md_findSpeaks s3) (fun _ s5 => (f_Md_falseOnes_L29 b (fun s6 => (some ((-2), s6))) 4096 0 s5))) (fun _ => ?_) (fun z => absurd h0 z)
      refine v_Pbi (y_findSpeaks t hm (fun q hq => ⟨(hAC q hq).1, (hAC q hq).2.2.2.2⟩)) ?_
      rintro _ w ⟨⟨wE, w2⟩, wV⟩
      have f14 : w.1 151 14 = t.1 151 14 := wE _ _ (by decide)
      have hnM : nM w = (t.1 151 14).toInt.toNat := by unfold nM; rw [f14]
      have hok : ok_N w := by
        refine ⟨by rw [f14]; exact hm, fun k hk => ?_⟩
        rw [hnM] at hk
        have h3 := h.2.2.2.1 k (by rw [em]; omega) (by omega)
        have h4 := (h.2.2.2.2.2.2.2.2.2.1 k (by rw [em]; omega) (by omega)).1.1 rfl
        rw [h3.1] at h4
        refine ⟨by rw [wE 160 k (by decide)]; exact h4, ?_⟩
        rw [(wV k (by omega)).2, v_oi (by have := cnt_le (p := spM t k (AC k)) 125; omega)]
        omega
      refine v_Pm2 (yM_flL29 hok (sh_MF hM (funext fun j => wE 182 j (by decide)) w2) (by rw [hnM, f14]; omega) (M := M) (by rw [f14]; exact hp1) hM2 (by rw [hnM]; exact hpc) 4096 0 w (by decide) (by show (0 : Int) ≤ _; omega) ⟨fun _ _ _ => rfl, rfl⟩ (fun x _ hx => absurd hx (Nat.not_lt_zero _))) (fun r _ hr => ⟨w, ⟨wE, w2⟩, wV, hr⟩)
    · rintro r1 _ r2 _ h3 ⟨w, ⟨wE, w2⟩, wV, h4⟩
      rcases h3 with ⟨rfl, j, j1, j2⟩ | ⟨u, hu, h3⟩
      · rcases h4 with ⟨h5, _⟩ | ⟨x0, _, _, ⟨s4, _, _, g3⟩, _⟩
        · rw [h5]
        · have h5 := g3 j j1
          unfold wr at h5
          rw [j2, Bool.false_and] at h5
          cases h5
      · have hW := jv_core h hR hAC hu wE wV
        have hr8 : u.1 8 2 = w.1 151 18 := by
          rw [(hu.1.1.1 8 2 (by unfold hx_S hx_R; omega)).1, wE 151 18 (by decide)]
          exact h.2.2.2.2.1.1
        exact bst_eq (fun x _ => ok_FG hW hr8 N E x) h3 h4
  · refine j_AnI (P := fun r _ => r = td_R t b) (Q := fun r _ => r = td_R t b) ?_ (yM_told b (fun z => absurd z h0) (fun _ => rfl)) (fun _ _ _ _ a1 a2 => by rw [a1, a2])
    refine v_Pbi (yC_told hS b) ?_
    rintro r s ⟨rfl, rfl⟩
    rw [if_neg h0]
    exact v_Pret rfl
