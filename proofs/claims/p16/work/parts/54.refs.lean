/-! the reference: act, trace; shelves -/
theorem m_act2 (b c d : Int32) (s : vS) (h : v_RI s) : v_T (f_Md_act b c d s) (fun _ t => (v_RI t ∧ v_F m_B s t) ∧ t.1 151 42 = s.1 151 42) := by
  have h6 := h.2.2.2.2.2.1
  unfold f_Md_act
  have hf0 : v_F m_B s (v_w1 s 151 44 0) := v_F_w1 v_F_rf (by unfold m_B; omega)
  have e44 : ((v_w1 s 151 44 0).1 151 44).toInt = 0 := by rw [v_w1_1, if_pos ⟨rfl, rfl⟩]; rfl
  have e42 : (v_w1 s 151 44 0).1 151 42 = s.1 151 42 := by rw [v_w1_1, if_neg (by omega)]
  refine v_Tlet ?_
  generalize v_w1 s 151 44 0 = s1 at hf0 e44 e42 ⊢
  have hfin : ∀ (r : Int32) (t : vS), m_ac 19 s1 t → v_T (some (r, t)) (fun (_ : Int32) t => (v_RI t ∧ v_F m_B s t) ∧ t.1 151 42 = s.1 151 42) := fun r t ht => by
    have hf1 : v_F m_B s t := v_F_tr hf0 (v_F_im ht.1 (fun a j q => by unfold m_B; omega))
    have e : t.1 151 42 = s.1 151 42 := by rw [(ht.1 151 42 (by omega)).1, e42]
    refine v_Tret ⟨⟨v_RI_B h hf1 ?_, hf1⟩, e⟩
    rw [e]
    exact h6
  have hret : v_T (some ((0 : Int32), s1)) (fun (_ : Int32) t => (v_RI t ∧ v_F m_B s t) ∧ t.1 151 42 = s.1 151 42) := hfin 0 s1 ⟨v_F_rf, by omega, by omega⟩
  refine v_TisBody (by rw [e42]; exact h6) (fun hb => ?_) (fun _ => hret)
  rw [e42] at hb
  have hbi : v_in b 50 := ⟨by omega, by omega⟩
  refine v_Tin (fun _ => ?_) (fun _ => hret)
  have hup : ∀ {c : Int} {t : vS}, m_ac c s1 t → c ≤ 19 → m_ac 19 s1 t := fun ht hc => ⟨ht.1, ht.2.1, by have := ht.2.2; omega⟩
  refine v_Tif (fun _ => ?_) (fun _ => v_Tif (fun _ => ?_) (fun _ => v_Tif (fun _ => ?_) (fun _ => ?_)))
  · exact v_Tbi (m_saying b d hbi s1 (by omega) (by omega)) (fun r t ht => hfin r t (hup ht (by decide)))
  · exact v_Tbi (m_holding b d hbi s1 (by omega) (by omega)) (fun r t ht => hfin r t (hup ht (by decide)))
  · exact v_Tbi (m_beating b d hbi s1 (by omega) (by omega)) (fun r t ht => hfin r t (hup ht (by decide)))
  · exact v_Tbi (m_telling b d hbi s1 (by omega) (by omega)) (fun r t ht => hfin r t ht)
theorem m_act (b c d : Int32) (s : vS) (h : v_RI s) : v_T (f_Md_act b c d s) (fun _ t => v_RI t ∧ v_F m_B s t) := v_Tm (m_act2 b c d s h) (fun _ _ ht => ht.1)
theorem m_trace (b : Int32) (s : vS) : v_T (f_Md_trace b s) (fun _ t => t = s) := by
  unfold f_Md_trace
  exact v_Tif (fun _ => v_Tret rfl) (fun _ => v_Tif (fun _ => v_Tret rfl) (fun _ => v_Tif (fun _ => v_Tret rfl) (fun _ => v_Tck ⟨by omega, by omega⟩ (v_Tret rfl))))
theorem v_RI_h {s : vS} (h : v_RI s) {b c : Int32} (hc : c.toInt ≤ 49) : v_RI (v_w1 s 181 b.toNatClampNeg c) ∧ v_F m_S s (v_w1 s 181 b.toNatClampNeg c) := by
  have hf : v_F m_S s (v_w1 s 181 b.toNatClampNeg c) := v_F_w1 v_F_rf (by unfold m_S; omega)
  refine ⟨v_RI_S h hf (fun j hj => ?_) (fun j hj => ?_), hf⟩
  · rw [v_w1_1, if_neg (by omega)]
    exact h.1.2.1 j hj
  · rw [v_w1_1]
    by_cases hz : (181 : Nat) = 181 ∧ j = b.toNatClampNeg
    · rw [if_pos hz]
      exact hc
    · rw [if_neg hz]
      exact h.2.2.2.2.2.2 j hj
theorem m_keep2 (b c : Int32) (s : vS) (h : v_RI s) : v_T (f_Md_keep b c s) (fun _ t => v_RI t ∧ v_F m_S s t) := by
  have h6 := h.2.2.2.2.2.1
  unfold f_Md_keep
  refine v_TisShelf (fun hb => ?_) (fun _ => v_Tret ⟨h, v_F_rf⟩)
  have hbi : v_in b 6 := ⟨hb.1, by omega⟩
  refine v_Tif (fun hc => v_Tck hbi (v_Tlet (v_Tret (v_RI_h h (by omega))))) (fun _ => ?_)
  refine v_TisBody h6 (fun hc => v_Tck hbi (v_Tlet (v_Tret (v_RI_h h (by omega))))) (fun _ => v_Tret ⟨h, v_F_rf⟩)
theorem m_60b {b c : Int32} (hb : 0 ≤ b.toInt ∧ b.toInt ≤ 5) (hc : 0 ≤ c.toInt ∧ c.toInt ≤ 60) : ((60 : Int32) * b).toInt = 60 * b.toInt ∧ ((60 : Int32) * b + c).toInt = 60 * b.toInt + c.toInt := by
  have e1 : ((60 : Int32) * b).toInt = 60 * b.toInt := i32_mul (x := 60) (show -2 ^ 31 ≤ (60 : Int) * b.toInt by omega) (show (60 : Int) * b.toInt < 2 ^ 31 by omega)
  exact ⟨e1, by rw [i32_add (by omega) (by omega), e1]⟩
theorem m_rowL54 {s0 : vS} {b : Int32} (hb : 0 ≤ b.toInt ∧ b.toInt ≤ 5) {k : vS → Option (Int32 × vS)} {Q : Int32 → vS → Prop} (hk : ∀ t, v_F m_S s0 t → t.1 = s0.1 → v_T (k t) Q) : ∀ (m n : Nat) (v : Int32) (s : vS), v.toInt + m = 60 * b.toInt + 60 → 60 * b.toInt ≤ v.toInt → v_F m_S s0 s → s.1 = s0.1 → m < n → v_T (f_Md_row_L54 b k n v s) Q := by
  have h60 := m_60b hb (c := 60) (by decide)
  have e60 : (60 : Int32).toInt = 60 := rfl
  intro m
  induction m with
  | zero =>
    intro n v s hm hv h0 h1 hn
    obtain ⟨n, rfl⟩ : ∃ q, n = q + 1 := ⟨n - 1, by omega⟩
    show v_T (f_Md_row_L54b b k (f_Md_row_L54 b k n) v s) _
    unfold f_Md_row_L54b
    rw [if_pos (by omega)]
    exact hk s h0 h1
  | succ m ih =>
    intro n v s hm hv h0 h1 hn
    obtain ⟨n, rfl⟩ : ∃ q, n = q + 1 := ⟨n - 1, by omega⟩
    show v_T (f_Md_row_L54b b k (f_Md_row_L54 b k n) v s) _
    unfold f_Md_row_L54b
    have e1 := v_inc (x := v) (by omega)
    rw [if_neg (by omega)]
    exact v_Tck ⟨by omega, by omega⟩ (v_Tlet (ih n _ _ (by omega) (by omega) (v_F_w2 h0 (by unfold m_S; omega)) h1 (by omega)))
theorem m_row (b c d : Int32) (s : vS) (h : v_RI s) : v_T (f_Md_row b c d s) (fun _ t => v_RI t ∧ v_F m_S s t) := by
  unfold f_Md_row
  refine v_TisShelf (fun hb => ?_) (fun _ => v_Tret ⟨h, v_F_rf⟩)
  have hbi : v_in b 6 := ⟨hb.1, by omega⟩
  have h60 := m_60b hb (c := 60) (by decide)
  refine v_Tin (fun hc => ?_) (fun _ => v_Tret ⟨h, v_F_rf⟩)
  have hc : 0 ≤ c.toInt ∧ c.toInt ≤ 4 := hc
  refine v_Tif (fun hd => v_Tif (fun hd0 => ?_) (fun _ => v_Tret ⟨h, v_F_rf⟩)) (fun _ => v_Tret ⟨h, v_F_rf⟩)
  have ec : (((-2) : Int32) - c).toInt = -2 - c.toInt := v_sub (x := -2) (show -2147483648 ≤ (-2 : Int) - c.toInt by omega) (show (-2 : Int) - c.toInt < 2147483648 by omega)
  rw [if_pos hbi]
  refine v_Tlet ?_
  rw [if_pos hbi]
  refine v_Tlet ?_
  have hf : v_F m_S s (v_w1 (v_w1 s 181 b.toNatClampNeg (((-2) : Int32) - c)) 182 b.toNatClampNeg d) := v_F_w1 (v_F_w1 v_F_rf (by unfold m_S; omega)) (by unfold m_S; omega)
  have hz : ∀ j, j < 6 → 0 ≤ ((v_w1 (v_w1 s 181 b.toNatClampNeg (((-2) : Int32) - c)) 182 b.toNatClampNeg d).1 182 j).toInt ∧ ((v_w1 (v_w1 s 181 b.toNatClampNeg (((-2) : Int32) - c)) 182 b.toNatClampNeg d).1 182 j).toInt ≤ 60 := fun j hj => by
    rw [v_w1_1]
    by_cases hz : (182 : Nat) = 182 ∧ j = b.toNatClampNeg
    · rw [if_pos hz]
      omega
    · rw [if_neg hz, v_w1_1, if_neg (by omega)]
      exact h.1.2.1 j hj
  have hh : ∀ j, j < 6 → ((v_w1 (v_w1 s 181 b.toNatClampNeg (((-2) : Int32) - c)) 182 b.toNatClampNeg d).1 181 j).toInt ≤ 49 := fun j hj => by
    rw [v_w1_1, if_neg (by omega), v_w1_1]
    by_cases hz : (181 : Nat) = 181 ∧ j = b.toNatClampNeg
    · rw [if_pos hz]
      omega
    · rw [if_neg hz]
      exact h.2.2.2.2.2.2 j hj
  generalize v_w1 (v_w1 s 181 b.toNatClampNeg (((-2) : Int32) - c)) 182 b.toNatClampNeg d = s1 at hf hz hh ⊢
  refine m_rowL54 (s0 := s1) hb (fun t ht h1 => v_Tret ⟨v_RI_S h (v_F_tr hf ht) (fun j hj => by rw [h1]; exact hz j hj) (fun j hj => by rw [h1]; exact hh j hj), v_F_tr hf ht⟩) 60 4096 _ s1 (by rw [h60.1]; omega) (by rw [h60.1]; omega) v_F_rf rfl (by decide)
/-- an element's place: what is answered, and where it is if it is one -/
theorem m_why (b c : Int32) (s : vS) (h : v_RQ s) : v_T (f_Md_whyNoPlace b c s) (fun r t => t = s ∧ (0 ≤ r.toInt → (0 ≤ b.toInt ∧ b.toInt ≤ 5) ∧ 0 ≤ c.toInt ∧ c.toInt ≤ 59)) := by
  unfold f_Md_whyNoPlace
  refine v_TisShelf (fun hb => ?_) (fun _ => v_Tret ⟨rfl, fun q => by have q : 0 ≤ (-1 : Int) := q; omega⟩)
  have hbi : v_in b 6 := ⟨hb.1, by omega⟩
  have hz := h.2.1 b.toNatClampNeg (by rw [v_nc]; omega)
  have e : (s.1 182 b.toNatClampNeg - 1).toInt = (s.1 182 b.toNatClampNeg).toInt - 1 := v_sub (y := 1) (show -2147483648 ≤ (s.1 182 b.toNatClampNeg).toInt - 1 by omega) (show (s.1 182 b.toNatClampNeg).toInt - 1 < 2147483648 by omega)
  refine v_Tck hbi (v_Tif (fun _ => v_Tret ⟨rfl, fun q => by have q : 0 ≤ (-11 : Int) := q; omega⟩) (fun _ => v_Tck hbi (v_Tif (fun _ => v_Tck hbi ?_) (fun _ => v_Tret ⟨rfl, fun q => by have q : 0 ≤ (-12 : Int) := q; omega⟩))))
  refine v_Tin (fun hc => v_Tret ⟨rfl, fun _ => ⟨hb, ?_⟩⟩) (fun _ => v_Tret ⟨rfl, fun q => by have q : 0 ≤ (-13 : Int) := q; omega⟩)
  have h1 : 0 ≤ c.toInt := hc.1
  have h2 := hc.2
  omega
theorem v_RI_w2 {s : vS} (h : v_RI s) {a j : Nat} {x : Int64} (ha : 181 ≤ a ∧ a ≤ 184) : v_RI (v_w2 s a j x) ∧ v_F m_S s (v_w2 s a j x) := by
  have hf : v_F m_S s (v_w2 s a j x) := v_F_w2 v_F_rf (by unfold m_S; omega)
  exact ⟨v_RI_S h hf (fun k hk => h.1.2.1 k hk) (fun k hk => h.2.2.2.2.2.2 k hk), hf⟩
theorem m_put (b c : Int32) (d : Int64) (s : vS) (h : v_RI s) : v_T (f_Md_put b c d s) (fun _ t => v_RI t ∧ v_F m_S s t) := by
  unfold f_Md_put
  refine v_Tbi (m_why b c s h.1) ?_
  rintro r _ ⟨rfl, hr⟩
  refine v_Tif (fun hp => ?_) (fun _ => v_Tret ⟨h, v_F_rf⟩)
  obtain ⟨hb, hc⟩ := hr hp
  have hbi : v_in b 6 := ⟨hb.1, by omega⟩
  have e := (m_60b hb (c := c) ⟨hc.1, by omega⟩).2
  have hi : v_in ((60 : Int32) * b + c) 360 := ⟨by omega, by omega⟩
  rw [if_pos hbi]
  repeat' first
    | with_reducible exact v_Tlet (v_Tret (v_RI_w2 h (by decide)))
    | ((with_reducible refine v_Tck ?_ ?_); (focus exact hi))
    | with_reducible refine v_Tif (fun _ => ?_) (fun _ => ?_)
theorem m_element (b c : Int32) (s : vS) (h : v_RI s) : v_T (f_Md_element b c s) (fun _ t => t = s) := by
  unfold f_Md_element
  refine v_Tbi (m_why b c s h.1) ?_
  rintro r _ ⟨rfl, hr⟩
  refine v_Tif (fun hp => ?_) (fun _ => v_Tret rfl)
  obtain ⟨hb, hc⟩ := hr hp
  have e := (m_60b hb (c := c) ⟨hc.1, by omega⟩).2
  exact v_Tck ⟨by omega, by omega⟩ (v_Tret rfl)
theorem m_60c {b c v : Int32} (hb : 0 ≤ b.toInt ∧ b.toInt ≤ 5) (hc : 0 ≤ c.toInt ∧ c.toInt ≤ 60) (hv : 0 ≤ v.toInt ∧ v.toInt ≤ 60) : ((60 : Int32) * b + c + v).toInt = 60 * b.toInt + c.toInt + v.toInt := by
  have e := (m_60b hb hc).2
  rw [i32_add (by omega) (by omega), e]
theorem m_shL113 {s0 : vS} (h : v_RI s0) {b c d e f : Int32} (hb : 0 ≤ b.toInt ∧ b.toInt ≤ 5) (hc : 0 ≤ c.toInt) (hf : c.toInt + f.toInt ≤ 60) {k : vS → Option (Int32 × vS)} {Q : Int32 → vS → Prop} (hk : ∀ t, v_RI t → v_F m_S s0 t → v_T (k t) Q) : ∀ (m n : Nat) (v : Int32) (s : vS), f.toInt ≤ v.toInt + m → 0 ≤ v.toInt → v_RI s → v_F m_S s0 s → m < n → v_T (f_Md_shift_L113 b c d e f k n v s) Q := by
  intro m
  induction m with
  | zero =>
    intro n v s hm hv hs h0 hn
    obtain ⟨n, rfl⟩ : ∃ q, n = q + 1 := ⟨n - 1, by omega⟩
    show v_T (f_Md_shift_L113b b c d e f k (f_Md_shift_L113 b c d e f k n) v s) _
    unfold f_Md_shift_L113b
    rw [if_pos (by omega)]
    exact hk s hs h0
  | succ m ih =>
    intro n v s hm hv hs h0 hn
    obtain ⟨n, rfl⟩ : ∃ q, n = q + 1 := ⟨n - 1, by omega⟩
    show v_T (f_Md_shift_L113b b c d e f k (f_Md_shift_L113 b c d e f k n) v s) _
    unfold f_Md_shift_L113b
    refine v_Tif (fun _ => hk s hs h0) (fun hcn => ?_)
    have e1 := v_inc (x := v) (by omega)
    have e2 := m_60c hb (c := c) (v := v) ⟨hc, by omega⟩ ⟨hv, by omega⟩
    have hw := v_RI_w2 hs (a := 184) (j := v.toNatClampNeg) (x := s.2 183 (Int32.toNatClampNeg ((((60 : Int32) * b) + c) + v))) (by decide)
    exact v_Tck ⟨by omega, by omega⟩ (v_Tck ⟨hv, by omega⟩ (v_Tlet (ih n _ _ (by omega) (by omega) hw.1 (v_F_tr h0 hw.2) (by omega))))
theorem m_shL150 {s0 : vS} (h : v_RI s0) {d e f : Int32} (hd : 0 ≤ d.toInt ∧ d.toInt ≤ 5) (he : 0 ≤ e.toInt) (hf : e.toInt + f.toInt ≤ 60) {k : vS → Option (Int32 × vS)} {Q : Int32 → vS → Prop} (hk : ∀ t, v_RI t → v_F m_S s0 t → v_T (k t) Q) : ∀ (m n : Nat) (v : Int32) (s : vS), f.toInt ≤ v.toInt + m → 0 ≤ v.toInt → v_RI s → v_F m_S s0 s → m < n → v_T (f_Md_shift_L150 d e f k n v s) Q := by
  intro m
  induction m with
  | zero =>
    intro n v s hm hv hs h0 hn
    obtain ⟨n, rfl⟩ : ∃ q, n = q + 1 := ⟨n - 1, by omega⟩
    show v_T (f_Md_shift_L150b d e f k (f_Md_shift_L150 d e f k n) v s) _
    unfold f_Md_shift_L150b
    rw [if_pos (by omega)]
    exact hk s hs h0
  | succ m ih =>
    intro n v s hm hv hs h0 hn
    obtain ⟨n, rfl⟩ : ∃ q, n = q + 1 := ⟨n - 1, by omega⟩
    show v_T (f_Md_shift_L150b d e f k (f_Md_shift_L150 d e f k n) v s) _
    unfold f_Md_shift_L150b
    refine v_Tif (fun _ => hk s hs h0) (fun hcn => ?_)
    have e1 := v_inc (x := v) (by omega)
    have e2 := m_60c hd (c := e) (v := v) ⟨he, by omega⟩ ⟨hv, by omega⟩
    have hw := v_RI_w2 hs (a := 183) (j := Int32.toNatClampNeg ((((60 : Int32) * d) + e) + v)) (x := s.2 184 v.toNatClampNeg) (by decide)
    exact v_Tck ⟨hv, by omega⟩ (v_Tck ⟨by omega, by omega⟩ (v_Tlet (ih n _ _ (by omega) (by omega) hw.1 (v_F_tr h0 hw.2) (by omega))))
theorem m_shift (b c d e f : Int32) (s : vS) (h : v_RI s) : v_T (f_Md_shift b c d e f s) (fun _ t => v_RI t ∧ v_F m_S s t) := by
  unfold f_Md_shift
  refine v_TisShelf (fun hb => ?_) (fun _ => v_Tret ⟨h, v_F_rf⟩)
  refine v_TisShelf (fun hd => ?_) (fun _ => v_Tret ⟨h, v_F_rf⟩)
  have hbi : v_in b 6 := ⟨hb.1, by omega⟩
  have hdi : v_in d 6 := ⟨hd.1, by omega⟩
  have hzb := h.1.2.1 b.toNatClampNeg (by rw [v_nc]; omega)
  have hzd := h.1.2.1 d.toNatClampNeg (by rw [v_nc]; omega)
  refine v_Tck hbi (v_Tif (fun _ => v_Tret ⟨h, v_F_rf⟩) (fun _ => v_Tck hdi (v_Tif (fun _ => v_Tret ⟨h, v_F_rf⟩) (fun _ => v_Tck hbi (v_Tif (fun _ => v_Tret ⟨h, v_F_rf⟩) (fun _ => v_Tck hbi (v_Tck hdi (v_Tif (fun _ => ?_) (fun _ => v_Tret ⟨h, v_F_rf⟩)))))))))
  refine v_Tif (fun _ => v_Tret ⟨h, v_F_rf⟩) (fun hf0 => v_Tif (fun _ => v_Tret ⟨h, v_F_rf⟩) (fun hc0 => v_Tif (fun _ => v_Tret ⟨h, v_F_rf⟩) (fun he0 => v_Tck hbi (v_Tif (fun _ => v_Tret ⟨h, v_F_rf⟩) (fun hcc => v_Tck hdi (v_Tif (fun hee => ?_) (fun _ => v_Tret ⟨h, v_F_rf⟩)))))))
  have e1 : (s.1 182 b.toNatClampNeg - f).toInt = (s.1 182 b.toNatClampNeg).toInt - f.toInt := v_sub (by have := Int32.toInt_lt f; omega) (by omega)
  have e2 : (s.1 182 d.toNatClampNeg - f).toInt = (s.1 182 d.toNatClampNeg).toInt - f.toInt := v_sub (by have := Int32.toInt_lt f; omega) (by omega)
  refine m_shL113 h hb (by omega) (by omega) (fun t ht hft => ?_) 60 4096 0 s (by show _ ≤ (0 : Int) + 60; omega) (by decide) h v_F_rf (by decide)
  exact m_shL150 h hd (by omega) (by omega) (fun t ht hft => v_Tret ⟨ht, hft⟩) 60 4096 0 t (by show _ ≤ (0 : Int) + 60; omega) (by decide) ht hft (by decide)
theorem m_taken (b c : Int32) (s : vS) (h : v_RI s) : v_T (f_Md_taken b c s) (fun _ t => t = s) := by
  unfold f_Md_taken
  refine v_TisShelf (fun hb => ?_) (fun _ => v_Tret rfl)
  have hbi : v_in b 6 := ⟨hb.1, by omega⟩
  have hh := h.2.2.2.2.2.2 b.toNatClampNeg (by rw [v_nc]; omega)
  refine v_Tin (fun _ => ?_) (fun _ => v_Tret rfl)
  refine v_Tck hbi (v_Tif (fun _ => v_Tret rfl) (fun _ => v_Tck hbi (v_Tif (fun _ => v_Tret rfl) (fun hn => v_Tck hbi (v_Tck ⟨by omega, by omega⟩ ?_)))))
  refine v_Tbi (m_isUnder ..) ?_
  rintro _ _ rfl
  exact v_Tif (fun _ => v_Tret rfl) (fun _ => v_Tck hbi (v_Tck ⟨by omega, by omega⟩ (v_Tret rfl)))
