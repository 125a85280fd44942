/-! the reference: its quiet calls -/
theorem v_2m {v : Int32} (h : 0 ≤ v.toInt ∧ v.toInt ≤ 100) : ((2 : Int32) * v).toInt = 2 * v.toInt := i32_mul (x := 2) (show -2 ^ 31 ≤ (2 : Int) * v.toInt by omega) (show (2 : Int) * v.toInt < 2 ^ 31 by omega)
theorem m_wrongL {s : vS} (h : v_RQ s) {b : Int32} (hb : 0 ≤ b.toInt ∧ b.toInt ≤ 5) {k1 : Int32 → vS → Option (Int32 × vS)} {k2 : vS → Option (Int32 × vS)} {Q : Int32 → vS → Prop} (hk1 : ∀ x, v_T (k1 x s) Q) (hk2 : v_T (k2 s) Q) : ∀ (m n : Nat) (v : Int32), (s.1 182 b.toNatClampNeg).toInt ≤ 2 * (v.toInt + m) → 0 ≤ v.toInt → v.toInt ≤ 30 → m < n → v_T (f_Md_wrongIn_L2 b k1 k2 n v s) Q := by
  have hz := h.2.1 b.toNatClampNeg (by rw [v_nc]; omega)
  have hbi : v_in b 6 := ⟨hb.1, by omega⟩
  intro m
  induction m with
  | zero =>
    intro n v hm hv hv2 hn
    obtain ⟨n, rfl⟩ : ∃ q, n = q + 1 := ⟨n - 1, by omega⟩
    show v_T (f_Md_wrongIn_L2b b k1 k2 (f_Md_wrongIn_L2 b k1 k2 n) v s) _
    unfold f_Md_wrongIn_L2b
    have e := v_2m (v := v) ⟨hv, by omega⟩
    rw [if_pos hbi, if_pos (by omega)]
    exact hk2
  | succ m ih =>
    intro n v hm hv hv2 hn
    obtain ⟨n, rfl⟩ : ∃ q, n = q + 1 := ⟨n - 1, by omega⟩
    show v_T (f_Md_wrongIn_L2b b k1 k2 (f_Md_wrongIn_L2 b k1 k2 n) v s) _
    unfold f_Md_wrongIn_L2b
    have e := v_2m (v := v) ⟨hv, by omega⟩
    have e1 := v_inc (x := v) (by omega)
    rw [if_pos hbi]
    refine v_Tif (fun _ => hk2) (fun hc => ?_)
    have hc2 : 0 ≤ v.toInt ∧ v.toInt ≤ 29 := ⟨hv, by omega⟩
    have h60 := m_60 hb (c := v) ⟨by omega, by omega⟩
    refine v_Tbi (m_isTwo b v s h hb ⟨hv, by omega⟩) ?_
    rintro r _ ⟨rfl, hr⟩
    refine v_Tif (fun _ => hk1 _) (fun hn0 => ?_)
    have hk := hr.resolve_left hn0
    unfold f_Md_caseAt
    rw [if_pos ⟨by omega, by omega⟩, v_bi_some]
    unfold f_Md_caseOf
    rw [v_bi_some]
    refine v_Tbi (m_verdictIn _ _ _ h.1 hk) ?_
    rintro _ _ rfl
    refine v_Tbi (m_dueAt b v _ hb hc2) ?_
    rintro _ _ rfl
    exact v_Tif (fun _ => ih n _ (by omega) (by omega) (by omega) (by omega)) (fun _ => hk1 _)
theorem m_wrongIn (b : Int32) (s : vS) (h : v_RQ s) (hb : 0 ≤ b.toInt ∧ b.toInt ≤ 5) : v_T (f_Md_wrongIn b s) (fun _ t => t = s) := by
  have hz := h.2.1 b.toNatClampNeg (by rw [v_nc]; omega)
  unfold f_Md_wrongIn
  exact m_wrongL (Q := fun _ t => t = s) h hb (fun x => v_Tret (P := fun _ t => t = s) rfl) (v_Tret (P := fun _ t => t = s) rfl) 30 4096 0 (by show _ ≤ 2 * ((0 : Int) + 30); omega) (by decide) (by decide) (by decide)
def v_sQ (s t : vS) : Prop := v_F v_sd s t
theorem m_judge (b : Int32) (s : vS) (h : v_RQ s) : v_T (f_Md_judge b s) (fun _ t => v_F v_sd s t) := by
  unfold f_Md_judge
  refine v_TisShelf (fun hb => ?_) (fun _ => v_Tret v_F_rf)
  refine v_Tbi (m_rowFault b s ⟨hb.1, by omega⟩) ?_
  rintro _ _ rfl
  refine v_Tif (fun _ => ?_) (fun _ => ?_)
  · refine v_FTb v_F_rf (m_findAll _ h) (fun _ t ht => ?_)
    refine v_Tbi (m_wrongIn b t (v_RQ_F h ht) hb) ?_
    rintro _ _ rfl
    exact v_Tret ht
  · refine v_Tbi (m_rowFault b _ ⟨hb.1, by omega⟩) ?_
    rintro _ _ rfl
    exact v_Tret v_F_rf
theorem m_neverL {s : vS} (hl : 0 ≤ (s.1 151 14).toInt ∧ (s.1 151 14).toInt ≤ 10) : ∀ (m n : Nat) (u v : Int32), v.toInt + m = 125 → 0 ≤ v.toInt → m < n → v_T (f_Md_never_L15 (fun w2 s3 => (some (w2, s3))) n u v s) (fun _ t => t = s) := by
  intro m
  induction m with
  | zero =>
    intro n u v hm hv hn
    obtain ⟨n, rfl⟩ : ∃ q, n = q + 1 := ⟨n - 1, by omega⟩
    show v_T (f_Md_never_L15b (fun w2 s3 => (some (w2, s3))) (f_Md_never_L15 (fun w2 s3 => (some (w2, s3))) n) u v s) _
    unfold f_Md_never_L15b
    rw [if_pos (by omega)]
    exact v_Tret rfl
  | succ m ih =>
    intro n u v hm hv hn
    obtain ⟨n, rfl⟩ : ∃ q, n = q + 1 := ⟨n - 1, by omega⟩
    show v_T (f_Md_never_L15b (fun w2 s3 => (some (w2, s3))) (f_Md_never_L15 (fun w2 s3 => (some (w2, s3))) n) u v s) _
    unfold f_Md_never_L15b
    have e1 := v_inc (x := v) (by omega)
    rw [if_neg (by omega)]
    refine v_Tbi (m_holder v _ s hl ⟨hv, by omega⟩) ?_
    rintro _ _ ⟨rfl, _⟩
    exact v_Tif (fun _ => ih n _ _ (by omega) (by omega) (by omega)) (fun _ => ih n _ _ (by omega) (by omega) (by omega))
theorem m_never (s : vS) (h : v_RQ s) : v_T (f_Md_never s) (fun _ t => v_F v_sd s t) := by
  unfold f_Md_never
  refine v_FTb v_F_rf (m_findAll _ h) (fun _ t ht => ?_)
  exact v_Tm (m_neverL (v_RQ_F h ht).1 125 4096 _ 0 (by decide) (by decide) (by decide)) (fun _ u e => by rw [e]; exact ht)
theorem v_q10 {b : Int32} (h : 0 ≤ b.toInt) : (b / (10 : Int32)).toInt = b.toInt / 10 ∧ (b - b / (10 : Int32) * (10 : Int32)).toInt = b.toInt % 10 := by
  refine ⟨v_tdiv (y := 10) h (by decide), ?_⟩
  have e := rem_toInt b 10
  rw [e]
  exact Int.tmod_eq_emod_of_nonneg h
theorem m_clashL {s : vS} {b c x y : Int32} (hx : b / (10 : Int32) = x) (hy : b - b / (10 : Int32) * (10 : Int32) = y) (hx1 : 0 ≤ x.toInt ∧ x.toInt < 10) (hy1 : 0 ≤ y.toInt ∧ y.toInt < 10) : ∀ (m n : Nat) (u z v : Int32), v.toInt + 1 = m → m ≤ 125 → m < n → v_T (f_Md_clash_L84 b c (fun w14 w15 s16 => (if c.toInt = 0 then (some (w14, s16)) else (some (w15, s16)))) n u z v s) (fun _ t => t = s) := by
  intro m
  induction m with
  | zero =>
    intro n u z v hm h9 hn
    obtain ⟨n, rfl⟩ : ∃ q, n = q + 1 := ⟨n - 1, by omega⟩
    unfold f_Md_clash_L84
    show v_T (f_Md_clash_L84b b c _ (f_Md_clash_L84 b c _ n) u z v s) _
    unfold f_Md_clash_L84b
    rw [if_pos (by omega)]
    exact v_Tif (fun _ => v_Tret rfl) (fun _ => v_Tret rfl)
  | succ m ih =>
    intro n u z v hm h9 hn
    obtain ⟨n, rfl⟩ : ∃ q, n = q + 1 := ⟨n - 1, by omega⟩
    unfold f_Md_clash_L84
    show v_T (f_Md_clash_L84b b c _ (f_Md_clash_L84 b c _ n) u z v s) _
    unfold f_Md_clash_L84b
    have e1 := v_dec (x := v) (by omega)
    rw [if_neg (by omega), hy, hx]
    have ex := m_125 (b := x) (v := v) ⟨by omega, by omega⟩ ⟨by omega, by omega⟩
    have ey := m_125 (b := y) (v := v) ⟨by omega, by omega⟩ ⟨by omega, by omega⟩
    have hgo : ∀ u z, v_T (f_Md_clash_L84 b c (fun w14 w15 s16 => (if c.toInt = 0 then (some (w14, s16)) else (some (w15, s16)))) n u z (v + (-1)) s) (fun _ t => t = s) := fun u z => ih n u z _ (by omega) (by omega) (by omega)
    refine v_Tck ⟨by omega, by omega⟩ (v_Tck ⟨by omega, by omega⟩ (v_Tif (fun _ => hgo _ _) (fun _ => v_Tck ⟨by omega, by omega⟩ (v_Tif (fun _ => hgo _ _) (fun _ => v_Tck ⟨by omega, by omega⟩ (v_Tif (fun _ => hgo _ _) (fun _ => ?_)))))))
    refine v_Tbi (m_numberOf ..) ?_
    rintro _ _ rfl
    exact hgo _ _
theorem m_clash (b c : Int32) (s : vS) (h : v_RQ s) : v_T (f_Md_clash b c s) (fun _ t => v_F v_sd s t) := by
  have hl := h.1
  unfold f_Md_clash
  refine v_Tif (fun _ => v_Tret v_F_rf) (fun hb => ?_)
  have h10 := v_q10 (b := b) (by omega)
  refine v_TisLaw hl (fun h1 => ?_) (v_Tret v_F_rf)
  refine v_TisLaw hl (fun h2 => v_Tif (fun _ => v_Tret v_F_rf) (fun _ => ?_)) (v_Tret v_F_rf)
  refine v_Tbi (m_isThere _ s ⟨by omega, by omega⟩) ?_
  rintro _ _ ⟨rfl, _⟩
  refine v_Tif (fun _ => v_Tret v_F_rf) (fun _ => ?_)
  refine v_Tbi (m_isThere _ _ ⟨by omega, by omega⟩) ?_
  rintro _ _ ⟨rfl, _⟩
  refine v_Tif (fun _ => v_Tret v_F_rf) (fun _ => ?_)
  refine v_Tin (fun _ => ?_) (fun _ => v_Tret v_F_rf)
  refine v_FTb v_F_rf (m_findSpeaks _ h) (fun _ t ht => ?_)
  exact v_Tm (m_clashL (c := c) rfl rfl ⟨by omega, by omega⟩ ⟨by omega, by omega⟩ 125 4096 (-2) 0 124 (by decide) (by decide) (by decide)) (fun _ u e => by rw [e]; exact ht)
theorem m_isSo (b c : Int32) (s : vS) (hb : b.toInt < 45) : v_T (f_Md_isSo b c s) (fun _ t => t = s) := by
  unfold f_Md_isSo
  refine v_Tif (fun h => ?_) (fun _ => v_Tret rfl)
  have e : (b / (15 : Int32)).toInt = b.toInt / 15 := v_tdiv (y := 15) h (by decide)
  refine v_Tbi (m_meaning _ s ⟨by omega, by omega⟩) ?_
  rintro _ _ rfl
  refine v_Tbi (m_wordIn ..) ?_
  rintro _ _ rfl
  repeat' first
    | ((with_reducible refine v_Tret ?_); (focus exact rfl))
    | with_reducible refine v_Tif (fun _ => ?_) (fun _ => ?_)
theorem m_fwL {s0 : vS} {b c : Int32} (hb : b.toInt < 45) (hc : c.toInt < 45) : ∀ (m n : Nat) (v : Int32) (s : vS), v.toInt + m = 125 → 0 ≤ v.toInt → v_F v_sd s0 s → m < n → v_T (f_Md_findWording_L10 b c (fun s2 => (some ((), s2))) n v s) (fun _ t => v_F v_sd s0 t) := by
  intro m
  induction m with
  | zero =>
    intro n v s hm hv h0 hn
    obtain ⟨n, rfl⟩ : ∃ q, n = q + 1 := ⟨n - 1, by omega⟩
    unfold f_Md_findWording_L10
    show v_T (f_Md_findWording_L10b b c _ (f_Md_findWording_L10 b c _ n) v s) _
    unfold f_Md_findWording_L10b
    rw [if_pos (by omega)]
    exact v_Tret h0
  | succ m ih =>
    intro n v s hm hv h0 hn
    obtain ⟨n, rfl⟩ : ∃ q, n = q + 1 := ⟨n - 1, by omega⟩
    unfold f_Md_findWording_L10
    show v_T (f_Md_findWording_L10b b c _ (f_Md_findWording_L10 b c _ n) v s) _
    unfold f_Md_findWording_L10b
    have e1 := v_inc (x := v) (by omega)
    have e2 := m_1250 (v := v) ⟨by omega, by omega⟩
    have hi : v_in ((1250 : Int32) + v) 1375 := ⟨by omega, by omega⟩
    have hgo : ∀ t, v_F v_sd s0 t → v_T (f_Md_findWording_L10 b c (fun s2 => (some ((), s2))) n (v + 1) t) (fun _ t => v_F v_sd s0 t) := fun t ht => ih n _ t (by omega) (by omega) ht (by omega)
    rw [if_neg (by omega)]
    refine v_Tbi (m_isSo b v s hb) ?_
    rintro _ _ rfl
    refine v_Tif (fun _ => v_Tck hi (v_FTw h0 (by unfold v_sd; omega) (fun t ht => hgo t ht))) (fun _ => ?_)
    refine v_Tbi (m_isSo c v _ hc) ?_
    rintro _ _ rfl
    exact v_Tif (fun _ => v_Tck hi (v_FTw h0 (by unfold v_sd; omega) (fun t ht => hgo t ht))) (fun _ => v_Tck hi (v_FTw h0 (by unfold v_sd; omega) (fun t ht => v_FTw ht (by unfold v_sd; omega) (fun t ht => hgo t ht))))
theorem m_findWording (b c : Int32) (s : vS) (hb : b.toInt < 45) (hc : c.toInt < 45) : v_T (f_Md_findWording b c s) (fun _ t => v_F v_sd s t) := by
  unfold f_Md_findWording
  exact v_FTw (P := v_sd) v_F_rf (by unfold v_sd; omega) (fun t ht => m_fwL hb hc 125 4096 0 t (by decide) (by decide) ht (by decide))
theorem m_verdictWith (c : Int32) (s : vS) (hl : 0 ≤ (s.1 151 14).toInt ∧ (s.1 151 14).toInt ≤ 10) (hc : 0 ≤ c.toInt ∧ c.toInt < 125) : v_T (f_Md_verdictWith c s) (fun _ t => t = s) := by
  have e2 := m_1250 (v := c) ⟨by omega, by omega⟩
  unfold f_Md_verdictWith
  refine v_Tbi (m_holder c _ s hl hc) ?_
  rintro r _ ⟨rfl, hr⟩
  refine v_Tck ⟨by omega, by omega⟩ ?_
  refine v_Tif (fun _ => v_Tif (fun _ => v_Tck ⟨by omega, by omega⟩ (v_Tret rfl)) (fun _ => v_Tret rfl)) (fun _ => v_Tif (fun _ => v_Tret rfl) (fun _ => ?_))
  refine v_Tbi (m_isAhead 10 r _ _ (by decide) ⟨by omega, by omega⟩) ?_
  rintro _ _ ⟨rfl, _⟩
  exact v_Tif (fun _ => v_Tif (fun _ => v_Tck ⟨by omega, by omega⟩ (v_Tret rfl)) (fun _ => v_Tret rfl)) (fun _ => v_Tret rfl)
theorem m_rowSoL {s : vS} (h : v_RQ s) {b : Int32} (hb : 0 ≤ b.toInt ∧ b.toInt ≤ 5) : ∀ (m n : Nat) (v : Int32), (s.1 182 b.toNatClampNeg).toInt ≤ 2 * (v.toInt + m) → 0 ≤ v.toInt → v.toInt ≤ 30 → m < n → v_T (f_Md_isRowSo_L2 b (fun s1 => (some (0, s1))) (fun s2 => (some (1, s2))) n v s) (fun _ t => t = s) := by
  have hz := h.2.1 b.toNatClampNeg (by rw [v_nc]; omega)
  have hbi : v_in b 6 := ⟨hb.1, by omega⟩
  intro m
  induction m with
  | zero =>
    intro n v hm hv hv2 hn
    obtain ⟨n, rfl⟩ : ∃ q, n = q + 1 := ⟨n - 1, by omega⟩
    unfold f_Md_isRowSo_L2
    show v_T (f_Md_isRowSo_L2b b _ _ (f_Md_isRowSo_L2 b _ _ n) v s) _
    unfold f_Md_isRowSo_L2b
    have e := v_2m (v := v) ⟨hv, by omega⟩
    rw [if_pos hbi, if_pos (by omega)]
    exact v_Tret rfl
  | succ m ih =>
    intro n v hm hv hv2 hn
    obtain ⟨n, rfl⟩ : ∃ q, n = q + 1 := ⟨n - 1, by omega⟩
    unfold f_Md_isRowSo_L2
    show v_T (f_Md_isRowSo_L2b b _ _ (f_Md_isRowSo_L2 b _ _ n) v s) _
    unfold f_Md_isRowSo_L2b
    have e := v_2m (v := v) ⟨hv, by omega⟩
    have e1 := v_inc (x := v) (by omega)
    rw [if_pos hbi]
    refine v_Tif (fun _ => v_Tret rfl) (fun hc => ?_)
    have hc2 : 0 ≤ v.toInt ∧ v.toInt ≤ 29 := ⟨hv, by omega⟩
    have h60 := m_60 hb (c := v) ⟨by omega, by omega⟩
    refine v_Tbi (m_isTwo b v s h hb ⟨hv, by omega⟩) ?_
    rintro r _ ⟨rfl, hr⟩
    refine v_Tif (fun _ => v_Tret rfl) (fun hn0 => ?_)
    have hk := hr.resolve_left hn0
    unfold f_Md_caseAt
    rw [if_pos ⟨by omega, by omega⟩, v_bi_some]
    unfold f_Md_caseOf
    rw [v_bi_some]
    refine v_Tbi (m_verdictWith _ _ h.1 hk) ?_
    rintro _ _ rfl
    refine v_Tbi (m_dueAt b v _ hb hc2) ?_
    rintro _ _ rfl
    exact v_Tif (fun _ => ih n _ (by omega) (by omega) (by omega) (by omega)) (fun _ => v_Tret rfl)
theorem m_isRowSo (b : Int32) (s : vS) (h : v_RQ s) (hb : 0 ≤ b.toInt ∧ b.toInt ≤ 5) : v_T (f_Md_isRowSo b s) (fun _ t => t = s) := by
  have hz := h.2.1 b.toNatClampNeg (by rw [v_nc]; omega)
  unfold f_Md_isRowSo
  exact m_rowSoL h hb 30 4096 0 (by show _ ≤ 2 * ((0 : Int) + 30); omega) (by decide) (by decide) (by decide)
theorem m_writes (b c : Int32) (s : vS) (h : v_RQ s) : v_T (f_Md_writes b c s) (fun _ t => v_F v_sd s t) := by
  unfold f_Md_writes
  refine v_FTw (P := v_sd) v_F_rf (by unfold v_sd; omega) (fun t ht => v_FTw ht (by unfold v_sd; omega) (fun t ht => ?_))
  exact v_FTb ht (m_findAll t (v_RQ_F h ht)) (fun _ t ht => v_Tret ht)
theorem m_wrL67 {s0 : vS} (h : v_RQ s0) {b : Int32} (hb : 0 ≤ b.toInt ∧ b.toInt ≤ 5) {k : vS → Option (Int32 × vS)} (hk : ∀ t, v_F v_sd s0 t → v_T (k t) (fun _ t => v_F v_sd s0 t)) : ∀ (m n : Nat) (v : Int32) (s : vS), v.toInt + m = 45 → 0 ≤ v.toInt → v_F v_sd s0 s → m < n → v_T (f_Md_write_L67 b k n v s) (fun _ t => v_F v_sd s0 t) := by
  intro m
  induction m with
  | zero =>
    intro n v s hm hv h0 hn
    obtain ⟨n, rfl⟩ : ∃ q, n = q + 1 := ⟨n - 1, by omega⟩
    show v_T (f_Md_write_L67b b k (f_Md_write_L67 b k n) v s) _
    unfold f_Md_write_L67b
    rw [if_pos (by omega)]
    exact hk s h0
  | succ m ih =>
    intro n v s hm hv h0 hn
    obtain ⟨n, rfl⟩ : ∃ q, n = q + 1 := ⟨n - 1, by omega⟩
    show v_T (f_Md_write_L67b b k (f_Md_write_L67 b k n) v s) _
    unfold f_Md_write_L67b
    have e1 := v_inc (x := v) (by omega)
    rw [if_neg (by omega)]
    refine v_FTb h0 (m_findWording _ _ s (by omega) (by decide)) (fun _ t ht => ?_)
    refine v_Tbi (m_isRowSo b t (v_RQ_F h ht) hb) ?_
    rintro _ _ rfl
    exact v_Tif (fun _ => ih n _ _ (by omega) (by omega) ht (by omega)) (fun _ => v_Tret ht)
theorem m_wrL119 {s0 : vS} (h : v_RQ s0) {b a : Int32} (hb : 0 ≤ b.toInt ∧ b.toInt ≤ 5) (ha : a.toInt < 45) {k : vS → Option (Int32 × vS)} (hk : ∀ t, v_F v_sd s0 t → v_T (k t) (fun _ t => v_F v_sd s0 t)) : ∀ (m n : Nat) (v : Int32) (s : vS), v.toInt + m = 45 → 0 ≤ v.toInt → v_F v_sd s0 s → m < n → v_T (f_Md_write_L119 b a k n v s) (fun _ t => v_F v_sd s0 t) := by
  intro m
  induction m with
  | zero =>
    intro n v s hm hv h0 hn
    obtain ⟨n, rfl⟩ : ∃ q, n = q + 1 := ⟨n - 1, by omega⟩
    show v_T (f_Md_write_L119b b a k (f_Md_write_L119 b a k n) v s) _
    unfold f_Md_write_L119b
    rw [if_pos (by omega)]
    exact hk s h0
  | succ m ih =>
    intro n v s hm hv h0 hn
    obtain ⟨n, rfl⟩ : ∃ q, n = q + 1 := ⟨n - 1, by omega⟩
    show v_T (f_Md_write_L119b b a k (f_Md_write_L119 b a k n) v s) _
    unfold f_Md_write_L119b
    have e1 := v_inc (x := v) (by omega)
    rw [if_neg (by omega)]
    refine v_FTb h0 (m_findWording _ _ s ha (by omega)) (fun _ t ht => ?_)
    refine v_Tbi (m_isRowSo b t (v_RQ_F h ht) hb) ?_
    rintro _ _ rfl
    exact v_Tif (fun _ => ih n _ _ (by omega) (by omega) ht (by omega)) (fun _ => v_Tret ht)
theorem m_wrL106 {s0 : vS} (h : v_RQ s0) {b : Int32} (hb : 0 ≤ b.toInt ∧ b.toInt ≤ 5) {k : vS → Option (Int32 × vS)} (hk : ∀ t, v_F v_sd s0 t → v_T (k t) (fun _ t => v_F v_sd s0 t)) : ∀ (m n : Nat) (v : Int32) (s : vS), v.toInt + m = 45 → 0 ≤ v.toInt → v_F v_sd s0 s → m < n → v_T (f_Md_write_L106 b k n v s) (fun _ t => v_F v_sd s0 t) := by
  intro m
  induction m with
  | zero =>
    intro n v s hm hv h0 hn
    obtain ⟨n, rfl⟩ : ∃ q, n = q + 1 := ⟨n - 1, by omega⟩
    show v_T (f_Md_write_L106b b k (f_Md_write_L106 b k n) v s) _
    unfold f_Md_write_L106b
    rw [if_pos (by omega)]
    exact hk s h0
  | succ m ih =>
    intro n v s hm hv h0 hn
    obtain ⟨n, rfl⟩ : ∃ q, n = q + 1 := ⟨n - 1, by omega⟩
    show v_T (f_Md_write_L106b b k (f_Md_write_L106 b k n) v s) _
    unfold f_Md_write_L106b
    have e1 := v_inc (x := v) (by omega)
    rw [if_neg (by omega)]
    exact m_wrL119 h hb (by omega) (fun t ht => ih n _ t (by omega) (by omega) ht (by omega)) (45 - (v.toInt + 1).toNat) 4096 (v + 1) s (by omega) (by omega) h0 (by omega)
theorem m_write (b c d : Int32) (s : vS) (h : v_RQ s) : v_T (f_Md_write b c d s) (fun _ t => v_F v_sd s t) := by
  unfold f_Md_write
  refine v_TisShelf (fun hb => ?_) (fun _ => v_Tret v_F_rf)
  refine v_Tin (fun _ => ?_) (fun _ => v_Tret v_F_rf)
  refine v_Tin (fun _ => ?_) (fun _ => v_Tret v_F_rf)
  refine v_Tbi (m_rowFault b s ⟨hb.1, by omega⟩) ?_
  rintro _ _ rfl
  refine v_Tif (fun _ => ?_) (fun _ => ?_)
  · refine v_FTb v_F_rf (m_writes c d _ h) (fun _ t ht => ?_)
    refine v_FTb ht (m_findWording _ _ t (by decide) (by decide)) (fun _ t ht => ?_)
    refine v_Tbi (m_isRowSo b t (v_RQ_F h ht) hb) ?_
    rintro _ _ rfl
    refine v_Tif (fun _ => ?_) (fun _ => v_Tret ht)
    exact m_wrL67 h hb (fun t ht => m_wrL106 h hb (fun t ht => v_Tret ht) 45 4096 0 t (by decide) (by decide) ht (by decide)) 45 4096 0 _ (by decide) (by decide) ht (by decide)
  · refine v_Tbi (m_rowFault b _ ⟨hb.1, by omega⟩) ?_
    rintro _ _ rfl
    exact v_Tret v_F_rf
theorem m_cbL11 {s0 : vS} (h : v_RQ s0) {c d a : Int32} (hc : 0 ≤ c.toInt ∧ c.toInt < 125) (ha : a.toInt < 45) {k : vS → Option (Int32 × vS)} (hk : ∀ t, v_F v_sd s0 t → v_T (k t) (fun _ t => v_F v_sd s0 t)) : ∀ (m n : Nat) (v : Int32) (s : vS), v.toInt + m = 45 → -1 ≤ v.toInt → v_F v_sd s0 s → m < n → v_T (f_Md_canBe_L11 c d a k n v s) (fun _ t => v_F v_sd s0 t) := by
  intro m
  induction m with
  | zero =>
    intro n v s hm hv h0 hn
    obtain ⟨n, rfl⟩ : ∃ q, n = q + 1 := ⟨n - 1, by omega⟩
    show v_T (f_Md_canBe_L11b c d a k (f_Md_canBe_L11 c d a k n) v s) _
    unfold f_Md_canBe_L11b
    rw [if_pos (by omega)]
    exact hk s h0
  | succ m ih =>
    intro n v s hm hv h0 hn
    obtain ⟨n, rfl⟩ : ∃ q, n = q + 1 := ⟨n - 1, by omega⟩
    show v_T (f_Md_canBe_L11b c d a k (f_Md_canBe_L11 c d a k n) v s) _
    unfold f_Md_canBe_L11b
    have e1 := v_inc (x := v) (by omega)
    have hgo : ∀ t, v_F v_sd s0 t → v_T (f_Md_canBe_L11 c d a k n (v + 1) t) (fun _ t => v_F v_sd s0 t) := fun t ht => ih n _ t (by omega) (by omega) ht (by omega)
    have htry : v_T (v_bi (f_Md_findWording a v s) (fun _ s305 => (v_bi (f_Md_verdictWith c s305) (fun r306 s306 => (if r306.toInt = d.toInt then (some (1, s306)) else (f_Md_canBe_L11 c d a k n (v + 1) s306)))))) (fun _ t => v_F v_sd s0 t) := by
      refine v_FTb h0 (m_findWording _ _ s ha (by omega)) (fun _ t ht => ?_)
      refine v_Tbi (m_verdictWith c t (v_RQ_F h ht).1 hc) ?_
      rintro _ _ rfl
      exact v_Tif (fun _ => v_Tret ht) (fun _ => hgo _ ht)
    rw [if_neg (by omega)]
    repeat' first
      | exact htry
      | with_reducible exact hgo s h0
      | with_reducible refine v_Tif (fun _ => ?_) (fun _ => ?_)
theorem m_cbL2 {s0 : vS} (h : v_RQ s0) {c d : Int32} (hc : 0 ≤ c.toInt ∧ c.toInt < 125) : ∀ (m n : Nat) (v : Int32) (s : vS), v.toInt + m = 45 → -1 ≤ v.toInt → v_F v_sd s0 s → m < n → v_T (f_Md_canBe_L2 c d (fun s1 => (some (0, s1))) n v s) (fun _ t => v_F v_sd s0 t) := by
  intro m
  induction m with
  | zero =>
    intro n v s hm hv h0 hn
    obtain ⟨n, rfl⟩ : ∃ q, n = q + 1 := ⟨n - 1, by omega⟩
    unfold f_Md_canBe_L2
    show v_T (f_Md_canBe_L2b c d _ (f_Md_canBe_L2 c d _ n) v s) _
    unfold f_Md_canBe_L2b
    rw [if_pos (by omega)]
    exact v_Tret h0
  | succ m ih =>
    intro n v s hm hv h0 hn
    obtain ⟨n, rfl⟩ : ∃ q, n = q + 1 := ⟨n - 1, by omega⟩
    unfold f_Md_canBe_L2
    show v_T (f_Md_canBe_L2b c d _ (f_Md_canBe_L2 c d _ n) v s) _
    unfold f_Md_canBe_L2b
    have e1 := v_inc (x := v) (by omega)
    rw [if_neg (by omega)]
    exact m_cbL11 h hc (by omega) (fun t ht => ih n _ t (by omega) (by omega) ht (by omega)) 46 4096 (-1) s (by decide) (by decide) h0 (by decide)
theorem m_canBe (c d : Int32) (s : vS) (h : v_RQ s) (hc : 0 ≤ c.toInt ∧ c.toInt < 125) : v_T (f_Md_canBe c d s) (fun _ t => v_F v_sd s t) := by
  unfold f_Md_canBe
  exact m_cbL2 h hc 46 4096 (-1) s (by decide) (by decide) v_F_rf (by decide)
theorem m_barsL {s0 : vS} (h : v_RQ s0) {b : Int32} (hb : 0 ≤ b.toInt ∧ b.toInt ≤ 5) {k1 : Int32 → vS → Option (Int32 × vS)} {k2 : vS → Option (Int32 × vS)} (hk1 : ∀ x t, (0 ≤ x.toInt ∧ x.toInt < 125) → v_F v_sd s0 t → v_T (k1 x t) (fun _ t => v_F v_sd s0 t)) (hk2 : ∀ t, v_F v_sd s0 t → v_T (k2 t) (fun _ t => v_F v_sd s0 t)) : ∀ (m n : Nat) (v : Int32) (s : vS), (s0.1 182 b.toNatClampNeg).toInt ≤ 2 * (v.toInt + m) → 0 ≤ v.toInt → v.toInt ≤ 30 → v_F v_sd s0 s → m < n → v_T (f_Md_bars_L51 b k1 k2 n v s) (fun _ t => v_F v_sd s0 t) := by
  have hz := h.2.1 b.toNatClampNeg (by rw [v_nc]; omega)
  have hbi : v_in b 6 := ⟨hb.1, by omega⟩
  intro m
  induction m with
  | zero =>
    intro n v s hm hv hv2 h0 hn
    obtain ⟨n, rfl⟩ : ∃ q, n = q + 1 := ⟨n - 1, by omega⟩
    show v_T (f_Md_bars_L51b b k1 k2 (f_Md_bars_L51 b k1 k2 n) v s) _
    unfold f_Md_bars_L51b
    have e := v_2m (v := v) ⟨hv, by omega⟩
    rw [if_pos hbi, (h0 182 _ (by unfold v_sd; omega)).1, if_pos (by omega)]
    exact hk2 s h0
  | succ m ih =>
    intro n v s hm hv hv2 h0 hn
    obtain ⟨n, rfl⟩ : ∃ q, n = q + 1 := ⟨n - 1, by omega⟩
    show v_T (f_Md_bars_L51b b k1 k2 (f_Md_bars_L51 b k1 k2 n) v s) _
    unfold f_Md_bars_L51b
    have e := v_2m (v := v) ⟨hv, by omega⟩
    have e1 := v_inc (x := v) (by omega)
    have hs := v_RQ_F h h0
    rw [if_pos hbi, (h0 182 _ (by unfold v_sd; omega)).1]
    refine v_Tif (fun _ => hk2 s h0) (fun hc => ?_)
    have hc2 : 0 ≤ v.toInt ∧ v.toInt ≤ 29 := ⟨hv, by omega⟩
    have h60 := m_60 hb (c := v) ⟨by omega, by omega⟩
    refine v_Tbi (m_isTwo b v s hs hb ⟨hv, by rw [(h0 182 _ (by unfold v_sd; omega)).1]; omega⟩) ?_
    rintro r _ ⟨rfl, hr⟩
    refine v_Tif (fun _ => v_Tret h0) (fun hn0 => ?_)
    have hk := hr.resolve_left hn0
    unfold f_Md_caseAt
    rw [if_pos ⟨by omega, by omega⟩, v_bi_some]
    unfold f_Md_caseOf
    rw [v_bi_some]
    refine v_Tbi (m_dueAt b v _ hb hc2) ?_
    rintro _ _ rfl
    refine v_FTb h0 (m_canBe _ _ _ hs hk) (fun _ t ht => ?_)
    exact v_Tif (fun _ => hk1 _ t hk ht) (fun _ => ih n _ t (by omega) (by omega) (by omega) ht (by omega))
theorem m_bars (b c d : Int32) (s : vS) (h : v_RQ s) : v_T (f_Md_bars b c d s) (fun _ t => v_F v_sd s t) := by
  unfold f_Md_bars
  refine v_TisShelf (fun hb => ?_) (fun _ => v_Tret v_F_rf)
  refine v_Tin (fun _ => ?_) (fun _ => v_Tret v_F_rf)
  refine v_Tin (fun _ => ?_) (fun _ => v_Tret v_F_rf)
  refine v_Tbi (m_rowFault b s ⟨hb.1, by omega⟩) ?_
  rintro _ _ rfl
  have hz := h.2.1 b.toNatClampNeg (by rw [v_nc]; omega)
  refine v_Tif (fun _ => ?_) (fun _ => ?_)
  · refine v_FTb v_F_rf (m_writes c d _ h) (fun _ t ht => ?_)
    refine m_barsL h hb (fun x t hx ht => ?_) (fun t ht => v_Tret ht) 30 4096 0 t (by show _ ≤ 2 * ((0 : Int) + 30); omega) (by decide) (by decide) ht (by decide)
    refine v_Tbi (m_holder x _ t (v_RQ_F h ht).1 hx) ?_
    rintro _ _ ⟨rfl, _⟩
    exact v_Tif (fun _ => v_Tret ht) (fun _ => v_Tret ht)
  · refine v_Tbi (m_rowFault b _ ⟨hb.1, by omega⟩) ?_
    rintro _ _ rfl
    exact v_Tret v_F_rf
theorem m_kvL {s0 : vS} (hl : 0 ≤ (s0.1 151 14).toInt ∧ (s0.1 151 14).toInt ≤ 10) {y : Int32} : ∀ (m n : Nat) (v : Int32) (s : vS), v.toInt + m = 125 → 0 ≤ v.toInt → v_F v_sd s0 s → m < n → v_T (f_Md_keepVerdicts_L2 y (fun s1 => (some ((), s1))) n v s) (fun _ t => v_F v_sd s0 t) := by
  intro m
  induction m with
  | zero =>
    intro n v s hm hv h0 hn
    obtain ⟨n, rfl⟩ : ∃ q, n = q + 1 := ⟨n - 1, by omega⟩
    unfold f_Md_keepVerdicts_L2
    show v_T (f_Md_keepVerdicts_L2b y _ (f_Md_keepVerdicts_L2 y _ n) v s) _
    unfold f_Md_keepVerdicts_L2b
    rw [if_pos (by omega)]
    exact v_Tret h0
  | succ m ih =>
    intro n v s hm hv h0 hn
    obtain ⟨n, rfl⟩ : ∃ q, n = q + 1 := ⟨n - 1, by omega⟩
    unfold f_Md_keepVerdicts_L2
    show v_T (f_Md_keepVerdicts_L2b y _ (f_Md_keepVerdicts_L2 y _ n) v s) _
    unfold f_Md_keepVerdicts_L2b
    have e1 := v_inc (x := v) (by omega)
    rw [if_neg (by omega)]
    refine v_Tbi (m_verdictIn v y s (by rw [v_lw h0]; exact hl) ⟨hv, by omega⟩) ?_
    rintro _ _ rfl
    rw [if_pos ⟨hv, by omega⟩]
    exact v_FTw h0 (by unfold v_sd; omega) (fun t ht => ih n _ t (by omega) (by omega) ht (by omega))
theorem m_keepVerdicts (y : Int32) (s : vS) (hl : 0 ≤ (s.1 151 14).toInt ∧ (s.1 151 14).toInt ≤ 10) : v_T (f_Md_keepVerdicts y s) (fun _ t => v_F v_sd s t) := by
  unfold f_Md_keepVerdicts
  exact m_kvL hl 125 4096 0 s (by decide) (by decide) v_F_rf (by decide)
theorem m_unL {s : vS} (hl : 0 ≤ (s.1 151 14).toInt ∧ (s.1 151 14).toInt ≤ 10) {y w : Int32} : ∀ (m n : Nat) (u z v : Int32), v.toInt + 1 = m → m ≤ 125 → m < n → v_T (f_Md_unlikeNow_L10 y w (fun w1 w2 s3 => (if w.toInt = 0 then (some (w1, s3)) else (some (w2, s3)))) n u z v s) (fun _ t => t = s) := by
  intro m
  induction m with
  | zero =>
    intro n u z v hm h9 hn
    obtain ⟨n, rfl⟩ : ∃ q, n = q + 1 := ⟨n - 1, by omega⟩
    unfold f_Md_unlikeNow_L10
    show v_T (f_Md_unlikeNow_L10b y w _ (f_Md_unlikeNow_L10 y w _ n) u z v s) _
    unfold f_Md_unlikeNow_L10b
    rw [if_pos (by omega)]
    exact v_Tif (fun _ => v_Tret rfl) (fun _ => v_Tret rfl)
  | succ m ih =>
    intro n u z v hm h9 hn
    obtain ⟨n, rfl⟩ : ∃ q, n = q + 1 := ⟨n - 1, by omega⟩
    unfold f_Md_unlikeNow_L10
    show v_T (f_Md_unlikeNow_L10b y w _ (f_Md_unlikeNow_L10 y w _ n) u z v s) _
    unfold f_Md_unlikeNow_L10b
    have e1 := v_dec (x := v) (by omega)
    have hgo : ∀ u z, v_T (f_Md_unlikeNow_L10 y w (fun w1 w2 s3 => (if w.toInt = 0 then (some (w1, s3)) else (some (w2, s3)))) n u z (v + (-1)) s) (fun _ t => t = s) := fun u z => ih n u z _ (by omega) (by omega) (by omega)
    rw [if_neg (by omega)]
    refine v_Tbi (m_verdictIn v y s hl ⟨by omega, by omega⟩) ?_
    rintro _ _ rfl
    refine v_Tck ⟨by omega, by omega⟩ (v_Tif (fun _ => hgo _ _) (fun _ => ?_))
    refine v_Tbi (m_numberOf ..) ?_
    rintro _ _ rfl
    exact hgo _ _
theorem m_unlikeNow (y w : Int32) (s : vS) (hl : 0 ≤ (s.1 151 14).toInt ∧ (s.1 151 14).toInt ≤ 10) : v_T (f_Md_unlikeNow y w s) (fun _ t => t = s) := by
  unfold f_Md_unlikeNow
  exact m_unL hl 125 4096 0 (-2) 124 (by decide) (by decide) (by decide)
theorem m_unlike (b c : Int32) (s : vS) (h : v_RQ s) : v_T (f_Md_unlike b c s) (fun _ t => v_F v_sd s t) := by
  unfold f_Md_unlike
  refine v_Tif (fun _ => v_Tret v_F_rf) (fun _ => v_Tif (fun _ => v_Tret v_F_rf) (fun _ => v_Tif (fun _ => v_Tret v_F_rf) (fun _ => ?_)))
  refine v_Tin (fun _ => ?_) (fun _ => v_Tret v_F_rf)
  refine v_FTb v_F_rf (m_findAll s h) (fun _ t ht => ?_)
  refine v_FTb ht (m_keepVerdicts _ t (v_RQ_F h ht).1) (fun _ t ht => ?_)
  refine v_Tbi (m_unlikeNow _ _ t (v_RQ_F h ht).1) ?_
  rintro _ _ rfl
  exact v_Tret ht
set_option maxRecDepth 100000 in
theorem m_bo0 : (List.range 1024).all (fun j => decide (j = 0) || (decide (0 ≤ (Int32.ofNat j &&& (Int32.ofNat j - 1)).toInt) && decide ((Int32.ofNat j &&& (Int32.ofNat j - 1)).toInt < j))) = true := by decide +kernel
theorem m_bo1 {x : Int32} (h : 0 < x.toInt ∧ x.toInt < 1024) : 0 ≤ (x &&& (x - 1)).toInt ∧ (x &&& (x - 1)).toInt < x.toInt := by
  have h1 := List.all_eq_true.mp m_bo0 x.toInt.toNat (List.mem_range.mpr (by omega))
  rw [← v_of (by omega), Bool.or_eq_true, Bool.and_eq_true, decide_eq_true_eq, decide_eq_true_eq, decide_eq_true_eq] at h1
  rcases h1 with h1 | h1
  · omega
  · exact ⟨h1.1, by omega⟩
theorem m_bitsL {s : vS} : ∀ (m n : Nat) (u v : Int32), 0 ≤ v.toInt → v.toInt ≤ m → m < 1024 → m < n → v_T (f_Md_bitsOf_L4 (fun w1 s2 => (some (w1, s2))) n u v s) (fun _ t => t = s) := by
  intro m
  induction m with
  | zero =>
    intro n u v hv hm h9 hn
    obtain ⟨n, rfl⟩ : ∃ q, n = q + 1 := ⟨n - 1, by omega⟩
    unfold f_Md_bitsOf_L4
    show v_T (f_Md_bitsOf_L4b _ (f_Md_bitsOf_L4 _ n) u v s) _
    unfold f_Md_bitsOf_L4b
    rw [if_pos (by omega)]
    exact v_Tret rfl
  | succ m ih =>
    intro n u v hv hm h9 hn
    obtain ⟨n, rfl⟩ : ∃ q, n = q + 1 := ⟨n - 1, by omega⟩
    unfold f_Md_bitsOf_L4
    show v_T (f_Md_bitsOf_L4b _ (f_Md_bitsOf_L4 _ n) u v s) _
    unfold f_Md_bitsOf_L4b
    refine v_Tif (fun _ => v_Tret rfl) (fun hz => ?_)
    have h := m_bo1 (x := v) ⟨by omega, by omega⟩
    exact ih n _ _ h.1 (by omega) (by omega) (by omega)
theorem m_bitsOf (b : Int32) (s : vS) (hb : 0 ≤ b.toInt ∧ b.toInt < 1024) : v_T (f_Md_bitsOf b s) (fun _ t => t = s) := by
  unfold f_Md_bitsOf
  exact m_bitsL 1023 4096 0 b hb.1 (by omega) (by decide) (by decide)
set_option maxRecDepth 100000 in
theorem v_sh0 : (List.range 11).all (fun j => decide (((1 : Int32) <<< (Int32.ofNat j &&& 31)).toInt ≤ 1024)) = true := by decide +kernel
theorem v_sh {x : Int32} (h : 0 ≤ x.toInt ∧ x.toInt ≤ 10) : ((1 : Int32) <<< (x &&& 31)).toInt ≤ 1024 := by
  have h1 := List.all_eq_true.mp v_sh0 x.toInt.toNat (List.mem_range.mpr (by omega))
  rw [← v_of (by omega), decide_eq_true_eq] at h1
  exact h1
theorem m_foL39 {s0 : vS} (h : v_RQ s0) {b a : Int32} (hb : 0 ≤ b.toInt ∧ b.toInt ≤ 5) {k : vS → Option (Int32 × vS)} (hk : ∀ t, v_F v_sd s0 t → v_T (k t) (fun _ t => v_F v_sd s0 t)) : ∀ (m n : Nat) (v : Int32) (s : vS), v.toInt + m = 1024 → 0 ≤ v.toInt → v_F v_sd s0 s → m < n → v_T (f_Md_falseOnes_L39 b a k n v s) (fun _ t => v_F v_sd s0 t) := by
  intro m
  induction m with
  | zero =>
    intro n v s hm hv h0 hn
    obtain ⟨n, rfl⟩ : ∃ q, n = q + 1 := ⟨n - 1, by omega⟩
    show v_T (f_Md_falseOnes_L39b b a k (f_Md_falseOnes_L39 b a k n) v s) _
    unfold f_Md_falseOnes_L39b
    have := v_sh (v_RQ_F h h0).1
    rw [if_pos (by omega)]
    exact hk s h0
  | succ m ih =>
    intro n v s hm hv h0 hn
    obtain ⟨n, rfl⟩ : ∃ q, n = q + 1 := ⟨n - 1, by omega⟩
    show v_T (f_Md_falseOnes_L39b b a k (f_Md_falseOnes_L39 b a k n) v s) _
    unfold f_Md_falseOnes_L39b
    have e1 := v_inc (x := v) (by omega)
    refine v_Tif (fun _ => hk s h0) (fun _ => ?_)
    refine v_Tbi (m_bitsOf v s ⟨hv, by omega⟩) ?_
    rintro _ _ rfl
    refine v_Tif (fun _ => ?_) (fun _ => ih n _ _ (by omega) (by omega) h0 (by omega))
    refine v_FTb h0 (m_findStands _ _ _ (v_RQ_F h h0)) (fun _ t ht => ?_)
    refine v_Tbi (m_wrongIn b t (v_RQ_F h ht) hb) ?_
    rintro _ _ rfl
    exact v_Tif (fun _ => v_Tret ht) (fun _ => ih n _ _ (by omega) (by omega) ht (by omega))
theorem m_foL29 {s0 : vS} (h : v_RQ s0) {b : Int32} (hb : 0 ≤ b.toInt ∧ b.toInt ≤ 5) : ∀ (m n : Nat) (v : Int32) (s : vS), v.toInt + m = 11 → 0 ≤ v.toInt → v_F v_sd s0 s → m < n → v_T (f_Md_falseOnes_L29 b (fun s6 => (some ((-2), s6))) n v s) (fun _ t => v_F v_sd s0 t) := by
  intro m
  induction m with
  | zero =>
    intro n v s hm hv h0 hn
    obtain ⟨n, rfl⟩ : ∃ q, n = q + 1 := ⟨n - 1, by omega⟩
    unfold f_Md_falseOnes_L29
    show v_T (f_Md_falseOnes_L29b b _ (f_Md_falseOnes_L29 b _ n) v s) _
    unfold f_Md_falseOnes_L29b
    have := (v_RQ_F h h0).1
    rw [if_pos (by omega)]
    exact v_Tret h0
  | succ m ih =>
    intro n v s hm hv h0 hn
    obtain ⟨n, rfl⟩ : ∃ q, n = q + 1 := ⟨n - 1, by omega⟩
    unfold f_Md_falseOnes_L29
    show v_T (f_Md_falseOnes_L29b b _ (f_Md_falseOnes_L29 b _ n) v s) _
    unfold f_Md_falseOnes_L29b
    have e1 := v_inc (x := v) (by omega)
    refine v_Tif (fun _ => v_Tret h0) (fun _ => ?_)
    exact m_foL39 h hb (fun t ht => ih n _ t (by omega) (by omega) ht (by omega)) 1024 4096 0 s (by decide) (by decide) h0 (by decide)
theorem m_falseOnes (b : Int32) (s : vS) (h : v_RQ s) : v_T (f_Md_falseOnes b s) (fun _ t => v_F v_sd s t) := by
  unfold f_Md_falseOnes
  refine v_TisShelf (fun hb => ?_) (fun _ => v_Tret v_F_rf)
  refine v_Tbi (m_rowFault b s ⟨hb.1, by omega⟩) ?_
  rintro _ _ rfl
  refine v_Tif (fun _ => ?_) (fun _ => ?_)
  · refine v_FTb v_F_rf (m_findSpeaks _ h) (fun _ t ht => ?_)
    exact m_foL29 h hb 11 4096 0 t (by decide) (by decide) ht (by decide)
  · refine v_Tbi (m_rowFault b _ ⟨hb.1, by omega⟩) ?_
    rintro _ _ rfl
    exact v_Tret v_F_rf
