/-! the reference: its other quiet calls -/
theorem m_unL47 {s0 : vS} (hl : 0 ≤ (s0.1 151 14).toInt ∧ (s0.1 151 14).toInt ≤ 10) {b c : Int32} {k : Int32 → vS → Option (Int32 × vS)} {Q : Int32 → vS → Prop} (hk : ∀ x t, v_F v_sd s0 t → v_T (k x t) Q) : ∀ (m n : Nat) (u v : Int32) (s : vS), (s0.1 151 14).toInt ≤ v.toInt + m → 0 ≤ v.toInt → v_F v_sd s0 s → m < n → v_T (f_Md_under_L47 b c k n u v s) Q := by
  intro m
  induction m with
  | zero =>
    intro n u v s hm hv h0 hn
    obtain ⟨n, rfl⟩ : ∃ q, n = q + 1 := ⟨n - 1, by omega⟩
    show v_T (f_Md_under_L47b b c k (f_Md_under_L47 b c k n) u v s) _
    unfold f_Md_under_L47b
    rw [v_lw h0, if_pos (by omega)]
    exact hk u s h0
  | succ m ih =>
    intro n u v s hm hv h0 hn
    obtain ⟨n, rfl⟩ : ∃ q, n = q + 1 := ⟨n - 1, by omega⟩
    show v_T (f_Md_under_L47b b c k (f_Md_under_L47 b c k n) u v s) _
    unfold f_Md_under_L47b
    rw [v_lw h0]
    refine v_Tif (fun _ => hk u s h0) (fun hc => ?_)
    have e1 := v_inc (x := v) (by omega)
    exact v_Tck ⟨by omega, by omega⟩ (v_Tif (fun _ => ih n _ _ s (by omega) (by omega) h0 (by omega)) (fun _ => ih n _ _ s (by omega) (by omega) h0 (by omega)))
theorem m_unL102 {s : vS} (hl : 0 ≤ (s.1 151 14).toInt ∧ (s.1 151 14).toInt ≤ 10) {c d e : Int32} : ∀ (m n : Nat) (u v : Int32), (s.1 151 14).toInt ≤ v.toInt + m → 0 ≤ v.toInt → m < n → v_T (f_Md_under_L102 c d e (fun w13 s14 => (if c.toInt = 0 then (some (e, s14)) else (some (w13, s14)))) n u v s) (fun _ t => t = s) := by
  intro m
  induction m with
  | zero =>
    intro n u v hm hv hn
    obtain ⟨n, rfl⟩ : ∃ q, n = q + 1 := ⟨n - 1, by omega⟩
    unfold f_Md_under_L102
    show v_T (f_Md_under_L102b c d e _ (f_Md_under_L102 c d e _ n) u v s) _
    unfold f_Md_under_L102b
    rw [if_pos (by omega)]
    exact v_Tif (fun _ => v_Tret rfl) (fun _ => v_Tret rfl)
  | succ m ih =>
    intro n u v hm hv hn
    obtain ⟨n, rfl⟩ : ∃ q, n = q + 1 := ⟨n - 1, by omega⟩
    unfold f_Md_under_L102
    show v_T (f_Md_under_L102b c d e _ (f_Md_under_L102 c d e _ n) u v s) _
    unfold f_Md_under_L102b
    refine v_Tif (fun _ => v_Tif (fun _ => v_Tret rfl) (fun _ => v_Tret rfl)) (fun hc => ?_)
    have e1 := v_inc (x := v) (by omega)
    exact v_Tif (fun _ => v_Tck ⟨by omega, by omega⟩ (v_Tif (fun _ => ih n _ _ (by omega) (by omega) (by omega)) (fun _ => ih n _ _ (by omega) (by omega) (by omega)))) (fun _ => ih n _ _ (by omega) (by omega) (by omega))
theorem m_under (b c : Int32) (s : vS) (h : v_RQ s) : v_T (f_Md_under b c s) (fun _ t => v_F v_sd s t) := by
  have hl := h.1
  unfold f_Md_under
  refine v_TisLaw hl (fun hb => ?_) (v_Tret v_F_rf)
  refine v_Tin (fun _ => ?_) (fun _ => v_Tret v_F_rf)
  refine v_Tbi (m_isThere b s ⟨by omega, by omega⟩) ?_
  rintro _ _ ⟨rfl, _⟩
  refine v_Tif (fun _ => v_Tret v_F_rf) (fun _ => ?_)
  refine v_FTb v_F_rf (m_findAll _ h) (fun _ t ht => ?_)
  refine v_FTb ht (m_keepVerdicts _ t (v_RQ_F h ht).1) (fun _ t ht => ?_)
  refine m_unL47 hl (fun x t ht => ?_) 10 4096 0 0 t (by show _ ≤ (0 : Int) + 10; omega) (by decide) ht (by decide)
  refine v_FTb ht (m_findStands _ _ t (v_RQ_F h ht)) (fun _ t ht => ?_)
  refine v_Tbi (m_unlikeNow _ _ t (v_RQ_F h ht).1) ?_
  rintro r _ rfl
  have hl2 := (v_RQ_F h ht).1
  exact v_Tm (m_unL102 hl2 10 4096 0 0 (by show _ ≤ (0 : Int) + 10; omega) (by decide) (by decide)) (fun _ u e => by rw [e]; exact ht)
theorem m_of (b c : Int32) (s : vS) (h : v_RQ s) : v_T (f_Md_of b c s) (fun _ t => v_F v_sd s t) := by
  have hl := h.1
  unfold f_Md_of
  refine v_Tif (fun _ => ?_) (fun _ => ?_)
  · refine v_Tin (fun hb => ?_) (fun _ => v_Tret v_F_rf)
    have hb : 0 ≤ b.toInt ∧ b.toInt ≤ 2 := hb
    refine v_Tbi (m_meaning b s ⟨hb.1, by omega⟩) ?_
    rintro _ _ rfl
    exact v_Tret v_F_rf
  · refine v_Tin (fun _ => v_Tif (fun _ => v_Tif (fun _ => v_Tret v_F_rf) (fun _ => v_Tret v_F_rf)) (fun _ => v_Tret v_F_rf)) (fun _ => ?_)
    refine v_Tin (fun _ => ?_) (fun _ => v_Tret v_F_rf)
    refine v_TisLaw hl (fun hb => ?_) (v_Tret v_F_rf)
    refine v_FTb v_F_rf (m_findAll _ h) (fun _ t ht => ?_)
    have hbi : v_in b 11 := ⟨by omega, by omega⟩
    repeat' first
      | ((with_reducible refine v_Tret ?_); (focus exact ht))
      | ((with_reducible refine v_Tck ?_ ?_); (focus exact hbi))
      | with_reducible refine v_Tif (fun _ => ?_) (fun _ => ?_)
      | ((with_reducible refine v_Tbi (m_isThere b _ hbi) ?_); rintro _ _ ⟨rfl, _⟩)
theorem m_speaks (b c : Int32) (s : vS) (h : v_RQ s) : v_T (f_Md_speaks b c s) (fun _ t => v_F v_sd s t) := by
  have hl := h.1
  unfold f_Md_speaks
  refine v_TisLaw hl (fun hb => ?_) (v_Tret v_F_rf)
  refine v_Tbi (m_isCase c s) ?_
  rintro r _ ⟨rfl, _⟩
  refine v_Tif (fun _ => v_Tret v_F_rf) (fun _ => ?_)
  refine v_Tbi (m_caseOf ..) ?_
  rintro _ _ rfl
  refine v_FTb2 v_F_rf (m_speaksQ h v_F_rf hb _) (fun r t ht _ => ?_)
  exact v_Tif (fun _ => v_Tret ht) (fun _ => v_Tret ht)
theorem m_vdL {s : vS} (hl : 0 ≤ (s.1 151 14).toInt ∧ (s.1 151 14).toInt ≤ 10) {c w : Int32} (hc : 0 ≤ c.toInt ∧ c.toInt < 125) (hw : v_in w 11) : ∀ (m n : Nat) (u v : Int32), (s.1 151 14).toInt ≤ v.toInt + m → 0 ≤ v.toInt → m < n → v_T (f_Md_verdict_L74 c w (fun w10 s11 => (some (w10, s11))) n u v s) (fun _ t => t = s) := by
  intro m
  induction m with
  | zero =>
    intro n u v hm hv hn
    obtain ⟨n, rfl⟩ : ∃ q, n = q + 1 := ⟨n - 1, by omega⟩
    unfold f_Md_verdict_L74
    show v_T (f_Md_verdict_L74b c w _ (f_Md_verdict_L74 c w _ n) u v s) _
    unfold f_Md_verdict_L74b
    rw [if_pos (by omega)]
    exact v_Tret rfl
  | succ m ih =>
    intro n u v hm hv hn
    obtain ⟨n, rfl⟩ : ∃ q, n = q + 1 := ⟨n - 1, by omega⟩
    unfold f_Md_verdict_L74
    show v_T (f_Md_verdict_L74b c w _ (f_Md_verdict_L74 c w _ n) u v s) _
    unfold f_Md_verdict_L74b
    refine v_Tif (fun _ => v_Tret rfl) (fun hcn => ?_)
    have e1 := v_inc (x := v) (by omega)
    have e := m_125 (b := v) (v := c) ⟨by omega, by omega⟩ ⟨by omega, by omega⟩
    have hgo : ∀ u, v_T (f_Md_verdict_L74 c w (fun w10 s11 => (some (w10, s11))) n u (v + 1) s) (fun _ t => t = s) := fun u => ih n u _ (by omega) (by omega) (by omega)
    exact v_Tck ⟨by omega, by omega⟩ (v_Tif (fun _ => hgo _) (fun _ => v_Tck ⟨by omega, by omega⟩ (v_Tif (fun _ => hgo _) (fun _ => v_Tck ⟨by omega, by omega⟩ (v_Tck hw (v_Tif (fun _ => hgo _) (fun _ => hgo _)))))))
theorem m_verdict (b c : Int32) (s : vS) (h : v_RQ s) : v_T (f_Md_verdict b c s) (fun _ t => v_F v_sd s t) := by
  unfold f_Md_verdict
  refine v_Tbi (m_isCase b s) ?_
  rintro r _ ⟨rfl, hr⟩
  refine v_Tif (fun _ => v_Tret v_F_rf) (fun hn => ?_)
  have hk := hr.resolve_left hn
  refine v_Tin (fun _ => ?_) (fun _ => v_Tret v_F_rf)
  refine v_FTb v_F_rf (m_findAll _ h) (fun _ t ht => ?_)
  have hl := (v_RQ_F h ht).1
  unfold f_Md_caseOf
  rw [v_bi_some]
  refine v_Tbi (m_holder _ _ t hl hk) ?_
  rintro w _ ⟨rfl, hw⟩
  refine v_Tif (fun hw0 => ?_) (fun _ => v_Tret ht)
  refine v_Tif (fun _ => ?_) (fun _ => v_Tif (fun _ => v_Tck ⟨by omega, by omega⟩ (v_Tret ht)) (fun _ => v_Tret ht))
  exact v_Tm (m_vdL hl hk ⟨by omega, by omega⟩ 10 4096 0 0 (by show _ ≤ (0 : Int) + 10; omega) (by decide) (by decide)) (fun _ u e => by rw [e]; exact ht)
theorem m_struckBy (b : Int32) (s : vS) (hl : 0 ≤ (s.1 151 14).toInt ∧ (s.1 151 14).toInt ≤ 10) (hb : v_in b 11) : v_T (f_Md_struckBy b s) (fun r t => t = s ∧ r.toInt < 11) := by
  unfold f_Md_struckBy
  rw [if_pos hb]
  refine v_TisLaw hl (fun h1 => ?_) (v_Tret ⟨rfl, by decide⟩)
  rw [if_pos hb]
  refine v_Tbi (m_isThere _ s ⟨by omega, by omega⟩) ?_
  rintro _ _ ⟨rfl, _⟩
  exact v_Tif (fun _ => v_Tret ⟨rfl, by decide⟩) (fun _ => v_Tck hb (v_Tret ⟨rfl, by omega⟩))
theorem m_rgL32 {s : vS} (hl : 0 ≤ (s.1 151 14).toInt ∧ (s.1 151 14).toInt ≤ 10) {a b : Int32} {k : Int32 → vS → Option (Int32 × vS)} {Q : Int32 → vS → Prop} (hk : ∀ x, v_T (k x s) Q) : ∀ (m n : Nat) (u v : Int32), v.toInt + m = 10 → u.toInt < 11 → m < n → v_T (f_Md_rings_L32 a b k n u v s) Q := by
  intro m
  induction m with
  | zero =>
    intro n u v hm hu hn
    obtain ⟨n, rfl⟩ : ∃ q, n = q + 1 := ⟨n - 1, by omega⟩
    show v_T (f_Md_rings_L32b a b k (f_Md_rings_L32 a b k n) u v s) _
    unfold f_Md_rings_L32b
    rw [if_pos (by omega)]
    exact hk u
  | succ m ih =>
    intro n u v hm hu hn
    obtain ⟨n, rfl⟩ : ∃ q, n = q + 1 := ⟨n - 1, by omega⟩
    show v_T (f_Md_rings_L32b a b k (f_Md_rings_L32 a b k n) u v s) _
    unfold f_Md_rings_L32b
    have e1 := v_inc (x := v) (by omega)
    refine v_Tif (fun _ => hk u) (fun _ => v_Tif (fun _ => hk u) (fun hu0 => v_Tif (fun _ => hk u) (fun _ => ?_)))
    refine v_Tbi (m_struckBy u s hl ⟨by omega, by omega⟩) ?_
    rintro r _ ⟨rfl, hr⟩
    exact ih n r _ (by omega) hr (by omega)
theorem m_rgL4 {s : vS} (hl : 0 ≤ (s.1 151 14).toInt ∧ (s.1 151 14).toInt ≤ 10) : ∀ (m n : Nat) (u v : Int32), (s.1 151 14).toInt ≤ v.toInt + m → 0 ≤ v.toInt → m < n → v_T (f_Md_rings_L4 (fun w1 s2 => (some (w1, s2))) n u v s) (fun _ t => t = s) := by
  intro m
  induction m with
  | zero =>
    intro n u v hm hv hn
    obtain ⟨n, rfl⟩ : ∃ q, n = q + 1 := ⟨n - 1, by omega⟩
    unfold f_Md_rings_L4
    show v_T (f_Md_rings_L4b _ (f_Md_rings_L4 _ n) u v s) _
    unfold f_Md_rings_L4b
    rw [if_pos (by omega)]
    exact v_Tret rfl
  | succ m ih =>
    intro n u v hm hv hn
    obtain ⟨n, rfl⟩ : ∃ q, n = q + 1 := ⟨n - 1, by omega⟩
    unfold f_Md_rings_L4
    show v_T (f_Md_rings_L4b _ (f_Md_rings_L4 _ n) u v s) _
    unfold f_Md_rings_L4b
    refine v_Tif (fun _ => v_Tret rfl) (fun hcn => ?_)
    have e1 := v_inc (x := v) (by omega)
    refine v_Tbi (m_isThere v s ⟨hv, by omega⟩) ?_
    rintro _ _ ⟨rfl, _⟩
    refine v_Tif (fun _ => ih n _ _ (by omega) (by omega) (by omega)) (fun _ => ?_)
    refine v_Tbi (m_struckBy v _ hl ⟨hv, by omega⟩) ?_
    rintro r _ ⟨rfl, hr⟩
    refine m_rgL32 hl (fun x => ?_) 10 4096 r 0 (by decide) hr (by decide)
    exact v_Tif (fun _ => ih n _ _ (by omega) (by omega) (by omega)) (fun _ => ih n _ _ (by omega) (by omega) (by omega))
theorem m_rings (s : vS) (h : v_RQ s) : v_T (f_Md_rings s) (fun _ t => v_F v_sd s t) := by
  have hl := h.1
  unfold f_Md_rings
  exact v_Tm (m_rgL4 hl 10 4096 0 0 (by show _ ≤ (0 : Int) + 10; omega) (by decide) (by decide)) (fun _ u e => by rw [e]; exact v_F_rf)
theorem m_tmL {s : vS} (hl : 0 ≤ (s.1 151 14).toInt ∧ (s.1 151 14).toInt ≤ 10) : ∀ (m n : Nat) (u v : Int32), (s.1 151 14).toInt ≤ v.toInt + m → 0 ≤ v.toInt → m < n → v_T (f_Md_thereMany_L4 (fun w1 s2 => (some (w1, s2))) n u v s) (fun _ t => t = s) := by
  intro m
  induction m with
  | zero =>
    intro n u v hm hv hn
    obtain ⟨n, rfl⟩ : ∃ q, n = q + 1 := ⟨n - 1, by omega⟩
    unfold f_Md_thereMany_L4
    show v_T (f_Md_thereMany_L4b _ (f_Md_thereMany_L4 _ n) u v s) _
    unfold f_Md_thereMany_L4b
    rw [if_pos (by omega)]
    exact v_Tret rfl
  | succ m ih =>
    intro n u v hm hv hn
    obtain ⟨n, rfl⟩ : ∃ q, n = q + 1 := ⟨n - 1, by omega⟩
    unfold f_Md_thereMany_L4
    show v_T (f_Md_thereMany_L4b _ (f_Md_thereMany_L4 _ n) u v s) _
    unfold f_Md_thereMany_L4b
    refine v_Tif (fun _ => v_Tret rfl) (fun hcn => ?_)
    have e1 := v_inc (x := v) (by omega)
    refine v_Tbi (m_isThere v s ⟨hv, by omega⟩) ?_
    rintro _ _ ⟨rfl, _⟩
    exact v_Tif (fun _ => ih n _ _ (by omega) (by omega) (by omega)) (fun _ => ih n _ _ (by omega) (by omega) (by omega))
theorem m_snL {s : vS} (hl : 0 ≤ (s.1 151 14).toInt ∧ (s.1 151 14).toInt ≤ 10) : ∀ (m n : Nat) (u v : Int32), (s.1 151 14).toInt ≤ v.toInt + m → 0 ≤ v.toInt → m < n → v_T (f_Md_standing_L4 (fun w1 s2 => (some (w1, s2))) n u v s) (fun _ t => t = s) := by
  intro m
  induction m with
  | zero =>
    intro n u v hm hv hn
    obtain ⟨n, rfl⟩ : ∃ q, n = q + 1 := ⟨n - 1, by omega⟩
    unfold f_Md_standing_L4
    show v_T (f_Md_standing_L4b _ (f_Md_standing_L4 _ n) u v s) _
    unfold f_Md_standing_L4b
    rw [if_pos (by omega)]
    exact v_Tret rfl
  | succ m ih =>
    intro n u v hm hv hn
    obtain ⟨n, rfl⟩ : ∃ q, n = q + 1 := ⟨n - 1, by omega⟩
    unfold f_Md_standing_L4
    show v_T (f_Md_standing_L4b _ (f_Md_standing_L4 _ n) u v s) _
    unfold f_Md_standing_L4b
    refine v_Tif (fun _ => v_Tret rfl) (fun hcn => ?_)
    have e1 := v_inc (x := v) (by omega)
    exact v_Tck ⟨hv, by omega⟩ (v_Tif (fun _ => ih n _ _ (by omega) (by omega) (by omega)) (fun _ => ih n _ _ (by omega) (by omega) (by omega)))
theorem m_count (b : Int32) (s : vS) (h : v_RQ s) : v_T (f_Md_count b s) (fun _ t => v_F v_sd s t) := by
  have hl := h.1
  unfold f_Md_count
  refine v_Tif (fun _ => v_Tret v_F_rf) (fun _ => v_Tif (fun _ => v_Tret v_F_rf) (fun _ => v_Tif (fun _ => ?_) (fun _ => v_Tif (fun _ => ?_) (fun _ => v_Tif (fun _ => v_Tret v_F_rf) (fun _ => v_Tif (fun _ => v_Tret v_F_rf) (fun _ => v_Tif (fun _ => v_Tret v_F_rf) (fun _ => v_Tret v_F_rf)))))))
  · unfold f_Md_thereMany
    refine v_Tbi (m_tmL hl 10 4096 0 0 (by show _ ≤ (0 : Int) + 10; omega) (by decide) (by decide)) ?_
    rintro _ _ rfl
    exact v_Tret v_F_rf
  · unfold f_Md_countStanding f_Md_standing
    refine v_FTb v_F_rf (v_Tbi (P := fun _ t => v_F v_sd s t) (m_findStands _ _ s h) (fun _ t ht => ?_)) (fun _ t ht => v_Tret ht)
    have hl2 := (v_RQ_F h ht).1
    refine v_Tbi (m_snL hl2 10 4096 0 0 (by show _ ≤ (0 : Int) + 10; omega) (by decide) (by decide)) ?_
    rintro _ _ rfl
    exact v_Tret ht
/-! the reference: what its calls stand on, what they leave -/
def m_A (a j : Nat) : Prop := (a = 151 ∧ j < 40) ∨ (152 ≤ a ∧ a ≤ 178)
def m_B (a j : Nat) : Prop := (a = 151 ∧ 40 ≤ j) ∨ a = 179 ∨ a = 180
def m_S (a _ : Nat) : Prop := 181 ≤ a ∧ a ≤ 184
def v_RI (s : vS) : Prop := v_RQ s ∧ (0 ≤ (s.1 151 2).toInt ∧ (s.1 151 2).toInt ≤ 60) ∧ (0 ≤ (s.1 151 23).toInt ∧ 0 ≤ (s.1 151 24).toInt ∧ (s.1 151 23).toInt + (s.1 151 24).toInt ≤ 40) ∧ (∀ j, j < 40 → 0 ≤ (s.1 167 j).toInt ∧ (s.1 167 j).toInt ≤ 10) ∧ (0 ≤ (s.1 151 36).toInt ∧ (s.1 151 36).toInt ≤ 10) ∧ (0 ≤ (s.1 151 42).toInt ∧ (s.1 151 42).toInt ≤ 50) ∧ ∀ j, j < 6 → (s.1 181 j).toInt ≤ 49
theorem v_sd_A : ∀ a j, v_sd a j → m_A a j := fun a j h => by unfold v_sd at h; unfold m_A; omega
theorem v_RI_F {s t : vS} (h : v_RI s) (hf : v_F v_sd s t) : v_RI t := by
  obtain ⟨h1, h2, h3, h4, h5, h6, h7⟩ := h
  refine ⟨v_RQ_F h1 hf, ?_, ?_, fun j hj => ?_, ?_, ?_, fun j hj => ?_⟩
  · rw [(hf 151 2 (by unfold v_sd; omega)).1]; exact h2
  · rw [(hf 151 23 (by unfold v_sd; omega)).1, (hf 151 24 (by unfold v_sd; omega)).1]; exact h3
  · rw [(hf 167 j (by unfold v_sd; omega)).1]; exact h4 j hj
  · rw [(hf 151 36 (by unfold v_sd; omega)).1]; exact h5
  · rw [(hf 151 42 (by unfold v_sd; omega)).1]; exact h6
  · rw [(hf 181 j (by unfold v_sd; omega)).1]; exact h7 j hj
theorem m_quiet {α : Type} {s : vS} {o : Option (α × vS)} (h : v_RI s) (ho : v_RQ s → v_T o (fun _ t => v_F v_sd s t)) : v_T o (fun _ t => v_RI t ∧ v_F m_A s t) := v_Tm (ho h.1) (fun _ t ht => ⟨v_RI_F h ht, v_F_im ht v_sd_A⟩)
/-- the calls that change bodies or shelves -/
theorem v_RI_B {s t : vS} (h : v_RI s) (hf : v_F m_B s t) (h6 : 0 ≤ (t.1 151 42).toInt ∧ (t.1 151 42).toInt ≤ 50) : v_RI t := by
  obtain ⟨⟨a1, a2, a3⟩, h2, h3, h4, h5, -, h7⟩ := h
  have e1 : t.1 151 14 = s.1 151 14 := (hf 151 14 (by unfold m_B; omega)).1
  refine ⟨⟨by rw [e1]; exact a1, fun j hj => ?_, fun p hp => ?_⟩, ?_, ?_, fun j hj => ?_, ?_, h6, fun j hj => ?_⟩
  · rw [(hf 182 j (by unfold m_B; omega)).1]; exact a2 j hj
  · rw [e1] at hp
    obtain ⟨acc, ha⟩ := a3 p hp
    exact ⟨acc, m_text_eq ha (hf 155 p (by unfold m_B; omega)).1 (fun j _ _ => ⟨(hf 153 j (by unfold m_B; omega)).1, (hf 154 j (by unfold m_B; omega)).1⟩) (fun j _ _ => ⟨(hf 156 j (by unfold m_B; omega)).1, (hf 157 j (by unfold m_B; omega)).1⟩)⟩
  · rw [(hf 151 2 (by unfold m_B; omega)).1]; exact h2
  · rw [(hf 151 23 (by unfold m_B; omega)).1, (hf 151 24 (by unfold m_B; omega)).1]; exact h3
  · rw [(hf 167 j (by unfold m_B; omega)).1]; exact h4 j hj
  · rw [(hf 151 36 (by unfold m_B; omega)).1]; exact h5
  · rw [(hf 181 j (by unfold m_B; omega)).1]; exact h7 j hj
theorem v_RI_S {s t : vS} (h : v_RI s) (hf : v_F m_S s t) (hz : ∀ j, j < 6 → 0 ≤ (t.1 182 j).toInt ∧ (t.1 182 j).toInt ≤ 60) (hh : ∀ j, j < 6 → (t.1 181 j).toInt ≤ 49) : v_RI t := by
  obtain ⟨⟨a1, a2, a3⟩, h2, h3, h4, h5, h6, h7⟩ := h
  have e1 : t.1 151 14 = s.1 151 14 := (hf 151 14 (by unfold m_S; omega)).1
  refine ⟨⟨by rw [e1]; exact a1, hz, fun p hp => ?_⟩, ?_, ?_, fun j hj => ?_, ?_, ?_, hh⟩
  · rw [e1] at hp
    obtain ⟨acc, ha⟩ := a3 p hp
    exact ⟨acc, m_text_eq ha (hf 155 p (by unfold m_S; omega)).1 (fun j _ _ => ⟨(hf 153 j (by unfold m_S; omega)).1, (hf 154 j (by unfold m_S; omega)).1⟩) (fun j _ _ => ⟨(hf 156 j (by unfold m_S; omega)).1, (hf 157 j (by unfold m_S; omega)).1⟩)⟩
  · rw [(hf 151 2 (by unfold m_S; omega)).1]; exact h2
  · rw [(hf 151 23 (by unfold m_S; omega)).1, (hf 151 24 (by unfold m_S; omega)).1]; exact h3
  · rw [(hf 167 j (by unfold m_S; omega)).1]; exact h4 j hj
  · rw [(hf 151 36 (by unfold m_S; omega)).1]; exact h5
  · rw [(hf 151 42 (by unfold m_S; omega)).1]; exact h6
theorem m_isBody (b : Int32) (s : vS) (h : 0 ≤ (s.1 151 42).toInt ∧ (s.1 151 42).toInt ≤ 50) : f_Md_isBody b s = some (v_b (0 ≤ b.toInt ∧ b.toInt < (s.1 151 42).toInt), s) := by
  have e : (s.1 151 42 - 1).toInt = (s.1 151 42).toInt - 1 := v_sub (y := 1) (show -2147483648 ≤ (s.1 151 42).toInt - 1 by omega) (show (s.1 151 42).toInt - 1 < 2147483648 by omega)
  unfold f_Md_isBody
  rw [m_in, v_bi_some, if_pos v_b01, e]
  have e2 : ((0 : Int32).toInt ≤ b.toInt ∧ b.toInt ≤ (s.1 151 42).toInt - 1) = (0 ≤ b.toInt ∧ b.toInt < (s.1 151 42).toInt) := propext ⟨fun q => ⟨q.1, by omega⟩, fun q => ⟨q.1, by omega⟩⟩
  simp only [e2]
theorem v_TisBody {α : Type} {b : Int32} {s : vS} (h : 0 ≤ (s.1 151 42).toInt ∧ (s.1 151 42).toInt ≤ 50) {X Y : vS → Option (α × vS)} {Q : α → vS → Prop} (h1 : 0 ≤ b.toInt ∧ b.toInt < (s.1 151 42).toInt → v_T (Y s) Q) (h2 : ¬ (0 ≤ b.toInt ∧ b.toInt < (s.1 151 42).toInt) → v_T (X s) Q) : v_T (v_bi (f_Md_isBody b s) (fun r s => if r.toInt = 0 then X s else Y s)) Q := by
  rw [m_isBody b s h, v_bi_some, v_bif]
  exact v_Tif h1 h2
theorem m_body (b : Int32) (s : vS) (h : v_RI s) : v_T (f_Md_body b s) (fun _ t => v_RI t ∧ v_F m_B s t) := by
  have h6 := h.2.2.2.2.2.1
  unfold f_Md_body
  refine v_Tin (fun _ => ?_) (fun _ => v_Tret ⟨h, v_F_rf⟩)
  refine v_Tif (fun _ => v_Tret ⟨h, v_F_rf⟩) (fun hc => v_Tck ⟨by omega, by omega⟩ (v_Tlet (v_Tlet (v_Tret ?_))))
  have hf : v_F m_B s (v_w1 (v_w1 s 179 (Int32.toNatClampNeg (s.1 151 42)) b) 151 42 ((v_w1 s 179 (Int32.toNatClampNeg (s.1 151 42)) b).1 151 42 + 1)) := v_F_w1 (v_F_w1 v_F_rf (by unfold m_B; omega)) (by unfold m_B; omega)
  refine ⟨v_RI_B h hf ?_, hf⟩
  rw [v_w1_1, if_pos ⟨rfl, rfl⟩, v_w1_1, if_neg (by omega), v_inc (by omega)]
  omega
/-- bodies of acts: at most c of them run -/
def m_ac (c : Int) (s t : vS) : Prop := v_F (fun a j => (a = 151 ∧ j = 44) ∨ a = 180) s t ∧ 0 ≤ (t.1 151 44).toInt ∧ (t.1 151 44).toInt ≤ (s.1 151 44).toInt + c
def m_acO {α : Type} (c : Int) (o : vS → Option (α × vS)) : Prop := ∀ s, 0 ≤ (s.1 151 44).toInt → (s.1 151 44).toInt + c ≤ 1000 → v_T (o s) (fun _ t => m_ac c s t)
theorem m_acB {α β : Type} {c d e : Int} {s0 s : vS} {o : vS → Option (α × vS)} {k : α → vS → Option (β × vS)} (h : m_ac c s0 s) (hs : (s0.1 151 44).toInt + c + d ≤ 1000) (ho : m_acO d o) (hk : ∀ r t, m_ac (c + d) s0 t → v_T (k r t) (fun _ u => m_ac e s0 u)) : v_T (v_bi (o s) k) (fun _ u => m_ac e s0 u) :=
  v_Tbi (ho s h.2.1 (by have := h.2.2; omega)) (fun r t ht => hk r t ⟨v_F_tr h.1 ht.1, ht.2.1, by have h1 := ht.2.2; have h2 := h.2.2; omega⟩)
theorem m_acR {s : vS} (h : 0 ≤ (s.1 151 44).toInt) : m_ac 0 s s := ⟨v_F_rf, h, by omega⟩
theorem m_acE {α : Type} {c e : Int} {s0 s : vS} {x : α} (h : m_ac c s0 s) (hc : c ≤ e) : v_T (some (x, s)) (fun _ u => m_ac e s0 u) := v_Tret ⟨h.1, h.2.1, by have := h.2.2; omega⟩
theorem m_ran (b : Int32) : m_acO 1 (f_Md_ran b) := fun s h0 h1 => by
  have e := v_inc (x := s.1 151 44) (by omega)
  unfold f_Md_ran
  refine v_Tif (fun _ => v_Tlet (v_Tret ⟨v_F_w1 v_F_rf (Or.inl ⟨rfl, rfl⟩), ?_⟩)) (fun hc => v_Tck ⟨h0, by omega⟩ (v_Tlet (v_Tlet (v_Tret ⟨v_F_w1 (v_F_w1 v_F_rf (Or.inr rfl)) (Or.inl ⟨rfl, rfl⟩), ?_⟩))))
  · rw [v_w1_1, if_pos ⟨rfl, rfl⟩, e]
    omega
  · rw [v_w1_1, if_pos ⟨rfl, rfl⟩, v_w1_1, if_neg (by omega), e]
    omega
