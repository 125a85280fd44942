/-! every call of the class keeps what it has heard in order -/
/-- what hearing needs -/
def j_Hh (s : vS) : Prop := v_KQ s ∧ j_num s ∧ 0 ≤ (s.1 8 3).toInt ∧ (∀ k, k < (s.1 8 1).toInt.toNat → -1 ≤ (stK s k).toInt ∧ (stK s k).toInt ≤ 9) ∧ h_tx s
theorem j_Hh_of {s t : vS} (h : j_R s t) (hR : v_RI t) (hK : v_KQ s) : j_Hh s := by
  have hm := hR.1.1
  have em : s.1 8 1 = t.1 151 14 := h.1
  refine ⟨hK, h.2.2.1, (h.2.2.2.2.2.2.2.2.2.2.1.2.2.2.2.2 rfl).1, fun k hk => (h.2.2.2.2.2.2.2.2.2.1 k (by omega) (by rw [em] at hk; omega)).2.2.2.2.1 rfl, fun k hk hk9 => ?_⟩
  obtain ⟨acc, a1, a2⟩ := h.2.2.2.2.2.1 k hk hk9
  exact ⟨acc, a2, a1.2.2.2.2.2⟩
theorem kH {s : vS} (h : j_Hh s) (h2 : j_2 s) : v_P (f_Ct_hear s) (fun _ u => v_F hx_S s u ∧ j_2 u) := by
  refine v_Pm2 (y_hearV s h.1 h.2.1 h.2.2.1 h.2.2.2.1 h.2.2.2.2 (j_wr_wr h2.2.1) h2.1) (fun _ u hu => ⟨hu.1.1, hu.1.2.1, fun w hw => ?_, j_alE h2.2.2 (hu.1.1 79 0 (by unfold hx_S hx_R; omega)).1 (fun j => (hu.1.1 85 j (by unfold hx_S hx_R; omega)).2)⟩)
  rw [(hu.1.1 10 w (by unfold hx_S hx_R; omega)).1, (hu.1.1 12 w (by unfold hx_S hx_R; omega)).1]
  exact h2.2.1 w hw
def hx_T (a j : Nat) : Prop := hx_S a j ∨ hx_U a j ∨ (a = 10 ∨ a = 11) ∨ (23 ≤ a ∧ a ≤ 68 ∧ a % 5 = 3 ∧ j = 1)
theorem j_Hh_T {s t : vS} (h : j_Hh s) (hF : v_F hx_T s t) : j_Hh t := by
  obtain ⟨⟨h1, h2⟩, h3, h4, h5, h6⟩ := h
  have hx : ∀ a j, (a = 8 ∧ j ≤ 3) ∨ (23 ≤ a ∧ a ≤ 72 ∧ ((a % 5 = 3 ∧ j ≤ 5 ∧ ¬ j = 1) ∨ a % 5 = 4 ∨ a % 5 = 0)) ∨ a = 136 ∨ 139 ≤ a → t.1 a j = s.1 a j := fun a j q => (hF a j (fun z => by unfold hx_T hx_S hx_R hx_U at z; omega)).1
  have e8 := hx 8 1 (by omega)
  refine ⟨⟨by rw [e8]; exact h1, fun a ha => ?_⟩, fun k hk => ?_, by rw [hx 8 3 (by omega)]; exact h4, fun k hk => ?_, fun k hk hk9 => ?_⟩
  · have h9 := v_k6 ha
    rw [hx a 2 (by omega)]
    exact h2 a ha
  · rw [hx _ _ (by omega)]
    exact h3 k hk
  · rw [e8] at hk
    show -1 ≤ (t.1 (23 + 5 * k) 3).toInt ∧ (t.1 (23 + 5 * k) 3).toInt ≤ 9
    rw [hx _ _ (by omega)]
    exact h5 k hk
  · rw [e8] at hk
    obtain ⟨acc, a1, a2⟩ := h6 k hk hk9
    exact ⟨acc, c_textE a1 (hx _ _ (by omega)) (fun j => hx _ _ (by omega)), a2⟩
theorem k_b {α β : Type} {s : vS} {o : Option (α × vS)} {k : α → vS → Option (β × vS)} {Q : β → vS → Prop} (h : j_2 s) (hc : v_P o (fun _ t => v_F hx_U s t)) (hk : ∀ r t, j_2 t → v_P (k r t) Q) : v_P (v_bi o k) Q := v_Pbi hc (fun r t ht => hk r t (j_2U h ht))
theorem k_L {α : Type} {s : vS} {o : Option (α × vS)} (h : j_2 s) (hc : v_P o (fun _ t => v_F hx_U s t)) : v_P o (fun _ t => j_2 t) := v_Pm2 hc (fun _ _ hz => j_2U h hz)
theorem k_ofLaw (b c : Int32) (s : vS) (h : j_Hh s) (h2 : j_2 s) : v_P (f_Ol_ofLaw b c s) (fun _ t => j_2 t) := by
  unfold f_Ol_ofLaw
  repeat' first
    | with_reducible exact v_Pnone
    | ((with_reducible refine v_Pret ?_); (focus first | assumption | exact rfl))
    | with_reducible refine v_Pif (fun _ => ?_) (fun _ => ?_)
    | with_reducible refine v_Pon (fun _ => ?_) (fun _ _ => ?_)
    | with_reducible refine w_w1 (by assumption) (by first | assumption | (unfold hx_U; omega) | (unfold hx_N jb_k; omega)) (fun _ _ => ?_)
    | with_reducible refine w_w2 (by assumption) (by first | assumption | (unfold hx_U; omega) | (unfold hx_N jb_k; omega)) (fun _ _ => ?_)
    | ((with_reducible refine v_Pbi (kH h h2) ?_); rintro _ _ ⟨_, _⟩)
    | ((with_reducible refine v_Pbi (v_PT (n_isThere ..)) ?_); rintro _ _ ⟨rfl, _⟩)
    | ((with_reducible refine v_Pbi (v_PT (n_isStanding ..)) ?_); rintro _ _ rfl)
    | ((with_reducible refine v_Pbi (v_PT (n_at ..)) ?_); rintro _ _ ⟨rfl, _⟩)
    | ((with_reducible refine v_Pbi (v_PT (n_size ..)) ?_); rintro _ _ rfl)
    | ((with_reducible refine v_Pbi (v_PT (n_valueOf ..)) ?_); rintro _ _ rfl)
theorem k_of (b c : Int32) (s : vS) (h : j_Hh s) (h2 : j_2 s) : v_P (f_Ol_of b c s) (fun _ t => j_2 t) := by
  unfold f_Ol_of
  repeat' first
    | with_reducible exact v_Pnone
    | ((with_reducible refine v_Pret ?_); (focus first | assumption | exact rfl))
    | with_reducible refine v_Pif (fun _ => ?_) (fun _ => ?_)
    | with_reducible refine v_Pon (fun _ => ?_) (fun _ _ => ?_)
    | with_reducible refine w_w1 (by assumption) (by first | assumption | (unfold hx_U; omega) | (unfold hx_N jb_k; omega)) (fun _ _ => ?_)
    | with_reducible refine w_w2 (by assumption) (by first | assumption | (unfold hx_U; omega) | (unfold hx_N jb_k; omega)) (fun _ _ => ?_)
    | ((with_reducible refine v_Pbi (k_ofLaw _ _ _ h h2) ?_); rintro _ _ _)
    | ((with_reducible refine v_Pbi (v_PT (n_isWord ..)) ?_); rintro _ _ rfl)
    | ((with_reducible refine v_Pbi (v_PT (n_meaning ..)) ?_); rintro _ _ rfl)
    | ((with_reducible refine v_Pbi (v_PT (n_knows ..)) ?_); rintro _ _ rfl)
theorem k_speaks (b c : Int32) (s : vS) (h : j_Hh s) (h2 : j_2 s) : v_P (f_Ol_speaks b c s) (fun _ t => j_2 t) := by
  unfold f_Ol_speaks
  repeat' first
    | with_reducible exact v_Pnone
    | ((with_reducible refine v_Pret ?_); (focus first | assumption | exact rfl))
    | with_reducible refine v_Pif (fun _ => ?_) (fun _ => ?_)
    | with_reducible refine v_Pon (fun _ => ?_) (fun _ _ => ?_)
    | with_reducible refine w_w1 (by assumption) (by first | assumption | (unfold hx_U; omega) | (unfold hx_N jb_k; omega)) (fun _ _ => ?_)
    | with_reducible refine w_w2 (by assumption) (by first | assumption | (unfold hx_U; omega) | (unfold hx_N jb_k; omega)) (fun _ _ => ?_)
    | ((with_reducible refine v_Pbi (kH h h2) ?_); rintro _ _ ⟨_, _⟩)
    | ((with_reducible refine v_Pbi (v_PT (n_placeOf ..)) ?_); rintro _ _ rfl)
    | ((with_reducible refine v_Pbi (v_PT (n_knows ..)) ?_); rintro _ _ rfl)
    | ((with_reducible refine v_Pbi (v_PT (n_at ..)) ?_); rintro _ _ ⟨rfl, _⟩)
    | ((with_reducible refine v_Pbi (v_PT (n_has ..)) ?_); rintro _ _ rfl)
theorem k_verdict (b c : Int32) (s : vS) (h : j_Hh s) (h2 : j_2 s) : v_P (f_Ol_verdict b c s) (fun _ t => j_2 t) := by
  unfold f_Ol_verdict
  repeat' first
    | with_reducible exact v_Pnone
    | ((with_reducible refine v_Pret ?_); (focus first | assumption | exact rfl))
    | with_reducible refine v_Pif (fun _ => ?_) (fun _ => ?_)
    | with_reducible refine v_Pon (fun _ => ?_) (fun _ _ => ?_)
    | with_reducible refine w_w1 (by assumption) (by first | assumption | (unfold hx_U; omega) | (unfold hx_N jb_k; omega)) (fun _ _ => ?_)
    | with_reducible refine w_w2 (by assumption) (by first | assumption | (unfold hx_U; omega) | (unfold hx_N jb_k; omega)) (fun _ _ => ?_)
    | ((with_reducible refine v_Pbi (kH h h2) ?_); rintro _ _ ⟨_, _⟩)
    | ((with_reducible refine v_Pbi (v_PT (n_placeOf ..)) ?_); rintro _ _ rfl)
    | ((with_reducible refine v_Pbi (zq_holder ..) ?_); rintro _ _ rfl)
    | ((with_reducible refine v_Pbi (zq_beatenBy ..) ?_); rintro _ _ rfl)
theorem k_judge (b : Int32) (s : vS) (h : j_Hh s) (h2 : j_2 s) : v_P (f_Ol_judge b s) (fun _ t => j_2 t) := by
  unfold f_Ol_judge
  repeat' first
    | with_reducible exact v_Pnone
    | ((with_reducible refine v_Pret ?_); (focus first | assumption | exact rfl))
    | with_reducible refine v_Pif (fun _ => ?_) (fun _ => ?_)
    | with_reducible refine v_Pon (fun _ => ?_) (fun _ _ => ?_)
    | with_reducible refine w_w1 (by assumption) (by first | assumption | (unfold hx_U; omega) | (unfold hx_N jb_k; omega)) (fun _ _ => ?_)
    | with_reducible refine w_w2 (by assumption) (by first | assumption | (unfold hx_U; omega) | (unfold hx_N jb_k; omega)) (fun _ _ => ?_)
    | ((with_reducible refine v_Pbi (kH h h2) ?_); rintro _ _ ⟨_, _⟩)
    | ((with_reducible refine v_Pbi (v_PT (n_told ..)) ?_); rintro _ _ rfl)
    | ((with_reducible refine v_Pbi (v_PT (n_shelfAt ..)) ?_); rintro _ _ ⟨rfl, _⟩)
    | ((with_reducible refine v_Pbi (zq_firstWrong ..) ?_); rintro _ _ rfl)
theorem k_never (s : vS) (h : j_Hh s) (h2 : j_2 s) : v_P (f_Ol_never s) (fun _ t => j_2 t) := by
  unfold f_Ol_never
  refine v_Pbi (kH h h2) ?_
  rintro _ u ⟨_, hu⟩
  refine v_Pm2 (zq_neverL (fun x s => ?_) 4096 0 0 u) (fun _ _ hz => by rw [hz]; exact hu)
  repeat' first
    | with_reducible exact v_Pnone
    | ((with_reducible refine v_Pret ?_); (focus first | assumption | exact rfl))
    | with_reducible refine v_Pif (fun _ => ?_) (fun _ => ?_)
    | with_reducible refine v_Pon (fun _ => ?_) (fun _ _ => ?_)
    | with_reducible refine w_w1 (by assumption) (by first | assumption | (unfold hx_U; omega) | (unfold hx_N jb_k; omega)) (fun _ _ => ?_)
    | with_reducible refine w_w2 (by assumption) (by first | assumption | (unfold hx_U; omega) | (unfold hx_N jb_k; omega)) (fun _ _ => ?_)
    | ((with_reducible refine v_Pbi (v_PT (n_numbers ..)) ?_); rintro _ _ rfl)
theorem k_clash (b c : Int32) (s : vS) (h : j_Hh s) (h2 : j_2 s) : v_P (f_Ol_clash b c s) (fun _ t => j_2 t) := by
  unfold f_Ol_clash
  repeat' first
    | with_reducible exact v_Pnone
    | ((with_reducible refine v_Pret ?_); (focus first | assumption | exact rfl))
    | with_reducible refine v_Pif (fun _ => ?_) (fun _ => ?_)
    | with_reducible refine v_Pon (fun _ => ?_) (fun _ _ => ?_)
    | with_reducible refine w_w1 (by assumption) (by first | assumption | (unfold hx_U; omega) | (unfold hx_N jb_k; omega)) (fun _ _ => ?_)
    | with_reducible refine w_w2 (by assumption) (by first | assumption | (unfold hx_U; omega) | (unfold hx_N jb_k; omega)) (fun _ _ => ?_)
    | ((with_reducible refine v_Pbi (kH h h2) ?_); rintro _ _ ⟨_, _⟩)
    | with_reducible refine k_b (by assumption) (w_Clear 138 hx_138 _) (fun _ _ _ => ?_)
    | with_reducible refine k_b (by assumption) (w_TakeBoth 138 _ _ hx_138 _) (fun _ _ _ => ?_)
    | ((with_reducible refine v_Pbi (v_PT (n_isEither ..)) ?_); rintro _ _ rfl)
    | ((with_reducible refine v_Pbi (v_PT (n_isThere ..)) ?_); rintro _ _ ⟨rfl, _⟩)
    | ((with_reducible refine v_Pbi (v_PT (n_at ..)) ?_); rintro _ _ ⟨rfl, _⟩)
    | ((with_reducible refine v_Pbi (v_PT (n_first ..)) ?_); rintro _ _ rfl)
    | ((with_reducible refine v_Pbi (v_PT (n_size ..)) ?_); rintro _ _ rfl)
theorem k_write (b c d : Int32) (s : vS) (h : j_Hh s) (h2 : j_2 s) : v_P (f_Ol_write b c d s) (fun _ t => j_2 t) := by
  unfold f_Ol_write
  repeat' first
    | with_reducible exact v_Pnone
    | ((with_reducible refine v_Pret ?_); (focus first | assumption | exact rfl))
    | with_reducible refine v_Pif (fun _ => ?_) (fun _ => ?_)
    | with_reducible refine v_Pon (fun _ => ?_) (fun _ _ => ?_)
    | with_reducible refine w_w1 (by assumption) (by first | assumption | (unfold hx_U; omega) | (unfold hx_N jb_k; omega)) (fun _ _ => ?_)
    | with_reducible refine w_w2 (by assumption) (by first | assumption | (unfold hx_U; omega) | (unfold hx_N jb_k; omega)) (fun _ _ => ?_)
    | ((with_reducible refine v_Pbi (kH h h2) ?_); rintro _ _ ⟨_, _⟩)
    | with_reducible refine k_b (by assumption) (w_prepare ..) (fun _ _ _ => ?_)
    | with_reducible refine k_b (by assumption) (w_firstFitting ..) (fun _ _ _ => ?_)
    | ((with_reducible refine v_Pbi (v_PT (n_new ..)) ?_); rintro _ _ rfl)
    | ((with_reducible refine v_Pbi (v_PT (n_shelfAt ..)) ?_); rintro _ _ ⟨rfl, _⟩)
    | ((with_reducible refine v_Pbi (zq_allTwos ..) ?_); rintro _ _ rfl)
theorem k_bars (b c d : Int32) (s : vS) (h : j_Hh s) (h2 : j_2 s) : v_P (f_Ol_bars b c d s) (fun _ t => j_2 t) := by
  unfold f_Ol_bars
  repeat' first
    | with_reducible exact v_Pnone
    | ((with_reducible refine v_Pret ?_); (focus first | assumption | exact rfl))
    | with_reducible refine v_Pif (fun _ => ?_) (fun _ => ?_)
    | with_reducible refine v_Pon (fun _ => ?_) (fun _ _ => ?_)
    | with_reducible refine w_w1 (by assumption) (by first | assumption | (unfold hx_U; omega) | (unfold hx_N jb_k; omega)) (fun _ _ => ?_)
    | with_reducible refine w_w2 (by assumption) (by first | assumption | (unfold hx_U; omega) | (unfold hx_N jb_k; omega)) (fun _ _ => ?_)
    | ((with_reducible refine v_Pbi (kH h h2) ?_); rintro _ _ ⟨_, _⟩)
    | with_reducible refine k_b (by assumption) (w_prepare ..) (fun _ _ _ => ?_)
    | with_reducible refine k_b (by assumption) (w_barring ..) (fun _ _ _ => ?_)
    | ((with_reducible refine v_Pbi (v_PT (n_new ..)) ?_); rintro _ _ rfl)
    | ((with_reducible refine v_Pbi (v_PT (n_shelfAt ..)) ?_); rintro _ _ ⟨rfl, _⟩)
theorem k_false (b : Int32) (s : vS) (h : j_Hh s) (h2 : j_2 s) : v_P (f_Ol_falseOnes b s) (fun _ t => j_2 t) := by
  unfold f_Ol_falseOnes
  repeat' first
    | with_reducible exact v_Pnone
    | ((with_reducible refine v_Pret ?_); (focus first | assumption | exact rfl))
    | with_reducible refine v_Pif (fun _ => ?_) (fun _ => ?_)
    | with_reducible refine v_Pon (fun _ => ?_) (fun _ _ => ?_)
    | with_reducible refine w_w1 (by assumption) (by first | assumption | (unfold hx_U; omega) | (unfold hx_N jb_k; omega)) (fun _ _ => ?_)
    | with_reducible refine w_w2 (by assumption) (by first | assumption | (unfold hx_U; omega) | (unfold hx_N jb_k; omega)) (fun _ _ => ?_)
    | ((with_reducible refine v_Pbi (kH h h2) ?_); rintro _ _ ⟨_, _⟩)
    | with_reducible exact k_L (by assumption) (w_falL (fun x t ht => v_Pret ht) 4096 _ _ _ _ v_F_rf)
    | ((with_reducible refine v_Pbi (v_PT (n_told ..)) ?_); rintro _ _ rfl)
    | ((with_reducible refine v_Pbi (v_PT (n_shelfAt ..)) ?_); rintro _ _ ⟨rfl, _⟩)
    | ((with_reducible refine v_Pbi (zq_allTwos ..) ?_); rintro _ _ rfl)
    | ((with_reducible refine v_Pbi (v_PT (n_numbers ..)) ?_); rintro _ _ rfl)
theorem k_unlike (b c : Int32) (s : vS) (h : j_Hh s) (h2 : j_2 s) : v_P (f_Ol_unlike b c s) (fun _ t => j_2 t) := by
  have hk : ∀ s0 t : vS, v_F hx_U s0 t → v_P (if c.toInt = 0 then (v_bi (f_Cs_size 138 t) (fun r12 s12 => (some (r12, s12)))) else (v_bi (f_Cs_first 138 t) (fun r13 s13 => (some (r13, s13))))) (fun _ u => v_F hx_U s0 u) := fun s0 t ht => by
    repeat' first
      | with_reducible exact v_Pnone
      | ((with_reducible refine v_Pret ?_); (focus first | assumption | exact rfl))
      | with_reducible refine v_Pif (fun _ => ?_) (fun _ => ?_)
      | with_reducible refine v_Pon (fun _ => ?_) (fun _ _ => ?_)
      | with_reducible refine w_w1 (by assumption) (by first | assumption | (unfold hx_U; omega) | (unfold hx_N jb_k; omega)) (fun _ _ => ?_)
      | with_reducible refine w_w2 (by assumption) (by first | assumption | (unfold hx_U; omega) | (unfold hx_N jb_k; omega)) (fun _ _ => ?_)
      | ((with_reducible refine v_Pbi (v_PT (n_size ..)) ?_); rintro _ _ rfl)
      | ((with_reducible refine v_Pbi (v_PT (n_first ..)) ?_); rintro _ _ rfl)
  unfold f_Ol_unlike
  repeat' first
    | with_reducible exact v_Pnone
    | ((with_reducible refine v_Pret ?_); (focus first | assumption | exact rfl))
    | with_reducible refine v_Pif (fun _ => ?_) (fun _ => ?_)
    | with_reducible refine v_Pon (fun _ => ?_) (fun _ _ => ?_)
    | with_reducible refine w_w1 (by assumption) (by first | assumption | (unfold hx_U; omega) | (unfold hx_N jb_k; omega)) (fun _ _ => ?_)
    | with_reducible refine w_w2 (by assumption) (by first | assumption | (unfold hx_U; omega) | (unfold hx_N jb_k; omega)) (fun _ _ => ?_)
    | ((with_reducible refine v_Pbi (kH h h2) ?_); rintro _ _ ⟨_, _⟩)
    | with_reducible refine k_b (by assumption) (w_Clear 138 hx_138 _) (fun _ _ _ => ?_)
    | with_reducible exact k_L (by assumption) (w_unlL (fun t ht => hk _ t ht) 4096 _ _ v_F_rf)
    | ((with_reducible refine v_Pbi (v_PT (n_isRule ..)) ?_); rintro _ _ rfl)
    | ((with_reducible refine v_Pbi (v_PT (n_isEither ..)) ?_); rintro _ _ rfl)
theorem k_count (b : Int32) (s : vS) (h : j_Hh s) (h2 : j_2 s) : v_P (f_Ol_count b s) (fun _ t => j_2 t) := by
  unfold f_Ol_count
  repeat' first
    | with_reducible exact v_Pnone
    | ((with_reducible refine v_Pret ?_); (focus first | assumption | exact rfl))
    | with_reducible refine v_Pif (fun _ => ?_) (fun _ => ?_)
    | with_reducible refine v_Pon (fun _ => ?_) (fun _ _ => ?_)
    | with_reducible refine w_w1 (by assumption) (by first | assumption | (unfold hx_U; omega) | (unfold hx_N jb_k; omega)) (fun _ _ => ?_)
    | with_reducible refine w_w2 (by assumption) (by first | assumption | (unfold hx_U; omega) | (unfold hx_N jb_k; omega)) (fun _ _ => ?_)
    | ((with_reducible refine v_Pbi (kH h h2) ?_); rintro _ _ ⟨_, _⟩)
    | ((with_reducible refine v_Pbi (zq_there ..) ?_); rintro _ _ rfl)
    | ((with_reducible refine v_Pbi (v_PT (n_In ..)) ?_); rintro _ _ rfl)
/-! words moved, and a date, for a while -/
def jb_s (a j : Nat) : Prop := (a = 8 ∧ j = 1) ∨ (23 ≤ a ∧ a ≤ 72 ∧ ((a % 5 = 3 ∧ (j = 0 ∨ (6 ≤ j ∧ j ≤ 8))) ∨ (a % 5 = 4 ∧ j = 2) ∨ a % 5 = 0 ∨ a % 5 = 2))
theorem j_spS {s t : vS} (h : j_sp s) (hx : ∀ a j, jb_s a j → t.1 a j = s.1 a j ∧ t.2 a j = s.2 a j) : j_sp t := by
  intro k hk
  obtain ⟨h1, h2⟩ := h k hk
  rw [(hx 8 1 (by unfold jb_s; omega)).1]
  refine ⟨fun q => h_caE (h1 q) (fun a j q2 => (hx a j (by unfold hx_C at q2; unfold jb_s; omega)).1) (fun j => (hx _ j (by unfold jb_s; omega)).2), fun q => ?_⟩
  rw [(hx (23 + 5 * k) 7 (by unfold jb_s; omega)).1]
  exact h2 q
theorem j_2mv {s : vS} (h : j_2 s) {n : Nat} {x y : Int32} (hx : x.toInt ≤ 2) : j_2 (v_w1 (v_w1 s 10 n x) 11 n y) := by
  refine ⟨j_spS h.1 (fun a j q => ⟨by rw [v_w1_1, if_neg (by unfold jb_s at q; omega), v_w1_1, if_neg (by unfold jb_s at q; omega)], rfl⟩), fun w hw => ⟨?_, ?_⟩, j_alE h.2.2 (by rw [v_w1_1, if_neg (by omega), v_w1_1, if_neg (by omega)]) (fun _ => rfl)⟩
  · rw [v_w1_1, if_neg (by omega), v_w1_1]
    by_cases c : (10 : Nat) = 10 ∧ w = n
    · rw [if_pos c]; exact hx
    · rw [if_neg c]; exact (h.2.1 w hw).1
  · rw [v_w1_1, if_neg (by omega), v_w1_1, if_neg (by omega)]
    exact (h.2.1 w hw).2
theorem v_F_TS {s t : vS} (h : v_F hx_S s t) : v_F hx_T s t := v_F_im h (fun _ _ q => Or.inl q)
theorem v_F_TU {s t : vS} (h : v_F hx_U s t) : v_F hx_T s t := v_F_im h (fun _ _ q => Or.inr (Or.inl q))
theorem k_meant (b c : Int32) (s : vS) (h : j_Hh s) (h2 : j_2 s) : v_P (f_Ol_meant b c s) (fun _ t => j_2 t) := by
  unfold f_Ol_meant
  rw [jz_isWord, v_bi_some, v_bif]
  by_cases hb : 0 ≤ b.toInt ∧ b.toInt ≤ 2
  · rw [if_pos hb]
    refine v_Pbi (v_PT (n_isEither _ _)) ?_
    rintro _ s rfl
    refine v_Pif (fun _ => v_Pret h2) (fun _ => ?_)
    refine v_Pbi (kH h h2) ?_
    rintro _ s1 ⟨f1, g1⟩
    refine v_Pbi (w_remember s1) (fun _ s2 f2 => ?_)
    have g2 := j_2U g1 f2
    have hH2 := j_Hh_T h (v_F_tr (v_F_TS f1) (v_F_TU f2))
    rw [y_to b s2 hb, v_bi_some, y_from b s2 hb, v_bi_some]
    refine v_Pbi (y_move b (-1) 0 s2 hb) ?_
    rintro _ s3 rfl
    have g3 : j_2 (v_w1 (v_w1 s2 10 b.toNatClampNeg (-1)) 11 b.toNatClampNeg 0) := j_2mv g2 (by decide)
    have hH3 : j_Hh (v_w1 (v_w1 s2 10 b.toNatClampNeg (-1)) 11 b.toNatClampNeg 0) := j_Hh_T hH2 (v_F_w1 (v_F_w1 v_F_rf (by unfold hx_T; omega)) (by unfold hx_T; omega))
    have hle : (s2.1 10 b.toNatClampNeg).toInt ≤ 2 := (g2.2.1 _ (by rw [v_nc]; omega)).1
    generalize v_w1 (v_w1 s2 10 b.toNatClampNeg (-1)) 11 b.toNatClampNeg 0 = s3 at g3 hH3 ⊢
    refine v_Pbi (kH hH3 g3) ?_
    rintro _ s4 ⟨_, g4⟩
    refine k_b g4 (w_changed s4) (fun _ s5 g5 => ?_)
    refine v_Pbi (y_move b _ _ s5 hb) ?_
    rintro _ s6 rfl
    have g6 := j_2mv (n := b.toNatClampNeg) (y := s2.1 11 b.toNatClampNeg) g5 hle
    generalize v_w1 (v_w1 s5 10 b.toNatClampNeg (s2.1 10 b.toNatClampNeg)) 11 b.toNatClampNeg (s2.1 11 b.toNatClampNeg) = s6 at g6 ⊢
    repeat' first
      | with_reducible exact v_Pnone
      | ((with_reducible refine v_Pret ?_); (focus first | assumption | exact rfl))
      | with_reducible refine v_Pif (fun _ => ?_) (fun _ => ?_)
      | with_reducible refine v_Pon (fun _ => ?_) (fun _ _ => ?_)
      | with_reducible refine w_w1 (by assumption) (by first | assumption | (unfold hx_U; omega) | (unfold hx_N jb_k; omega)) (fun _ _ => ?_)
      | with_reducible refine w_w2 (by assumption) (by first | assumption | (unfold hx_U; omega) | (unfold hx_N jb_k; omega)) (fun _ _ => ?_)
      | ((with_reducible refine v_Pbi (v_PT (n_size ..)) ?_); rintro _ _ rfl)
      | ((with_reducible refine v_Pbi (v_PT (n_first ..)) ?_); rintro _ _ rfl)
  · rw [if_neg hb]
    exact v_Pret h2
theorem k_under (b c : Int32) (s : vS) (h : j_Hh s) (h2 : j_2 s) : v_P (f_Ol_under b c s) (fun _ t => j_2 t) := by
  have hm := h.1.1
  unfold f_Ol_under
  rw [jz_knows, v_bi_some, v_bif]
  by_cases hb : 0 ≤ b.toInt ∧ b.toInt < (s.1 8 1).toInt
  · rw [if_pos hb]
    refine v_Pbi (v_PT (n_isEither _ _)) ?_
    rintro _ s rfl
    refine v_Pif (fun _ => v_Pret h2) (fun _ => ?_)
    refine v_Pbi (v_PT (n_isThere _ _)) ?_
    rintro _ s ⟨rfl, -⟩
    refine v_Pif (fun _ => v_Pret h2) (fun _ => ?_)
    refine v_Pbi (kH h h2) ?_
    rintro _ s1 ⟨f1, g1⟩
    refine v_Pbi (w_remember s1) (fun _ s2 f2 => ?_)
    have g2 := j_2U g1 f2
    have hH2 := j_Hh_T h (v_F_tr (v_F_TS f1) (v_F_TU f2))
    rw [jz_at b s2 ⟨hb.1, by omega⟩, v_bi_some]
    refine v_Pif (fun _ => v_Plet ?_) (fun _ => v_Pnone)
    have hn : b.toNatClampNeg ≤ 9 := by rw [v_nc]; omega
    have hRb : 23 ≤ 23 + 5 * b.toNatClampNeg ∧ 23 + 5 * b.toNatClampNeg ≤ 68 ∧ (23 + 5 * b.toNatClampNeg) % 5 = 3 := ⟨by omega, by omega, by omega⟩
    generalize 23 + 5 * b.toNatClampNeg = R at hRb ⊢
    have g3 : j_2 (v_w1 s2 R 1 (-1)) := j_2N g2 (v_F_w1 v_F_rf (by unfold hx_N jb_k; omega))
    have hH3 : j_Hh (v_w1 s2 R 1 (-1)) := j_Hh_T hH2 (v_F_w1 v_F_rf (by unfold hx_T; omega))
    generalize v_w1 s2 R 1 (-1) = s3 at g3 hH3 ⊢
    refine v_Pbi (kH hH3 g3) ?_
    rintro _ s4 ⟨_, g4⟩
    refine k_b g4 (w_changed s4) (fun _ s5 g5 => v_Plet ?_)
    have g6 : j_2 (v_w1 s5 R 1 (s2.1 R 1)) := j_2N g5 (v_F_w1 v_F_rf (by unfold hx_N jb_k; omega))
    generalize v_w1 s5 R 1 (s2.1 R 1) = s6 at g6 ⊢
    repeat' first
      | with_reducible exact v_Pnone
      | ((with_reducible refine v_Pret ?_); (focus first | assumption | exact rfl))
      | with_reducible refine v_Pif (fun _ => ?_) (fun _ => ?_)
      | with_reducible refine v_Pon (fun _ => ?_) (fun _ _ => ?_)
      | with_reducible refine w_w1 (by assumption) (by first | assumption | (unfold hx_U; omega) | (unfold hx_N jb_k; omega)) (fun _ _ => ?_)
      | with_reducible refine w_w2 (by assumption) (by first | assumption | (unfold hx_U; omega) | (unfold hx_N jb_k; omega)) (fun _ _ => ?_)
      | ((with_reducible refine v_Pbi (v_PT (n_size ..)) ?_); rintro _ _ rfl)
  · rw [if_neg hb]
    exact v_Pret h2
/-! the calls that change something -/
theorem kn_b {α β : Type} {s : vS} {o : Option (α × vS)} {k : α → vS → Option (β × vS)} {Q : β → vS → Prop} (h : j_2 s) (hc : v_P o (fun _ t => v_F hx_N s t)) (hk : ∀ r t, j_2 t → v_P (k r t) Q) : v_P (v_bi o k) Q := v_Pbi hc (fun r t ht => hk r t (j_2N h ht))
theorem kn_L {α : Type} {s : vS} {o : Option (α × vS)} (h : j_2 s) (hc : v_P o (fun _ t => v_F hx_N s t)) : v_P o (fun _ t => j_2 t) := v_Pm2 hc (fun _ _ hz => j_2N h hz)
theorem k_feed (b : Int32) (s : vS) (h2 : j_2 s) : v_P (f_Ol_feed b s) (fun _ t => j_2 t) := by
  refine kn_L h2 ?_
  have hs : v_F hx_N s s := v_F_rf
  unfold f_Ol_feed
  repeat' first
    | with_reducible exact v_Pnone
    | ((with_reducible refine v_Pret ?_); (focus first | assumption | exact rfl))
    | with_reducible refine v_Pif (fun _ => ?_) (fun _ => ?_)
    | with_reducible refine v_Pon (fun _ => ?_) (fun _ _ => ?_)
    | with_reducible refine w_w1 (by assumption) (by first | assumption | (unfold hx_U; omega) | (unfold hx_N jb_k; omega)) (fun _ _ => ?_)
    | with_reducible refine w_w2 (by assumption) (by first | assumption | (unfold hx_U; omega) | (unfold hx_N jb_k; omega)) (fun _ _ => ?_)
theorem kn_drop (s : vS) : v_P (f_Ch_dropFirst s) (fun _ t => v_F hx_N s t) := by
  unfold f_Ch_dropFirst
  refine v_Pif (fun _ => v_Plet (v_Pif (fun _ => v_Plet (v_Pif (fun _ => v_Plet (v_Pif (fun _ => v_Plet (v_Plet (v_Pret ?_))) (fun _ => v_Pnone))) (fun _ => v_Pnone))) (fun _ => v_Pnone))) (fun _ => v_Pnone)
  exact v_F_w1 (v_F_cp1 (v_F_cp1 (v_F_cp1 (v_F_cp1 v_F_rf (fun j _ _ => by unfold hx_N jb_k; omega)) (fun j _ _ => by unfold hx_N jb_k; omega)) (fun j _ _ => by unfold hx_N jb_k; omega)) (fun j _ _ => by unfold hx_N jb_k; omega)) (by unfold hx_N jb_k; omega)
theorem kn_add (b c d e : Int32) (s : vS) : v_P (f_Ch_add b c d e s) (fun _ t => v_F hx_N s t) := by
  have hs : v_F hx_N s s := v_F_rf
  unfold f_Ch_add
  repeat' first
    | with_reducible exact v_Pnone
    | ((with_reducible refine v_Pret ?_); (focus first | assumption | exact rfl))
    | with_reducible refine v_Pif (fun _ => ?_) (fun _ => ?_)
    | with_reducible refine v_Pon (fun _ => ?_) (fun _ _ => ?_)
    | with_reducible refine w_w1 (by assumption) (by first | assumption | (unfold hx_U; omega) | (unfold hx_N jb_k; omega)) (fun _ _ => ?_)
    | with_reducible refine w_w2 (by assumption) (by first | assumption | (unfold hx_U; omega) | (unfold hx_N jb_k; omega)) (fun _ _ => ?_)
    | with_reducible refine w_b (by assumption) (kn_drop ..) (fun _ _ _ => ?_)
theorem kn_set (b c d : Int32) (s : vS) : v_P (f_Ct_set b c d s) (fun _ t => v_F hx_N s t) := by
  unfold f_Ct_set
  refine v_Pbi (v_PT (n_at ..)) ?_
  rintro r s ⟨rfl, _, hr⟩
  have hs : v_F hx_N s s := v_F_rf
  repeat' first
    | with_reducible exact v_Pnone
    | ((with_reducible refine v_Pret ?_); (focus first | assumption | exact rfl))
    | with_reducible refine v_Pif (fun _ => ?_) (fun _ => ?_)
    | with_reducible refine v_Pon (fun _ => ?_) (fun _ _ => ?_)
    | with_reducible refine w_w1 (by assumption) (by first | assumption | (unfold hx_U; omega) | (unfold hx_N jb_k; omega)) (fun _ _ => ?_)
    | with_reducible refine w_w2 (by assumption) (by first | assumption | (unfold hx_U; omega) | (unfold hx_N jb_k; omega)) (fun _ _ => ?_)
theorem k_mend (b c d : Int32) (s : vS) (h2 : j_2 s) : v_P (f_Ol_mend b c d s) (fun _ t => j_2 t) := by
  refine kn_L h2 ?_
  have hs : v_F hx_N s s := v_F_rf
  unfold f_Ol_mend
  repeat' first
    | with_reducible exact v_Pnone
    | ((with_reducible refine v_Pret ?_); (focus first | assumption | exact rfl))
    | with_reducible refine v_Pif (fun _ => ?_) (fun _ => ?_)
    | with_reducible refine v_Pon (fun _ => ?_) (fun _ _ => ?_)
    | with_reducible refine w_w1 (by assumption) (by first | assumption | (unfold hx_U; omega) | (unfold hx_N jb_k; omega)) (fun _ _ => ?_)
    | with_reducible refine w_w2 (by assumption) (by first | assumption | (unfold hx_U; omega) | (unfold hx_N jb_k; omega)) (fun _ _ => ?_)
    | ((with_reducible refine v_Pbi (v_PT (n_mayBecome ..)) ?_); rintro _ _ rfl)
    | ((with_reducible refine v_Pbi (v_PT (n_valueOf ..)) ?_); rintro _ _ rfl)
    | with_reducible refine w_b (by assumption) (kn_add ..) (fun _ _ _ => ?_)
    | with_reducible refine w_b (by assumption) (kn_set ..) (fun _ _ _ => ?_)
theorem zq_Ch (b : Int32) (s : vS) : v_P (f_Ch_number b s) (fun _ t => t = s) ∧ v_P (f_Ch_what b s) (fun _ t => t = s) ∧ v_P (f_Ch_was b s) (fun _ t => t = s) ∧ v_P (f_Ch_became b s) (fun _ t => t = s) := ⟨v_PT (n_Ch b s).1, v_PT (n_Ch b s).2.1, v_PT (n_Ch b s).2.2.1, v_PT (n_Ch b s).2.2.2⟩
theorem zq_number (b : Int32) (s : vS) : v_P (f_Ch_number b s) (fun _ t => t = s) := (zq_Ch b s).1
theorem zq_what (b : Int32) (s : vS) : v_P (f_Ch_what b s) (fun _ t => t = s) := (zq_Ch b s).2.1
theorem zq_was (b : Int32) (s : vS) : v_P (f_Ch_was b s) (fun _ t => t = s) := (zq_Ch b s).2.2.1
theorem zq_became (b : Int32) (s : vS) : v_P (f_Ch_became b s) (fun _ t => t = s) := (zq_Ch b s).2.2.2
theorem zq_latest (s : vS) : v_P (f_Ch_latest s) (fun _ t => t = s) := by
  unfold f_Ch_latest
  repeat' first
    | with_reducible exact v_Pnone
    | ((with_reducible refine v_Pret ?_); (focus first | assumption | exact rfl))
    | with_reducible refine v_Pif (fun _ => ?_) (fun _ => ?_)
    | with_reducible refine v_Pon (fun _ => ?_) (fun _ _ => ?_)
    | with_reducible refine w_w1 (by assumption) (by first | assumption | (unfold hx_U; omega) | (unfold hx_N jb_k; omega)) (fun _ _ => ?_)
    | with_reducible refine w_w2 (by assumption) (by first | assumption | (unfold hx_U; omega) | (unfold hx_N jb_k; omega)) (fun _ _ => ?_)
theorem zq_next (s : vS) : v_P (f_Ch_next s) (fun _ t => t = s) := by
  unfold f_Ch_next
  repeat' first
    | with_reducible exact v_Pnone
    | ((with_reducible refine v_Pret ?_); (focus first | assumption | exact rfl))
    | with_reducible refine v_Pif (fun _ => ?_) (fun _ => ?_)
    | with_reducible refine v_Pon (fun _ => ?_) (fun _ _ => ?_)
    | with_reducible refine w_w1 (by assumption) (by first | assumption | (unfold hx_U; omega) | (unfold hx_N jb_k; omega)) (fun _ _ => ?_)
    | with_reducible refine w_w2 (by assumption) (by first | assumption | (unfold hx_U; omega) | (unfold hx_N jb_k; omega)) (fun _ _ => ?_)
theorem kn_stepBack (s : vS) : v_P (f_Ch_stepBack s) (fun _ t => v_F hx_N s t) := by
  have hs : v_F hx_N s s := v_F_rf
  unfold f_Ch_stepBack
  repeat' first
    | with_reducible exact v_Pnone
    | ((with_reducible refine v_Pret ?_); (focus first | assumption | exact rfl))
    | with_reducible refine v_Pif (fun _ => ?_) (fun _ => ?_)
    | with_reducible refine v_Pon (fun _ => ?_) (fun _ _ => ?_)
    | with_reducible refine w_w1 (by assumption) (by first | assumption | (unfold hx_U; omega) | (unfold hx_N jb_k; omega)) (fun _ _ => ?_)
    | with_reducible refine w_w2 (by assumption) (by first | assumption | (unfold hx_U; omega) | (unfold hx_N jb_k; omega)) (fun _ _ => ?_)
theorem kn_stepOn (s : vS) : v_P (f_Ch_stepOn s) (fun _ t => v_F hx_N s t) := by
  have hs : v_F hx_N s s := v_F_rf
  unfold f_Ch_stepOn
  repeat' first
    | with_reducible exact v_Pnone
    | ((with_reducible refine v_Pret ?_); (focus first | assumption | exact rfl))
    | with_reducible refine v_Pif (fun _ => ?_) (fun _ => ?_)
    | with_reducible refine v_Pon (fun _ => ?_) (fun _ _ => ?_)
    | with_reducible refine w_w1 (by assumption) (by first | assumption | (unfold hx_U; omega) | (unfold hx_N jb_k; omega)) (fun _ _ => ?_)
    | with_reducible refine w_w2 (by assumption) (by first | assumption | (unfold hx_U; omega) | (unfold hx_N jb_k; omega)) (fun _ _ => ?_)
theorem k_undo (s : vS) (h2 : j_2 s) : v_P (f_Ol_undo s) (fun _ t => j_2 t) := by
  refine kn_L h2 ?_
  have hs : v_F hx_N s s := v_F_rf
  unfold f_Ol_undo
  repeat' first
    | with_reducible exact v_Pnone
    | ((with_reducible refine v_Pret ?_); (focus first | assumption | exact rfl))
    | with_reducible refine v_Pif (fun _ => ?_) (fun _ => ?_)
    | with_reducible refine v_Pon (fun _ => ?_) (fun _ _ => ?_)
    | with_reducible refine w_w1 (by assumption) (by first | assumption | (unfold hx_U; omega) | (unfold hx_N jb_k; omega)) (fun _ _ => ?_)
    | with_reducible refine w_w2 (by assumption) (by first | assumption | (unfold hx_U; omega) | (unfold hx_N jb_k; omega)) (fun _ _ => ?_)
    | ((with_reducible refine v_Pbi (zq_latest ..) ?_); rintro _ _ rfl)
    | ((with_reducible refine v_Pbi (zq_number ..) ?_); rintro _ _ rfl)
    | ((with_reducible refine v_Pbi (zq_what ..) ?_); rintro _ _ rfl)
    | ((with_reducible refine v_Pbi (zq_was ..) ?_); rintro _ _ rfl)
    | with_reducible refine w_b (by assumption) (kn_set ..) (fun _ _ _ => ?_)
    | with_reducible refine w_b (by assumption) (kn_stepBack ..) (fun _ _ _ => ?_)
theorem k_redo (s : vS) (h2 : j_2 s) : v_P (f_Ol_redo s) (fun _ t => j_2 t) := by
  refine kn_L h2 ?_
  have hs : v_F hx_N s s := v_F_rf
  unfold f_Ol_redo
  repeat' first
    | with_reducible exact v_Pnone
    | ((with_reducible refine v_Pret ?_); (focus first | assumption | exact rfl))
    | with_reducible refine v_Pif (fun _ => ?_) (fun _ => ?_)
    | with_reducible refine v_Pon (fun _ => ?_) (fun _ _ => ?_)
    | with_reducible refine w_w1 (by assumption) (by first | assumption | (unfold hx_U; omega) | (unfold hx_N jb_k; omega)) (fun _ _ => ?_)
    | with_reducible refine w_w2 (by assumption) (by first | assumption | (unfold hx_U; omega) | (unfold hx_N jb_k; omega)) (fun _ _ => ?_)
    | ((with_reducible refine v_Pbi (zq_next ..) ?_); rintro _ _ rfl)
    | ((with_reducible refine v_Pbi (zq_number ..) ?_); rintro _ _ rfl)
    | ((with_reducible refine v_Pbi (zq_what ..) ?_); rintro _ _ rfl)
    | ((with_reducible refine v_Pbi (zq_became ..) ?_); rintro _ _ rfl)
    | with_reducible refine w_b (by assumption) (kn_set ..) (fun _ _ _ => ?_)
    | with_reducible refine w_b (by assumption) (kn_stepOn ..) (fun _ _ _ => ?_)
theorem k_moved (b c d : Int32) (s : vS) (h2 : j_2 s) : v_P (f_Ol_moved b c d s) (fun _ t => j_2 t) := by
  unfold f_Ol_moved
  rw [jz_isWord, v_bi_some, v_bif]
  by_cases hb : 0 ≤ b.toInt ∧ b.toInt ≤ 2
  · rw [if_pos hb]
    refine v_Pif (fun _ => ?_) (fun _ => ?_)
    · refine v_Pbi (y_move b _ _ s hb) ?_
      rintro _ t rfl
      exact v_Pret (j_2mv h2 (by decide))
    · rw [jz_isWord, v_bi_some, v_bif]
      by_cases hc : 0 ≤ c.toInt ∧ c.toInt ≤ 2
      · rw [if_pos hc]
        refine v_Pif (fun _ => v_Pret h2) (fun _ => ?_)
        refine v_Pbi (v_PT (n_isDate _ _)) ?_
        rintro _ s rfl
        refine v_Pif (fun _ => v_Pret h2) (fun _ => ?_)
        refine v_Pbi (y_move b _ _ s hb) ?_
        rintro _ t rfl
        exact v_Pret (j_2mv h2 hc.2)
      · rw [if_neg hc]
        exact v_Pret h2
  · rw [if_neg hb]
    exact v_Pret h2
theorem kn_draw (a : Nat) (ha : a = 15 ∨ (23 ≤ a ∧ a ≤ 68 ∧ a % 5 = 3)) (s : vS) : v_P (f_Lw_draw a s) (fun _ t => v_F hx_N s t) := by
  have hs : v_F hx_N s s := v_F_rf
  unfold f_Lw_draw
  repeat' first
    | with_reducible exact v_Pnone
    | ((with_reducible refine v_Pret ?_); (focus first | assumption | exact rfl))
    | with_reducible refine v_Pif (fun _ => ?_) (fun _ => ?_)
    | with_reducible refine v_Pon (fun _ => ?_) (fun _ _ => ?_)
    | with_reducible refine w_w1 (by assumption) (by first | assumption | (unfold hx_U; omega) | (unfold hx_N jb_k; omega)) (fun _ _ => ?_)
    | with_reducible refine w_w2 (by assumption) (by first | assumption | (unfold hx_U; omega) | (unfold hx_N jb_k; omega)) (fun _ _ => ?_)
theorem kn_restore (a : Nat) (ha : a = 15 ∨ (23 ≤ a ∧ a ≤ 68 ∧ a % 5 = 3)) (s : vS) : v_P (f_Lw_restore a s) (fun _ t => v_F hx_N s t) := by
  have hs : v_F hx_N s s := v_F_rf
  unfold f_Lw_restore
  repeat' first
    | with_reducible exact v_Pnone
    | ((with_reducible refine v_Pret ?_); (focus first | assumption | exact rfl))
    | with_reducible refine v_Pif (fun _ => ?_) (fun _ => ?_)
    | with_reducible refine v_Pon (fun _ => ?_) (fun _ _ => ?_)
    | with_reducible refine w_w1 (by assumption) (by first | assumption | (unfold hx_U; omega) | (unfold hx_N jb_k; omega)) (fun _ _ => ?_)
    | with_reducible refine w_w2 (by assumption) (by first | assumption | (unfold hx_U; omega) | (unfold hx_N jb_k; omega)) (fun _ _ => ?_)
theorem kn_imgL {s0 : vS} {k : vS → Option (Int32 × vS)} {Q : Int32 → vS → Prop} (hk : ∀ t, v_F hx_N s0 t → v_P (k t) Q) : ∀ (n : Nat) (v : Int32) (s : vS), v_F hx_N s0 s → v_P (f_Ol_image_L2 k n v s) Q
  | 0, _, _, _ => v_Pnone
  | n + 1, v, s, h => by
    show v_P (f_Ol_image_L2b k (f_Ol_image_L2 k n) v s) _
    unfold f_Ol_image_L2b
    refine v_Pif (fun _ => hk s h) (fun _ => ?_)
    refine v_Pbi (v_PT (n_at ..)) ?_
    rintro r s ⟨rfl, _, hr⟩
    exact v_Pif (fun _ => w_b h (kn_draw r hr _) (fun _ t ht => kn_imgL hk n _ t ht)) (fun _ => v_Pnone)
theorem kn_bckL {s0 : vS} {k : vS → Option (Int32 × vS)} {Q : Int32 → vS → Prop} (hk : ∀ t, v_F hx_N s0 t → v_P (k t) Q) : ∀ (n : Nat) (v : Int32) (s : vS), v_F hx_N s0 s → v_P (f_Ol_back_L13 k n v s) Q
  | 0, _, _, _ => v_Pnone
  | n + 1, v, s, h => by
    show v_P (f_Ol_back_L13b k (f_Ol_back_L13 k n) v s) _
    unfold f_Ol_back_L13b
    refine v_Pif (fun _ => hk s h) (fun _ => ?_)
    refine v_Pbi (v_PT (n_at ..)) ?_
    rintro r s ⟨rfl, _, hr⟩
    exact v_Pif (fun _ => w_b h (kn_restore r hr _) (fun _ t ht => kn_bckL hk n _ t ht)) (fun _ => v_Pnone)
theorem j_2cp {s : vS} (h : j_2 s) {p q p2 q2 : Nat} (hp : (p = 10 ∧ q = 12) ∨ (p = 12 ∧ q = 10)) (hp2 : q2 = 11 ∨ q2 = 13) : j_2 (v_cp1 (v_cp1 s p 0 q 0 3) p2 0 q2 0 3) := by
  have e : ∀ a j, ¬ a = q2 → (v_cp1 (v_cp1 s p 0 q 0 3) p2 0 q2 0 3).1 a j = (v_cp1 s p 0 q 0 3).1 a j := fun a j ha => by
    show (if a = q2 ∧ 0 ≤ j ∧ j < 0 + 3 then (v_cp1 s p 0 q 0 3).1 p2 (0 + (j - 0)) else (v_cp1 s p 0 q 0 3).1 a j) = _
    rw [if_neg (fun z => ha z.1)]
  have e2 : ∀ a j, ¬ a = q → (v_cp1 s p 0 q 0 3).1 a j = s.1 a j := fun a j ha => by
    show (if a = q ∧ 0 ≤ j ∧ j < 0 + 3 then s.1 p (0 + (j - 0)) else s.1 a j) = _
    rw [if_neg (fun z => ha z.1)]
  have e3 : ∀ j, j < 3 → (v_cp1 s p 0 q 0 3).1 q j = s.1 p j := fun j hj => by
    show (if q = q ∧ 0 ≤ j ∧ j < 0 + 3 then s.1 p (0 + (j - 0)) else s.1 q j) = _
    rw [if_pos ⟨rfl, Nat.zero_le _, by omega⟩, Nat.zero_add, Nat.sub_zero]
  refine ⟨j_spS h.1 (fun a j z => ⟨by rw [e a j (by unfold jb_s at z; omega), e2 a j (by unfold jb_s at z; omega)], rfl⟩), fun w hw => ?_, j_alE h.2.2 (by rw [e 79 0 (by omega), e2 79 0 (by omega)]) (fun _ => rfl)⟩
  rw [e 10 w (by omega), e 12 w (by omega)]
  rcases hp with ⟨rfl, rfl⟩ | ⟨rfl, rfl⟩
  · rw [e2 10 w (by decide), e3 w hw]
    exact ⟨(h.2.1 w hw).1, (h.2.1 w hw).1⟩
  · rw [e2 12 w (by decide), e3 w hw]
    exact ⟨(h.2.1 w hw).2, (h.2.1 w hw).2⟩
theorem k_image (s : vS) (h2 : j_2 s) : v_P (f_Ol_image s) (fun _ t => j_2 t) := by
  unfold f_Ol_image
  refine kn_imgL (s0 := s) (fun t ht => ?_) 4096 0 s v_F_rf
  have g := j_2N h2 ht
  unfold f_Ws_draw
  refine v_Pbi (P := fun _ u => j_2 u) (v_Pif (fun _ => v_Plet (v_Pif (fun _ => v_Plet (v_Pret (j_2cp g (Or.inl ⟨rfl, rfl⟩) (Or.inr rfl)))) (fun _ => v_Pnone))) (fun _ => v_Pnone)) (fun _ u hu => v_Plet (v_Pret (j_2N hu (v_F_w1 v_F_rf (by unfold hx_N jb_k; omega)))))
theorem kn_forget (s : vS) : v_P (f_Ch_forget s) (fun _ t => v_F hx_N s t) := by
  have hs : v_F hx_N s s := v_F_rf
  unfold f_Ch_forget
  repeat' first
    | with_reducible exact v_Pnone
    | ((with_reducible refine v_Pret ?_); (focus first | assumption | exact rfl))
    | with_reducible refine v_Pif (fun _ => ?_) (fun _ => ?_)
    | with_reducible refine v_Pon (fun _ => ?_) (fun _ _ => ?_)
    | with_reducible refine w_w1 (by assumption) (by first | assumption | (unfold hx_U; omega) | (unfold hx_N jb_k; omega)) (fun _ _ => ?_)
    | with_reducible refine w_w2 (by assumption) (by first | assumption | (unfold hx_U; omega) | (unfold hx_N jb_k; omega)) (fun _ _ => ?_)
theorem k_back (s : vS) (h2 : j_2 s) : v_P (f_Ol_back s) (fun _ t => j_2 t) := by
  unfold f_Ol_back
  refine v_Pif (fun _ => v_Pret h2) (fun _ => ?_)
  refine kn_bckL (s0 := s) (fun t ht => ?_) 4096 0 s v_F_rf
  have g := j_2N h2 ht
  unfold f_Ws_restore
  refine v_Pbi (P := fun _ u => j_2 u) (v_Pif (fun _ => v_Plet (v_Pif (fun _ => v_Plet (v_Pret (j_2cp g (Or.inr ⟨rfl, rfl⟩) (Or.inl rfl)))) (fun _ => v_Pnone))) (fun _ => v_Pnone)) (fun _ u hu => kn_b hu (kn_forget u) (fun _ _ hx => v_Pret hx))
/-! laws that come -/
theorem c_px_pd {a j : Nat} (h : c_pd a j) : hx_N a j := by
  unfold c_pd at h
  unfold hx_N jb_k
  omega
theorem c_readF {b : Nat} (hb : b = 1 ∨ b = 2) {c : Int32} {s : vS} (hc0 : 0 ≤ c.toInt) (hc : c.toInt ≤ 60) (hcb : c.toInt ≤ v_ln b) : v_P (f_Rd_read b c s) (fun _ t => v_F hx_N s t) := by
  have hN : ∃ N : Int32, (if (60 : Int32) < Int32.ofNat (v_ln b) then 60 else Int32.ofNat (v_ln b)) = N ∧ c.toInt ≤ N.toInt := by
    rcases hb with rfl | rfl
    · exact ⟨60, rfl, hc⟩
    · exact ⟨3, rfl, hcb⟩
  obtain ⟨N, e1, e2⟩ := hN
  unfold f_Rd_read
  rw [e1, v_clip2 hc0 e2]
  refine v_Plet ?_
  have hx : (v_w1 s 3 2 c).1 3 2 = c := v_w1_1.trans (if_pos ⟨rfl, rfl⟩)
  rw [hx]
  refine v_Pif (fun _ => v_Plet (v_Plet ?_)) (fun _ => v_Pnone)
  refine v_Pbi (P := fun _ t => t = v_w1 (v_w1 (v_cp1 (v_w1 s 3 2 c) b 0 7 0 c.toNatClampNeg) 3 3 0) 4 2 0) (v_Plet (v_Pret rfl)) ?_
  rintro _ t rfl
  have hf2 : v_F hx_N s (v_w1 (v_w1 (v_cp1 (v_w1 s 3 2 c) b 0 7 0 c.toNatClampNeg) 3 3 0) 4 2 0) := v_F_w1 (v_F_w1 (v_F_cp1 (v_F_w1 v_F_rf (by unfold hx_N jb_k; omega)) (fun j _ _ => by unfold hx_N jb_k; omega)) (by unfold hx_N jb_k; omega)) (by unfold hx_N jb_k; omega)
  have hm : (v_w1 (v_w1 (v_cp1 (v_w1 s 3 2 c) b 0 7 0 c.toNatClampNeg) 3 3 0) 4 2 0).1 3 2 = c := by
    rw [v_w1_1, if_neg (by omega), v_w1_1, if_neg (by omega)]
    show (if (3 : Nat) = 7 ∧ 0 ≤ 2 ∧ 2 < 0 + c.toNatClampNeg then (v_w1 s 3 2 c).1 b (0 + (2 - 0)) else (v_w1 s 3 2 c).1 3 2) = c
    rw [if_neg (by omega)]
    exact hx
  have hR : ∃ g, c_R g (v_w1 (v_w1 (v_cp1 (v_w1 s 3 2 c) b 0 7 0 c.toNatClampNeg) 3 3 0) 4 2 0) (g_cls []) (0, []) := by
    refine ⟨fun j => g_ab (c_let (v_w1 (v_w1 (v_cp1 (v_w1 s 3 2 c) b 0 7 0 c.toNatClampNeg) 3 3 0) 4 2 0) j), fun j => rfl, ?_, by decide, ?_, g_row_nil, Nat.le_refl _⟩
    · rw [v_w1_1, if_neg (by omega), v_w1_1, if_pos ⟨rfl, rfl⟩]
      rfl
    · rw [v_w1_1, if_pos ⟨rfl, rfl⟩]
      rfl
  generalize v_w1 (v_w1 (v_cp1 (v_w1 s 3 2 c) b 0 7 0 c.toNatClampNeg) 3 3 0) 4 2 0 = u at hf2 hm hR ⊢
  obtain ⟨g, hR⟩ := hR
  unfold f_Rd_lines
  refine v_Pbi (v_PT (c_linesL (c_g_ltr hR.1) (s0 := u) (mny := c.toInt.toNat) (by rw [hm]; omega) 61 4096 0 u 0 [] hR v_F_rf (by decide) (by decide) (by decide) (by decide))) ?_
  rintro x t ⟨h1, h2⟩
  have hF : v_F hx_N s t := v_F_tr hf2 (v_F_im h1 (fun _ _ q => c_px_pd q))
  exact v_Pif (fun _ => v_Pret hF) (fun _ => v_Pret hF)
theorem k_adm {b c d : Int32} {m : Nat} {s t : vS} (h2 : j_2 s) (hm : (s.1 8 1).toInt = m) (h9 : m ≤ 9) (ha : j_adm b c d m s t) : j_2 t ∧ (t.1 8 1).toInt = m + 1 := by
  obtain ⟨aE, a8, -, -, -, a2⟩ := ha
  have e1 : (t.1 8 1).toInt = m + 1 := by
    rw [a8, v_inc (by omega), hm]
  refine ⟨⟨fun k hk => ?_, fun w hw => ?_, j_alE h2.2.2 (aE 79 0 (by unfold jp_adm; omega)) (fun j => congrFun (congrFun a2 _) j)⟩, e1⟩
  · obtain ⟨h3, h4⟩ := h2.1 k hk
    refine ⟨fun q => ?_, fun q => ?_⟩
    · by_cases hkm : k = m
      · refine Or.inl ?_
        rw [aE (23 + 5 * k) 7 (by unfold jp_adm; omega)]
        exact h4 (by omega)
      · exact h_caE (h3 (by omega)) (fun a j q2 => aE a j (by unfold hx_C at q2; unfold jp_adm; omega)) (fun j => congrFun (congrFun a2 _) j)
    · rw [aE (23 + 5 * k) 7 (by unfold jp_adm; omega)]
      exact h4 (by omega)
  · rw [aE 10 w (by unfold jp_adm; omega), aE 12 w (by unfold jp_adm; omega)]
    exact h2.2.1 w hw
theorem k_law (b c : Int32) (s : vS) (h2 : j_2 s) (hm : 0 ≤ (s.1 8 1).toInt) (htp : 0 ≤ (s.1 0 1).toInt ∧ (s.1 0 1).toInt ≤ 60) : v_P (f_Ol_law b c s) (fun _ t => j_2 t) := by
  unfold f_Ol_law
  refine v_Pbi (v_PT (n_isDate ..)) ?_
  rintro _ s rfl
  refine v_Pif (fun _ => v_Pret h2) (fun _ => ?_)
  refine v_Pbi (v_PT (n_isSaying ..)) ?_
  rintro _ s rfl
  refine v_Pif (fun _ => v_Pret h2) (fun _ => v_Pif (fun h10 => ?_) (fun _ => v_Pret h2))
  have hln : v_ln 1 = 60 := by decide +kernel
  refine v_Pbi (c_readF (Or.inl rfl) htp.1 htp.2 (by rw [hln]; exact htp.2)) (fun x u hu => v_Plet ?_)
  have g := j_2N h2 (v_F_w1 (i := 1) (x := 0) hu (show hx_N 0 1 by unfold hx_N jb_k; omega))
  have e8 : (v_w1 u 0 1 0).1 8 1 = s.1 8 1 := by
    rw [v_w1_1, if_neg (by omega)]
    exact (hu 8 1 (fun z => z (by unfold jb_k; omega))).1
  generalize v_w1 u 0 1 0 = w at g e8 ⊢
  refine v_Pif (fun _ => ?_) (fun _ => v_Pret g)
  have hmw : (w.1 8 1).toInt = (s.1 8 1).toInt.toNat := by rw [e8]; omega
  exact v_Pbi (y_adm b c (-1) w hmw (by omega)) (fun _ t ht => v_Pret (k_adm g hmw (by omega) ht.2).1)
def j_21 (s : vS) : Prop := j_2 s ∧ 0 ≤ (s.1 8 1).toInt ∧ (s.1 8 1).toInt ≤ 10
theorem k_six (b : Nat) (c : Int32) (s : vS) (h : j_21 s) : v_P (f_Ol_cameFromSix b c s) (fun _ t => j_21 t) := by
  have hln : v_ln 2 = 3 := by decide +kernel
  have hgo : ∀ (s : vS) (x y z p q r : Int32), j_21 s → (s.1 8 1).toInt < 10 → v_P (v_let (v_w1 s 2 0 x) (fun s21 => (v_let (v_w1 s21 2 1 y) (fun s22 => (v_let (v_w1 s22 2 2 z) (fun s23 => (v_bi (f_Rd_read 2 3 s23) (fun r24 s24 => (if r24.toInt = (-1) then (v_bi (f_Ct_admit p q r 4 s24) (fun r26 s26 => (if r26.toInt < 0 then (some ((0 : Int32), s26)) else (some (1, s26))))) else (some (0, s24))))))))))) (fun _ t => j_21 t) := fun s x y z p q r h h10 => by
    have hF : v_F hx_N s (v_w1 (v_w1 (v_w1 s 2 0 x) 2 1 y) 2 2 z) := v_F_w1 (v_F_w1 (v_F_w1 v_F_rf (by unfold hx_N jb_k; omega)) (by unfold hx_N jb_k; omega)) (by unfold hx_N jb_k; omega)
    refine v_Plet (v_Plet (v_Plet ?_))
    generalize v_w1 (v_w1 (v_w1 s 2 0 x) 2 1 y) 2 2 z = u at hF ⊢
    refine v_Pbi (c_readF (Or.inr rfl) (by decide) (by decide) (by rw [hln]; decide)) (fun x w hw => ?_)
    have hF2 := v_F_tr hF hw
    have g := j_2N h.1 hF2
    have e8 : w.1 8 1 = s.1 8 1 := (hF2 8 1 (fun z => z (by unfold jb_k; omega))).1
    have g1 : j_21 w := ⟨g, by rw [e8]; exact h.2⟩
    refine v_Pif (fun _ => ?_) (fun _ => v_Pret g1)
    have h0 := h.2.1
    have hmw : (w.1 8 1).toInt = (s.1 8 1).toInt.toNat := by rw [e8]; omega
    refine v_Pbi (y_adm p q r w hmw (by omega)) (fun _ t ht => ?_)
    obtain ⟨k1, k2⟩ := k_adm g hmw (by omega) ht.2
    have g2 : j_21 t := ⟨k1, by omega, by omega⟩
    exact v_Pif (fun _ => v_Pret g2) (fun _ => v_Pret g2)
  unfold f_Ol_cameFromSix
  refine v_Pif (fun _ => v_Pret h) (fun _ => v_Pif (fun h10 => ?_) (fun _ => v_Pret h))
  repeat' first
    | with_reducible exact v_Pnone
    | ((with_reducible refine v_Pret ?_); (focus first | assumption | exact rfl))
    | with_reducible refine v_Pif (fun _ => ?_) (fun _ => ?_)
    | with_reducible refine v_Pon (fun _ => ?_) (fun _ _ => ?_)
    | with_reducible refine w_w1 (by assumption) (by first | assumption | (unfold hx_U; omega) | (unfold hx_N jb_k; omega)) (fun _ _ => ?_)
    | with_reducible refine w_w2 (by assumption) (by first | assumption | (unfold hx_U; omega) | (unfold hx_N jb_k; omega)) (fun _ _ => ?_)
    | with_reducible exact hgo _ _ _ _ _ _ _ h h10
    | ((with_reducible refine v_Pbi (v_PT (n_Shat ..)) ?_); rintro _ _ rfl)
    | ((with_reducible refine v_Pbi (v_PT (n_isDate ..)) ?_); rintro _ _ rfl)
    | ((with_reducible refine v_Pbi (v_PT (n_isSaying ..)) ?_); rintro _ _ rfl)
    | ((with_reducible refine v_Pbi (v_PT (n_isStruck ..)) ?_); rintro _ _ rfl)
    | ((with_reducible refine v_Pbi (v_PT (n_isWord ..)) ?_); rintro _ _ rfl)
theorem k_lawsL {p2 p3 : Int32} {p4 : Nat} : ∀ (n : Nat) (v : Int32) (s : vS), j_21 s → v_P (f_Ol_laws_L57 p2 p3 p4 (fun w11 s12 => some (w11, s12)) n v s) (fun _ t => j_21 t)
  | 0, _, _, _ => v_Pnone
  | n + 1, v, s, h => by
    show v_P (f_Ol_laws_L57b p2 p3 p4 (fun w11 s12 => some (w11, s12)) (f_Ol_laws_L57 p2 p3 p4 (fun w11 s12 => some (w11, s12)) n) v s) _
    unfold f_Ol_laws_L57b
    refine v_Pif (fun _ => v_Pret h) (fun _ => ?_)
    exact v_Pbi (k_six _ _ s h) (fun _ t ht => v_Pif (fun _ => v_Pret ht) (fun _ => k_lawsL n _ t ht))
theorem k_lawsM {p2 p3 : Int32} {p4 : Nat} (s : vS) (h : j_21 s) : v_P (f_Ol_laws_L57 p2 p3 p4 (fun w11 s12 => some (w11, s12)) 4096 0 s) (fun _ t => j_2 t) := v_Pm2 (k_lawsL 4096 0 s h) (fun _ _ hz => hz.1)
theorem k_laws (b c d : Int32) (s : vS) (h : j_21 s) : v_P (f_Ol_laws b c d s) (fun _ t => j_2 t) := by
  have h2 := h.1
  unfold f_Ol_laws
  repeat' first
    | with_reducible exact v_Pnone
    | ((with_reducible refine v_Pret ?_); (focus first | assumption | exact rfl))
    | with_reducible refine v_Pif (fun _ => ?_) (fun _ => ?_)
    | with_reducible refine v_Pon (fun _ => ?_) (fun _ _ => ?_)
    | with_reducible refine w_w1 (by assumption) (by first | assumption | (unfold hx_U; omega) | (unfold hx_N jb_k; omega)) (fun _ _ => ?_)
    | with_reducible refine w_w2 (by assumption) (by first | assumption | (unfold hx_U; omega) | (unfold hx_N jb_k; omega)) (fun _ _ => ?_)
    | with_reducible exact k_lawsM _ h
    | ((with_reducible refine v_Pbi (v_PT (n_isShelf ..)) ?_); rintro _ _ rfl)
    | ((with_reducible refine v_Pbi (v_PT (n_shelfAt ..)) ?_); rintro _ _ ⟨rfl, _⟩)
    | ((with_reducible refine v_Pbi (v_PT (n_isBare ..)) ?_); rintro _ _ rfl)
/-! the relation, with what the class has heard -/
def v_I9 (s : vS) : Prop := v_I7 s ∧ j_2 s
theorem j_20 : j_2 v_s0 := by
  refine ⟨fun k hk => ⟨fun q => ?_, fun _ => ?_⟩, fun w hw => ?_, by unfold j_al; decide +kernel⟩
  · have e : (v_s0.1 8 1).toInt = 0 := by decide +kernel
    rw [e] at q
    exact absurd q (by omega)
  · have hd : ∀ k, k < 10 → v_s0.1 (23 + 5 * k) 7 = -1 := by decide +kernel
    exact hd k hk
  · have hd : ∀ w, w < 3 → (v_s0.1 10 w).toInt ≤ 2 ∧ (v_s0.1 12 w).toInt ≤ 2 := by decide +kernel
    exact hd w hw
theorem v_I90 : v_I9 v_s0 := ⟨v_I70, j_20⟩
theorem j_2hi {s t : vS} (h : j_2 s) (ht : ∀ a j, a < 151 → t.1 a j = s.1 a j ∧ t.2 a j = s.2 a j) : j_2 t :=
  j_2N h (fun a j q => ht a j (Nat.lt_of_not_le (fun z => q (by unfold hx_N jb_k; omega))))
/-- the reference leaves the class's cells as they are -/
def hi_M {α : Type} (t : vS) (o : Option (α × vS)) : Prop := v_P o (fun _ u => ∀ a j, a < 151 → u.1 a j = t.1 a j ∧ u.2 a j = t.2 a j)
theorem hi_q {α : Type} {t : vS} {o : Option (α × vS)} (h : v_T o (fun _ u => v_F v_sd t u)) : hi_M t o := v_Pm2 (v_PT h) (fun _ _ x a j ha => x a j (fun z => by unfold v_sd at z; omega))
theorem hi_n {α : Type} {t : vS} {o : Option (α × vS)} (h : v_T o (fun _ u => u = t)) : hi_M t o := v_Pm2 (v_PT h) (fun _ _ x a j _ => by rw [x]; exact ⟨rfl, rfl⟩)
theorem hi_F {α : Type} {P : Nat → Nat → Prop} {t : vS} {o : Option (α × vS)} (hP : ∀ a j, P a j → 151 ≤ a) (h : v_T o (fun _ u => v_RI u ∧ v_F P t u)) : hi_M t o := v_Pm2 (v_PT h) (fun _ _ x a j ha => x.2 a j (fun z => by have := hP a j z; omega))
theorem j2_n {α : Type} {s : vS} {o : Option (α × vS)} (h2 : j_2 s) (h : v_T o (fun _ t => t = s)) : v_P o (fun _ t => j_2 t) := v_Pm2 (v_PT h) (fun _ _ x => by rw [x]; exact h2)
theorem j2_F {α : Type} {P : Nat → Nat → Prop} {s : vS} {o : Option (α × vS)} (hP : ∀ a j, P a j → 132 ≤ a) (h2 : j_2 s) (h : v_T o (fun _ t => v_CI t ∧ v_F P s t)) : v_P o (fun _ t => j_2 t) := v_Pm2 (v_PT h) (fun _ _ x => j_2N h2 (v_F_im x.2 (fun a j q => by have := hP a j q; unfold hx_N jb_k; omega)))
theorem j9_step {α β : Type} {s : vS} {o : Option (α × vS)} {f : vS → Option (β × vS)} (h7 : v_T o (fun _ s1 => v_T (f s1) (fun _ s2 => v_I7 s2))) (hc : v_P o (fun _ t => j_2 t)) (hl : v_T o (fun _ t => v_CI t ∧ v_lo s t)) (hR : v_RI s) (hm : ∀ t, v_RI t → hi_M t (f t)) : v_T o (fun _ s1 => v_T (f s1) (fun _ s2 => v_I9 s2)) := by
  obtain ⟨r, t, e, h1, h2⟩ := v_Tand h7 hl
  obtain ⟨r2, u, e2, h3⟩ := h1
  exact ⟨r, t, e, r2, u, e2, h3, j_2hi (hc r t e) (hm t (v_RI_lo hR h2.2) r2 u e2)⟩
/-- and the answers alike -/
theorem j9_ans {α : Type} {s : vS} {o : Option (α × vS)} {f : vS → Option (α × vS)} (hj : v_T o (fun _ s1 => v_T (f s1) (fun _ s2 => v_I9 s2))) (hl : v_T o (fun _ t => v_CI t ∧ v_lo s t)) (ha : ∀ t, v_lo s t → ∀ r1 s1 r2 t1, o = some (r1, s1) → f t = some (r2, t1) → s1 = t → r1 = r2) : v_T o (fun r1 s1 => v_T (f s1) (fun r2 s2 => v_I9 s2 ∧ r1 = r2)) := by
  obtain ⟨r1, s1, e1, h1, h2⟩ := v_Tand hj hl
  obtain ⟨r2, s2, e2, h3⟩ := h1
  exact ⟨r1, s1, e1, r2, s2, e2, h3, ha s1 h2.2 r1 s1 r2 s2 e1 e2 rfl⟩
theorem k_lawI {s : vS} (h : v_I9 s) (b c : Int32) : v_P (f_Ol_law b c s) (fun _ t => j_2 t) := k_law b c s h.2 h.1.1.1.1.1.1.1.1.1.1 (by rw [h.1.2.2.1.1]; exact h.1.1.1.1.1.2.2.1)
theorem k_lawsI {s : vS} (h : v_I9 s) (b c d : Int32) : v_P (f_Ol_laws b c d s) (fun _ t => j_2 t) := k_laws b c d s ⟨h.2, h.1.1.1.1.1.1.1.1.1⟩
theorem j_HhI {s : vS} (h : v_I9 s) : j_Hh s := j_Hh_of h.1.2 h.1.1.1.1.1.2 h.1.1.1.1.1.1.1.1
