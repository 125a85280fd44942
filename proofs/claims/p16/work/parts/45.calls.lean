/-! the class: its calls -/
def v_KC (s : vS) : Prop := v_KQ s ∧ (-1 ≤ (s.1 0 11).toInt ∧ (s.1 0 11).toInt ≤ 10)
def v_fA (s t : vS) : Prop := ∀ a j, 132 ≤ a → a ≠ 138 → t.1 a j = s.1 a j ∧ t.2 a j = s.2 a j
def v_g (s t : vS) : Prop := (v_KC s → v_KC t) ∧ v_fA s t
theorem v_g_rf {s : vS} : v_g s s := ⟨id, fun _ _ _ _ => ⟨rfl, rfl⟩⟩
theorem v_g_tr {s t u : vS} (h1 : v_g s t) (h2 : v_g t u) : v_g s u := ⟨fun h => h2.1 (h1.1 h), fun a j ha hb => ⟨(h2.2 a j ha hb).1.trans (h1.2 a j ha hb).1, (h2.2 a j ha hb).2.trans (h1.2 a j ha hb).2⟩⟩
theorem v_g_fr {s t : vS} (h : v_fr s t) : v_g s t := ⟨fun q => ⟨v_KQ_fr q.1 h, by rw [(h 0 11 (by unfold v_sc; omega)).1]; exact q.2⟩, fun a j ha hb => h a j (by unfold v_sc; omega)⟩
theorem v_g_at {s t : vS} (h1 : (s.1 8 1).toInt = (t.1 8 1).toInt ∨ (0 ≤ (t.1 8 1).toInt ∧ (t.1 8 1).toInt ≤ 10)) (h2 : (s.1 0 11).toInt = (t.1 0 11).toInt ∨ (-1 ≤ (t.1 0 11).toInt ∧ (t.1 0 11).toInt ≤ 10)) (h3 : v_fA s t) : v_g s t := by
  refine ⟨fun q => ⟨⟨?_, fun a ha => ?_⟩, ?_⟩, h3⟩
  · rcases h1 with e | e
    · rw [← e]; exact q.1.1
    · exact e
  · have h6 := v_k6 ha
    rw [(h3 a 2 (by omega) (by omega)).1]
    exact q.1.2 a ha
  · rcases h2 with e | e
    · rw [← e]; exact q.2
    · exact e
theorem v_g_w1 {s t : vS} {a i : Nat} {x : Int32} (h : v_g s t) (ha : a < 132 ∧ ¬(a = 8 ∧ i = 1) ∧ ¬(a = 0 ∧ i = 11)) : v_g s (v_w1 t a i x) := by
  refine v_g_tr h (v_g_at (Or.inl ?_) (Or.inl ?_) (fun b j hb hc => ⟨?_, rfl⟩))
  · rw [v_w1_1, if_neg (fun q => ha.2.1 ⟨q.1.symm, q.2.symm⟩)]
  · rw [v_w1_1, if_neg (fun q => ha.2.2 ⟨q.1.symm, q.2.symm⟩)]
  · rw [v_w1_1, if_neg (fun q => by omega)]
theorem v_g_cp1 {s t : vS} {a sp b dp n : Nat} (h : v_g s t) (hb : b < 132 ∧ b ≠ 8 ∧ b ≠ 0) : v_g s (v_cp1 t a sp b dp n) := by
  refine v_g_tr h (v_g_at (Or.inl ?_) (Or.inl ?_) (fun c j hc hd => ⟨?_, rfl⟩))
  · show _ = (if (8 : Nat) = b ∧ dp ≤ 1 ∧ 1 < dp + n then t.1 a (sp + (1 - dp)) else t.1 8 1).toInt
    rw [if_neg (fun q => hb.2.1 q.1.symm)]
  · show _ = (if (0 : Nat) = b ∧ dp ≤ 11 ∧ 11 < dp + n then t.1 a (sp + (11 - dp)) else t.1 0 11).toInt
    rw [if_neg (fun q => hb.2.2 q.1.symm)]
  · show (if c = b ∧ dp ≤ j ∧ j < dp + n then t.1 a (sp + (j - dp)) else t.1 c j) = _
    rw [if_neg (fun q => by omega)]
theorem v_Tgw1 {α : Type} {s0 s : vS} {a i : Nat} {x : Int32} {k : vS → Option (α × vS)} {Q : α → vS → Prop} (h : v_g s0 s) (ha : a < 132 ∧ ¬(a = 8 ∧ i = 1) ∧ ¬(a = 0 ∧ i = 11)) (hk : ∀ t, v_g s0 t → v_T (k t) Q) : v_T (v_let (v_w1 s a i x) k) Q := hk _ (v_g_w1 h ha)
theorem v_Tgcp {α : Type} {s0 s : vS} {a sp b dp n : Nat} {k : vS → Option (α × vS)} {Q : α → vS → Prop} (h : v_g s0 s) (ha : b < 132 ∧ b ≠ 8 ∧ b ≠ 0) (hk : ∀ t, v_g s0 t → v_T (k t) Q) : v_T (v_let (v_cp1 s a sp b dp n) k) Q := hk _ (v_g_cp1 h ha)
theorem v_Tgq {α β : Type} {s0 s : vS} {o : Option (α × vS)} {k : α → vS → Option (β × vS)} {Q : β → vS → Prop} (h : v_g s0 s) (h0 : v_KC s0) (hc : v_KQ s → v_T o (fun _ t => v_fr s t)) (hk : ∀ r t, v_g s0 t → v_T (k r t) Q) : v_T (v_bi o k) Q :=
  v_Tbi (hc (h.1 h0).1) (fun r t ht => hk r t (v_g_tr h (v_g_fr ht)))
theorem v_Tgg {α β : Type} {s0 s : vS} {o : Option (α × vS)} {k : α → vS → Option (β × vS)} {Q : β → vS → Prop} (h : v_g s0 s) (h0 : v_KC s0) (hc : v_KC s → v_T o (fun _ t => v_g s t)) (hk : ∀ r t, v_g s0 t → v_T (k r t) Q) : v_T (v_bi o k) Q :=
  v_Tbi (hc (h.1 h0)) (fun r t ht => hk r t (v_g_tr h ht))
/-- the quiet calls -/
theorem n_Ks {s : vS} {b : Int32} (h : 0 ≤ b.toInt ∧ b.toInt ≤ 5) : v_kd (139 + 2 * b.toNatClampNeg) = 6 := (v_shelves (v_ii h.1 (by omega))).2
theorem n_shelfAt (b : Int32) (s : vS) : v_T (f_Ol_shelfAt b s) (fun r t => t = s ∧ v_kd r = 6) := by
  unfold f_Ol_shelfAt
  refine v_Tif (fun _ => v_Tret ⟨rfl, rfl⟩) (fun c1 => v_Tif (fun _ => v_Tret ⟨rfl, rfl⟩) (fun c2 => ?_))
  have hv : v_in b 6 := ⟨by omega, by omega⟩
  exact v_Tck hv (v_Tck hv (v_Tret ⟨rfl, (v_shelves (v_ii hv.1 hv.2)).2⟩))
theorem n_isShelf (b : Int32) (s : vS) : v_T (f_Ol_isShelf b s) (fun _ t => t = s) := by
  unfold f_Ol_isShelf
  repeat' first
    | ((with_reducible refine v_Tret ?_); (focus exact rfl))
    | ((with_reducible refine v_Tret ?_); exact ⟨rfl, by first | assumption | decide | omega | exact Or.inl rfl | exact Or.inr rfl⟩)
    | ((with_reducible refine v_Tck ?_ ?_); (focus first | assumption | exact ⟨by omega, by omega⟩ | decide | omega))
    | with_reducible refine v_Tif (fun _ => ?_) (fun _ => ?_)
theorem n_isBare (a : Nat) (s : vS) : v_T (f_Sh_isBare a s) (fun _ t => t = s) := by
  unfold f_Sh_isBare
  repeat' first
    | ((with_reducible refine v_Tret ?_); (focus exact rfl))
    | ((with_reducible refine v_Tret ?_); exact ⟨rfl, by first | assumption | decide | omega | exact Or.inl rfl | exact Or.inr rfl⟩)
    | ((with_reducible refine v_Tck ?_ ?_); (focus first | assumption | exact ⟨by omega, by omega⟩ | decide | omega))
    | with_reducible refine v_Tif (fun _ => ?_) (fun _ => ?_)
theorem n_told (b : Int32) (s : vS) : v_T (f_Ol_refusalOfTold b s) (fun _ t => t = s) := by
  unfold f_Ol_refusalOfTold
  repeat' first
    | ((with_reducible refine v_Tret ?_); (focus exact rfl))
    | ((with_reducible refine v_Tret ?_); exact ⟨rfl, by first | assumption | decide | omega | exact Or.inl rfl | exact Or.inr rfl⟩)
    | ((with_reducible refine v_Tck ?_ ?_); (focus first | assumption | exact ⟨by omega, by omega⟩ | decide | omega))
    | with_reducible refine v_Tif (fun _ => ?_) (fun _ => ?_)
    | ((with_reducible refine v_Tbi (n_isShelf ..) ?_); rintro _ _ rfl)
    | ((with_reducible refine v_Tbi (n_shelfAt ..) ?_); rintro _ _ ⟨rfl, _⟩)
    | ((with_reducible refine v_Tbi (n_isBare ..) ?_); rintro _ _ rfl)
theorem n_new (b c d : Int32) (s : vS) : v_T (f_Ol_refusalOfNew b c d s) (fun _ t => t = s) := by
  unfold f_Ol_refusalOfNew
  repeat' first
    | ((with_reducible refine v_Tret ?_); (focus exact rfl))
    | ((with_reducible refine v_Tret ?_); exact ⟨rfl, by first | assumption | decide | omega | exact Or.inl rfl | exact Or.inr rfl⟩)
    | ((with_reducible refine v_Tck ?_ ?_); (focus first | assumption | exact ⟨by omega, by omega⟩ | decide | omega))
    | with_reducible refine v_Tif (fun _ => ?_) (fun _ => ?_)
    | ((with_reducible refine v_Tbi (n_isDate ..) ?_); rintro _ _ rfl)
    | ((with_reducible refine v_Tbi (n_isSaying ..) ?_); rintro _ _ rfl)
    | ((with_reducible refine v_Tbi (n_told ..) ?_); rintro _ _ rfl)
theorem n_valueOf (b c : Int32) (s : vS) : v_T (f_Ct_valueOf b c s) (fun _ t => t = s) := by
  unfold f_Ct_valueOf
  refine v_Tbi (n_at _ _) ?_
  rintro r _ ⟨rfl, h4, _⟩
  repeat' first
    | ((with_reducible refine v_Tret ?_); (focus exact rfl))
    | ((with_reducible refine v_Tret ?_); exact ⟨rfl, by first | assumption | decide | omega | exact Or.inl rfl | exact Or.inr rfl⟩)
    | ((with_reducible refine v_Tck ?_ ?_); (focus first | assumption | exact ⟨by omega, by omega⟩ | decide | omega))
    | with_reducible refine v_Tif (fun _ => ?_) (fun _ => ?_)
theorem q_ofLaw (b c : Int32) (s0 : vS) (h0 : v_KQ s0) : v_T (f_Ol_ofLaw b c s0) (fun _ t => v_fr s0 t) := by
  have hf : v_fr s0 s0 := v_fr_rf
  unfold f_Ol_ofLaw
  refine v_Tif (fun _ => v_Tif (fun _ => ?_) (fun _ => ?_)) (fun _ => ?_)
  · skip
    repeat' first
      | ((with_reducible refine v_Tret ?_); (focus assumption))
      | ((with_reducible refine v_Tret ?_); exact ⟨by assumption, by first | assumption | decide | omega | exact Or.inl rfl | exact Or.inr rfl⟩)
      | ((with_reducible refine v_Tck ?_ ?_); (focus first | assumption | exact ⟨by omega, by omega⟩ | decide | omega))
      | with_reducible refine v_Tif (fun _ => ?_) (fun _ => ?_)
      | with_reducible refine v_Tlw1 (by assumption) (by first | assumption | (unfold v_sc; omega)) (fun _ _ => ?_)
      | with_reducible refine v_Tlw2 (by assumption) (by first | assumption | (unfold v_sc; omega)) (fun _ _ => ?_)
      | ((with_reducible refine v_Tbi (n_isThere ..) ?_); rintro _ _ ⟨rfl, _⟩)
  · refine v_TbiQ hf (q_hear _) h0 (fun _ t ht => ?_)
    refine v_Tif (fun _ => ?_) (fun _ => ?_)
    · skip
      repeat' first
        | ((with_reducible refine v_Tret ?_); (focus assumption))
        | ((with_reducible refine v_Tret ?_); exact ⟨by assumption, by first | assumption | decide | omega | exact Or.inl rfl | exact Or.inr rfl⟩)
        | ((with_reducible refine v_Tck ?_ ?_); (focus first | assumption | exact ⟨by omega, by omega⟩ | decide | omega))
        | with_reducible refine v_Tif (fun _ => ?_) (fun _ => ?_)
        | with_reducible refine v_Tlw1 (by assumption) (by first | assumption | (unfold v_sc; omega)) (fun _ _ => ?_)
        | with_reducible refine v_Tlw2 (by assumption) (by first | assumption | (unfold v_sc; omega)) (fun _ _ => ?_)
        | ((with_reducible refine v_Tbi (n_isStanding ..) ?_); rintro _ _ rfl)
    · refine v_Tbi (n_at _ _) ?_
      rintro r _ ⟨rfl, h4, _⟩
      repeat' first
        | ((with_reducible refine v_Tret ?_); (focus assumption))
        | ((with_reducible refine v_Tret ?_); exact ⟨by assumption, by first | assumption | decide | omega | exact Or.inl rfl | exact Or.inr rfl⟩)
        | ((with_reducible refine v_Tck ?_ ?_); (focus first | assumption | exact ⟨by omega, by omega⟩ | decide | omega))
        | with_reducible refine v_Tif (fun _ => ?_) (fun _ => ?_)
        | with_reducible refine v_Tlw1 (by assumption) (by first | assumption | (unfold v_sc; omega)) (fun _ _ => ?_)
        | with_reducible refine v_Tlw2 (by assumption) (by first | assumption | (unfold v_sc; omega)) (fun _ _ => ?_)
        | ((with_reducible refine v_Tbi (n_size ..) ?_); rintro _ _ rfl)
  · skip
    repeat' first
      | ((with_reducible refine v_Tret ?_); (focus assumption))
      | ((with_reducible refine v_Tret ?_); exact ⟨by assumption, by first | assumption | decide | omega | exact Or.inl rfl | exact Or.inr rfl⟩)
      | ((with_reducible refine v_Tck ?_ ?_); (focus first | assumption | exact ⟨by omega, by omega⟩ | decide | omega))
      | with_reducible refine v_Tif (fun _ => ?_) (fun _ => ?_)
      | with_reducible refine v_Tlw1 (by assumption) (by first | assumption | (unfold v_sc; omega)) (fun _ _ => ?_)
      | with_reducible refine v_Tlw2 (by assumption) (by first | assumption | (unfold v_sc; omega)) (fun _ _ => ?_)
      | ((with_reducible refine v_Tbi (n_valueOf ..) ?_); rintro _ _ rfl)
theorem q_of (b c : Int32) (s0 : vS) (h0 : v_KQ s0) : v_T (f_Ol_of b c s0) (fun _ t => v_fr s0 t) := by
  have hf : v_fr s0 s0 := v_fr_rf
  unfold f_Ol_of
  repeat' first
    | ((with_reducible refine v_Tret ?_); (focus assumption))
    | ((with_reducible refine v_Tret ?_); exact ⟨by assumption, by first | assumption | decide | omega | exact Or.inl rfl | exact Or.inr rfl⟩)
    | ((with_reducible refine v_Tck ?_ ?_); (focus first | assumption | exact ⟨by omega, by omega⟩ | decide | omega))
    | with_reducible refine v_Tif (fun _ => ?_) (fun _ => ?_)
    | with_reducible refine v_Tlw1 (by assumption) (by first | assumption | (unfold v_sc; omega)) (fun _ _ => ?_)
    | with_reducible refine v_Tlw2 (by assumption) (by first | assumption | (unfold v_sc; omega)) (fun _ _ => ?_)
    | ((with_reducible refine v_Tbi (n_isWord ..) ?_); rintro _ _ rfl)
    | ((with_reducible refine v_Tbi (n_meaning ..) ?_); rintro _ _ rfl)
    | ((with_reducible refine v_Tbi (n_knows ..) ?_); rintro _ _ rfl)
    | (with_reducible refine v_TbiQ (by assumption) (fun hk => by apply q_ofLaw <;> assumption) h0 (fun _ _ _ => ?_))
theorem q_speaks (b c : Int32) (s0 : vS) (h0 : v_KQ s0) : v_T (f_Ol_speaks b c s0) (fun _ t => v_fr s0 t) := by
  have hf : v_fr s0 s0 := v_fr_rf
  unfold f_Ol_speaks
  repeat' first
    | ((with_reducible refine v_Tret ?_); (focus assumption))
    | ((with_reducible refine v_Tret ?_); exact ⟨by assumption, by first | assumption | decide | omega | exact Or.inl rfl | exact Or.inr rfl⟩)
    | ((with_reducible refine v_Tbi (n_at _ _) ?_); rintro r _ ⟨rfl, h4, _⟩)
    | ((with_reducible refine v_Tck ?_ ?_); (focus first | assumption | exact ⟨by omega, by omega⟩ | decide | omega))
    | with_reducible refine v_Tif (fun _ => ?_) (fun _ => ?_)
    | with_reducible refine v_Tlw1 (by assumption) (by first | assumption | (unfold v_sc; omega)) (fun _ _ => ?_)
    | with_reducible refine v_Tlw2 (by assumption) (by first | assumption | (unfold v_sc; omega)) (fun _ _ => ?_)
    | ((with_reducible refine v_Tbi (n_placeOf ..) ?_); rintro _ _ rfl)
    | ((with_reducible refine v_Tbi (n_knows ..) ?_); rintro _ _ rfl)
    | ((with_reducible refine v_Tbi (n_has ..) ?_); rintro _ _ rfl)
    | (with_reducible refine v_TbiQ (by assumption) (fun hk => by apply q_hear <;> assumption) h0 (fun _ _ _ => ?_))
theorem q_verdict (b c : Int32) (s0 : vS) (h0 : v_KQ s0) : v_T (f_Ol_verdict b c s0) (fun _ t => v_fr s0 t) := by
  have hf : v_fr s0 s0 := v_fr_rf
  unfold f_Ol_verdict
  refine v_Tbi (n_placeOf _ _) ?_
  rintro r _ rfl
  refine v_Tif (fun _ => v_Tret hf) (fun _ => v_Tif (fun _ => v_Tret hf) (fun _ => v_Tif (fun _ => ?_) (fun _ => v_Tret hf)))
  refine v_TbiQ hf (q_hear _) h0 (fun _ t ht => ?_)
  refine v_Tbi (n_holder _ _ _ (v_KQ_fr h0 ht)) ?_
  rintro r2 _ ⟨rfl, hr2⟩
  refine v_Ton (fun _ => v_Tret ht) (fun b hb => v_Tck (hr2 b hb).1 ?_)
  refine v_Tif (fun _ => v_Tret ht) (fun _ => v_Tif (fun _ => v_Tret ht) (fun _ => ?_))
  refine v_Tbi (n_beatenBy _ _ _ (v_KQ_fr h0 ht)) ?_
  rintro _ _ rfl
  exact v_Tret ht
theorem q_judge (b : Int32) (s0 : vS) (h0 : v_KQ s0) : v_T (f_Ol_judge b s0) (fun _ t => v_fr s0 t) := by
  have hf : v_fr s0 s0 := v_fr_rf
  unfold f_Ol_judge
  refine v_Tbi (n_told _ _) ?_
  rintro r _ rfl
  refine v_Tif (fun _ => ?_) (fun _ => v_Tret hf)
  refine v_TbiQ hf (q_hear _) h0 (fun _ t ht => ?_)
  refine v_Tbi (n_shelfAt _ _) ?_
  rintro r2 _ ⟨rfl, h6⟩
  refine v_Tck h6 ?_
  refine v_Tbi (n_firstWrong r2 h6 _ (v_KQ_fr h0 ht)) ?_
  rintro _ _ rfl
  exact v_Tif (fun _ => v_Tret ht) (fun _ => v_Tret ht)
theorem n_never_L (k : Int32 → vS → Option (Int32 × vS)) (hk : ∀ x s, v_T (k x s) (fun _ t => t = s)) : ∀ (m n : Nat) (u v : Int32) (s : vS), v_KQ s → 125 ≤ v.toInt + m → m < n → v_T (f_Ol_never_L11 k n u v s) (fun _ t => t = s) := by
  intro m
  induction m with
  | zero =>
    intro n u v s h h1 h2
    obtain ⟨n, rfl⟩ : ∃ q, n = q + 1 := ⟨n - 1, by omega⟩
    show v_T (f_Ol_never_L11b k (f_Ol_never_L11 k n) u v s) _
    unfold f_Ol_never_L11b
    rw [if_pos (by omega)]
    exact hk u s
  | succ m ih =>
    intro n u v s h h1 h2
    obtain ⟨n, rfl⟩ : ∃ q, n = q + 1 := ⟨n - 1, by omega⟩
    show v_T (f_Ol_never_L11b k (f_Ol_never_L11 k n) u v s) _
    unfold f_Ol_never_L11b
    refine v_Tif (fun _ => hk u s) (fun c => ?_)
    have e := v_inc (x := v) (by omega)
    refine v_Tbi (n_holder _ _ _ h) ?_
    rintro r2 _ ⟨rfl, hr2⟩
    exact v_Ton (fun _ => ih _ _ _ _ h (by omega) (by omega)) (fun b hb => v_Tck (hr2 b hb).1 (ih _ _ _ _ h (by omega) (by omega)))
theorem q_never (s0 : vS) (h0 : v_KQ s0) : v_T (f_Ol_never s0) (fun _ t => v_fr s0 t) := by
  unfold f_Ol_never
  refine v_TbiQ v_fr_rf (q_hear _) h0 (fun _ t ht => ?_)
  refine v_Tm (n_never_L _ (fun x s => ?_) 125 4096 0 0 t (v_KQ_fr h0 ht) (by decide) (by decide)) (fun r u e => by rw [e]; exact ht)
  refine v_Tbi (n_numbers _) ?_
  rintro _ _ rfl
  exact v_Tret rfl
theorem q_clash (b c : Int32) (s0 : vS) (h0 : v_KQ s0) : v_T (f_Ol_clash b c s0) (fun _ t => v_fr s0 t) := by
  have hf : v_fr s0 s0 := v_fr_rf
  unfold f_Ol_clash
  repeat' first
    | ((with_reducible refine v_Tret ?_); (focus assumption))
    | ((with_reducible refine v_Tret ?_); exact ⟨by assumption, by first | assumption | decide | omega | exact Or.inl rfl | exact Or.inr rfl⟩)
    | ((with_reducible refine v_Tbi (n_at _ _) ?_); rintro r _ ⟨rfl, h4, _⟩)
    | with_reducible refine v_TbiQ (by assumption) (n_Clear _ _ v_sc138) h0 (fun _ _ _ => ?_)
    | with_reducible refine v_TbiQ (by assumption) (n_TakeBoth _ _ _ _ v_sc138) h0 (fun _ _ _ => ?_)
    | ((with_reducible refine v_Tck ?_ ?_); (focus first | assumption | exact ⟨by omega, by omega⟩ | decide | omega))
    | with_reducible refine v_Tif (fun _ => ?_) (fun _ => ?_)
    | with_reducible refine v_Tlw1 (by assumption) (by first | assumption | (unfold v_sc; omega)) (fun _ _ => ?_)
    | with_reducible refine v_Tlw2 (by assumption) (by first | assumption | (unfold v_sc; omega)) (fun _ _ => ?_)
    | ((with_reducible refine v_Tbi (n_isEither ..) ?_); rintro _ _ rfl)
    | ((with_reducible refine v_Tbi (n_isThere ..) ?_); rintro _ _ ⟨rfl, _⟩)
    | (with_reducible refine v_TbiQ (by assumption) (fun hk => by apply q_hear <;> assumption) h0 (fun _ _ _ => ?_))
    | ((with_reducible refine v_Tbi (n_first ..) ?_); rintro _ _ rfl)
    | ((with_reducible refine v_Tbi (n_size ..) ?_); rintro _ _ rfl)
theorem q_write (b c d : Int32) (s0 : vS) (h0 : v_KQ s0) : v_T (f_Ol_write b c d s0) (fun _ t => v_fr s0 t) := by
  have hf : v_fr s0 s0 := v_fr_rf
  unfold f_Ol_write
  refine v_Tbi (n_new _ _ _ _) ?_
  rintro r _ rfl
  refine v_Tif (fun _ => ?_) (fun _ => v_Tret hf)
  refine v_Tbi (n_shelfAt _ _) ?_
  rintro r2 _ ⟨rfl, h6⟩
  refine v_Tck h6 ?_
  refine v_Tbi (n_isAllTwos r2 h6 _ h0) ?_
  rintro _ _ rfl
  refine v_Tif (fun _ => v_Tret hf) (fun _ => ?_)
  refine v_TbiQ hf (q_hear _) h0 (fun _ t ht => ?_)
  refine v_TbiQ ht (q_prepare _ _ _ _) h0 (fun _ t ht => ?_)
  exact v_TbiQ ht (q_fitting r2 h6 _) h0 (fun _ t ht => v_Tret ht)
theorem q_bars (b c d : Int32) (s0 : vS) (h0 : v_KQ s0) : v_T (f_Ol_bars b c d s0) (fun _ t => v_fr s0 t) := by
  have hf : v_fr s0 s0 := v_fr_rf
  unfold f_Ol_bars
  refine v_Tbi (n_new _ _ _ _) ?_
  rintro r _ rfl
  refine v_Tif (fun _ => ?_) (fun _ => v_Tret hf)
  refine v_TbiQ hf (q_hear _) h0 (fun _ t ht => ?_)
  refine v_TbiQ ht (q_prepare _ _ _ _) h0 (fun _ t ht => ?_)
  refine v_Tbi (n_shelfAt _ _) ?_
  rintro r2 _ ⟨rfl, h6⟩
  refine v_Tck h6 ?_
  refine v_TbiQ2 ht (q_barring r2 h6 _) h0 (fun r3 t ht hr => ?_)
  exact v_Ton (fun _ => v_Tret ht) (fun b hb => v_Tck (hr b hb).1 (v_Tret ht))
theorem q_false_L (s0 : vS) (h0 : v_KQ s0) (p : Nat) (hp : v_kd p = 6) (x : Int32) (hx : x.toInt ≤ 1023) (k : Int32 → vS → Option (Int32 × vS)) (hk : ∀ x s, v_fr s0 s → v_T (k x s) (fun _ t => v_fr s0 t)) : ∀ (m n : Nat) (u v w : Int32) (s : vS), w.toInt + m = 1024 → m ≤ 1024 → v_fr s0 s → m < n → v_T (f_Ol_falseOnes_L55 p x k n u v w s) (fun _ t => v_fr s0 t) := by
  intro m
  induction m with
  | zero =>
    intro n u v w s hm h9 hf hn
    obtain ⟨n, rfl⟩ : ∃ q, n = q + 1 := ⟨n - 1, by omega⟩
    show v_T (f_Ol_falseOnes_L55b p x k (f_Ol_falseOnes_L55 p x k n) u v w s) _
    unfold f_Ol_falseOnes_L55b
    rw [if_pos (by omega)]
    exact hk _ s hf
  | succ m ih =>
    intro n u v w s hm h9 hf hn
    obtain ⟨n, rfl⟩ : ∃ q, n = q + 1 := ⟨n - 1, by omega⟩
    show v_T (f_Ol_falseOnes_L55b p x k (f_Ol_falseOnes_L55 p x k n) u v w s) _
    unfold f_Ol_falseOnes_L55b
    refine v_Tif (fun _ => hk _ s hf) (fun q => ?_)
    have e := v_inc (x := w) (by omega)
    refine v_Tbi (n_In _ _) ?_
    rintro _ _ rfl
    refine v_Tif (fun _ => ih _ _ _ _ _ (by omega) (by omega) hf (by omega)) (fun _ => ?_)
    refine v_TbiQ hf (q_stand _ _) h0 (fun _ t ht => ?_)
    refine v_Tbi (n_firstWrong p hp _ (v_KQ_fr h0 ht)) ?_
    rintro _ _ rfl
    exact v_Tif (fun _ => ih _ _ _ _ _ (by omega) (by omega) ht (by omega)) (fun _ => ih _ _ _ _ _ (by omega) (by omega) ht (by omega))
theorem v_pow {x : Int32} (h : 0 ≤ x.toInt ∧ x.toInt ≤ 10) : (((1 : Int32) <<< (x &&& 31)) - (1 : Int32)).toInt = 2 ^ x.toInt.toNat - 1 := by
  rcases (show x.toInt = 0 ∨ x.toInt = 1 ∨ x.toInt = 2 ∨ x.toInt = 3 ∨ x.toInt = 4 ∨ x.toInt = 5 ∨ x.toInt = 6 ∨ x.toInt = 7 ∨ x.toInt = 8 ∨ x.toInt = 9 ∨ x.toInt = 10 by omega) with e | e | e | e | e | e | e | e | e | e | e <;>
  · rw [v_of h.1, e]
    decide
theorem v_pow_le {x : Int32} (h : 0 ≤ x.toInt ∧ x.toInt ≤ 10) : (((1 : Int32) <<< (x &&& 31)) - (1 : Int32)).toInt ≤ 1023 := by
  rw [v_pow h]
  have h1 : 2 ^ x.toInt.toNat ≤ 2 ^ 10 := Nat.pow_le_pow_right (by decide) (by omega)
  have h2 : ((2 ^ x.toInt.toNat : Nat) : Int) ≤ ((2 ^ 10 : Nat) : Int) := Int.ofNat_le.mpr h1
  rw [Int.natCast_pow] at h2
  have h3 : ((2 ^ 10 : Nat) : Int) = 1024 := rfl
  have h4 : ((2 : Nat) : Int) = 2 := rfl
  rw [h3, h4] at h2
  omega
theorem q_false (b : Int32) (s0 : vS) (h0 : v_KQ s0) : v_T (f_Ol_falseOnes b s0) (fun _ t => v_fr s0 t) := by
  have hf : v_fr s0 s0 := v_fr_rf
  unfold f_Ol_falseOnes
  refine v_Tbi (n_told _ _) ?_
  rintro r _ rfl
  refine v_Tif (fun _ => ?_) (fun _ => v_Tret hf)
  refine v_Tbi (n_shelfAt _ _) ?_
  rintro r2 _ ⟨rfl, h6⟩
  refine v_Tck h6 ?_
  refine v_Tbi (n_isAllTwos r2 h6 _ h0) ?_
  rintro _ _ rfl
  refine v_Tif (fun _ => v_Tret hf) (fun _ => ?_)
  refine v_TbiQ hf (q_hear _) h0 (fun _ t ht => ?_)
  have hm := (v_KQ_fr h0 ht).1
  refine v_Tbi (show v_T (f_Ct_numbers t) (fun r u => u = t ∧ r.toInt ≤ 1023) from v_Tret ⟨rfl, v_pow_le hm⟩) ?_
  rintro r3 _ ⟨rfl, h3⟩
  exact q_false_L _ h0 r2 h6 r3 h3 _ (fun x s h => v_Tret h) 1024 4096 11 (-2) 0 _ (by decide) (by decide) ht (by decide)
theorem q_unlike_L (s0 : vS) (h0 : v_KQ s0) (p x : Int32) (k : vS → Option (Int32 × vS)) (hk : ∀ s, v_fr s0 s → v_T (k s) (fun _ t => v_fr s0 t)) : ∀ (m n : Nat) (v : Int32) (s : vS), v.toInt + m = 125 → m ≤ 125 → v_fr s0 s → m < n → v_T (f_Ol_unlike_L49 p x k n v s) (fun _ t => v_fr s0 t) := by
  intro m
  induction m with
  | zero =>
    intro n v s hm h9 hf hn
    obtain ⟨n, rfl⟩ : ∃ q, n = q + 1 := ⟨n - 1, by omega⟩
    show v_T (f_Ol_unlike_L49b p x k (f_Ol_unlike_L49 p x k n) v s) _
    unfold f_Ol_unlike_L49b
    rw [if_pos (by omega)]
    exact hk s hf
  | succ m ih =>
    intro n v s hm h9 hf hn
    obtain ⟨n, rfl⟩ : ∃ q, n = q + 1 := ⟨n - 1, by omega⟩
    show v_T (f_Ol_unlike_L49b p x k (f_Ol_unlike_L49 p x k n) v s) _
    unfold f_Ol_unlike_L49b
    refine v_Tif (fun _ => hk s hf) (fun q => ?_)
    have e := v_inc (x := v) (by omega)
    refine v_Tbi (n_verdictIn _ _ _ (v_KQ_fr h0 hf)) ?_
    rintro _ _ rfl
    refine v_Tbi (n_verdictIn _ _ _ (v_KQ_fr h0 hf)) ?_
    rintro _ _ rfl
    refine v_Tif (fun _ => ih _ _ _ (by omega) (by omega) hf (by omega)) (fun _ => ?_)
    exact v_TbiQ hf (n_Add _ _ _ v_sc138) h0 (fun _ t ht => ih _ _ _ (by omega) (by omega) ht (by omega))
theorem q_unlike (b c : Int32) (s0 : vS) (h0 : v_KQ s0) : v_T (f_Ol_unlike b c s0) (fun _ t => v_fr s0 t) := by
  have hf : v_fr s0 s0 := v_fr_rf
  unfold f_Ol_unlike
  repeat' first
    | ((with_reducible refine v_Tret ?_); (focus assumption))
    | ((with_reducible refine v_Tret ?_); exact ⟨by assumption, by first | assumption | decide | omega | exact Or.inl rfl | exact Or.inr rfl⟩)
    | with_reducible refine v_TbiQ (by assumption) (n_Clear _ _ v_sc138) h0 (fun _ _ _ => ?_)
    | with_reducible refine q_unlike_L _ h0 _ _ _ (fun _ _ => ?_) 125 4096 0 _ (by decide) (by decide) (by assumption) (by decide)
    | ((with_reducible refine v_Tck ?_ ?_); (focus first | assumption | exact ⟨by omega, by omega⟩ | decide | omega))
    | with_reducible refine v_Tif (fun _ => ?_) (fun _ => ?_)
    | with_reducible refine v_Tlw1 (by assumption) (by first | assumption | (unfold v_sc; omega)) (fun _ _ => ?_)
    | with_reducible refine v_Tlw2 (by assumption) (by first | assumption | (unfold v_sc; omega)) (fun _ _ => ?_)
    | ((with_reducible refine v_Tbi (n_isRule ..) ?_); rintro _ _ rfl)
    | ((with_reducible refine v_Tbi (n_isEither ..) ?_); rintro _ _ rfl)
    | ((with_reducible refine v_Tbi (n_size ..) ?_); rintro _ _ rfl)
    | ((with_reducible refine v_Tbi (n_first ..) ?_); rintro _ _ rfl)
    | (with_reducible refine v_TbiQ (by assumption) (fun hk => by apply q_hear <;> assumption) h0 (fun _ _ _ => ?_))
theorem n_rings_L (k : Int32 → vS → Option (Int32 × vS)) (hk : ∀ x s, v_T (k x s) (fun _ t => t = s)) : ∀ (m n : Nat) (u v : Int32) (s : vS), v_KQ s → (s.1 8 1).toInt ≤ v.toInt + m → m < n → v_T (f_Ol_rings_L4 k n u v s) (fun _ t => t = s) := by
  intro m
  induction m with
  | zero =>
    intro n u v s h h1 h2
    obtain ⟨n, rfl⟩ : ∃ q, n = q + 1 := ⟨n - 1, by omega⟩
    show v_T (f_Ol_rings_L4b k (f_Ol_rings_L4 k n) u v s) _
    unfold f_Ol_rings_L4b
    rw [if_pos (by omega)]
    exact hk u s
  | succ m ih =>
    intro n u v s h h1 h2
    obtain ⟨n, rfl⟩ : ∃ q, n = q + 1 := ⟨n - 1, by omega⟩
    show v_T (f_Ol_rings_L4b k (f_Ol_rings_L4 k n) u v s) _
    unfold f_Ol_rings_L4b
    refine v_Tif (fun _ => hk u s) (fun c => ?_)
    have e := v_inc (x := v) (by have := h.1.2; omega)
    refine v_Tbi (n_comesBack _ _ h) ?_
    rintro _ _ rfl
    exact v_Tif (fun _ => ih _ _ _ _ h (by omega) (by omega)) (fun _ => ih _ _ _ _ h (by omega) (by omega))
theorem n_rings (s : vS) (h : v_KQ s) : v_T (f_Ol_rings s) (fun _ t => t = s) := by
  unfold f_Ol_rings
  exact n_rings_L _ (fun x s => v_Tret rfl) 10 4096 0 0 s h (by have := h.1.2; show _ ≤ (0 : Int) + 10; omega) (by decide)
theorem q_count (b : Int32) (s0 : vS) (h0 : v_KQ s0) : v_T (f_Ol_count b s0) (fun _ t => v_fr s0 t) := by
  have hf : v_fr s0 s0 := v_fr_rf
  unfold f_Ol_count
  repeat' first
    | ((with_reducible refine v_Tret ?_); (focus assumption))
    | ((with_reducible refine v_Tret ?_); exact ⟨by assumption, by first | assumption | decide | omega | exact Or.inl rfl | exact Or.inr rfl⟩)
    | ((with_reducible refine v_Tbi (n_there _ h0) ?_); rintro _ _ rfl)
    | ((with_reducible refine v_Tck ?_ ?_); (focus first | assumption | exact ⟨by omega, by omega⟩ | decide | omega))
    | with_reducible refine v_Tif (fun _ => ?_) (fun _ => ?_)
    | with_reducible refine v_Tlw1 (by assumption) (by first | assumption | (unfold v_sc; omega)) (fun _ _ => ?_)
    | with_reducible refine v_Tlw2 (by assumption) (by first | assumption | (unfold v_sc; omega)) (fun _ _ => ?_)
    | ((with_reducible refine v_Tbi (n_In ..) ?_); rintro _ _ rfl)
    | (with_reducible refine v_TbiQ (by assumption) (fun hk => by apply q_hear <;> assumption) h0 (fun _ _ _ => ?_))
/-- the calls that change laws, words, changes -/
theorem g_feed (b : Int32) (s0 : vS) (h0 : v_KC s0) : v_T (f_Ol_feed b s0) (fun _ t => v_g s0 t) := by
  have hf : v_g s0 s0 := v_g_rf
  unfold f_Ol_feed
  repeat' first
    | ((with_reducible refine v_Tret ?_); (focus exact (by assumption)))
    | ((with_reducible refine v_Tck ?_ ?_); (focus exact ⟨by omega, by omega⟩))
    | with_reducible refine v_Tif (fun _ => ?_) (fun _ => ?_)
    | with_reducible refine v_Tgw1 (by assumption) (by omega) (fun _ _ => ?_)
theorem g_admit (b c d : Int32) (s0 : vS) (h0 : v_KC s0) : v_T (f_Ct_admit b c d 4 s0) (fun _ t => v_g s0 t) := by
  have hf : v_g s0 s0 := v_g_rf
  have hm := h0.1.1
  unfold f_Ct_admit
  refine v_Tif (fun q => ?_) (fun _ => v_Tret hf)
  have e := v_inc (x := s0.1 8 1) (by omega)
  unfold f_Ct_at
  rw [if_neg (by omega), if_neg (by omega), if_pos (show v_in (s0.1 8 1) 10 from ⟨by omega, by omega⟩), if_pos (show v_in (s0.1 8 1) 10 from ⟨by omega, by omega⟩)]
  have hv := v_ii (i := s0.1 8 1) (n := 10) (by omega) (by omega)
  show v_T (if v_kd (23 + 5 * (s0.1 8 1).toNatClampNeg) = 4 then _ else none) _
  refine v_Tck (v_laws hv).2 ?_
  generalize hr : 23 + 5 * (s0.1 8 1).toNatClampNeg = r
  have hr2 : 23 ≤ r ∧ r ≤ 68 := by omega
  refine v_Tlet (v_Tlet (v_Tlet ?_))
  have h1 : v_g s0 (v_w1 (v_w1 (v_w1 s0 r 1 b) r 2 c) r 3 d) := v_g_w1 (v_g_w1 (v_g_w1 hf (by omega)) (by omega)) (by omega)
  have m1 : (v_w1 (v_w1 (v_w1 s0 r 1 b) r 2 c) r 3 d).1 8 1 = s0.1 8 1 := by
    rw [v_w1_1, if_neg (by omega), v_w1_1, if_neg (by omega), v_w1_1, if_neg (by omega)]
  generalize v_w1 (v_w1 (v_w1 s0 r 1 b) r 2 c) r 3 d = s1 at h1 m1
  unfold f_Tx_copyFrom
  refine v_Tbi (P := fun _ t => v_g s0 t ∧ t.1 8 1 = s0.1 8 1) (v_Tck (by decide) (v_Tlet (v_Tlet (v_Tret ⟨v_g_w1 (v_g_cp1 h1 (by omega)) (by omega), ?_⟩)))) ?_
  · rw [v_w1_1, if_neg (by omega)]
    show (if (8 : Nat) = r + 1 + 1 ∧ _ ∧ _ then _ else s1.1 8 1) = _
    rw [if_neg (by omega), m1]
  · rintro _ t ⟨ht, m2⟩
    refine v_Tlet (v_Tret (v_g_tr ht (v_g_at (Or.inr ?_) (Or.inl ?_) (fun a j ha hb => ⟨?_, rfl⟩))))
    · rw [v_w1_1, if_pos ⟨rfl, rfl⟩, m2]; omega
    · rw [v_w1_1, if_neg (by omega)]
    · rw [v_w1_1, if_neg (by omega)]
theorem g_law (b c : Int32) (s0 : vS) (h0 : v_KC s0) : v_T (f_Ol_law b c s0) (fun _ t => v_g s0 t) := by
  have hf : v_g s0 s0 := v_g_rf
  unfold f_Ol_law
  repeat' first
    | ((with_reducible refine v_Tret ?_); (focus exact (by assumption)))
    | with_reducible refine v_Tif (fun _ => ?_) (fun _ => ?_)
    | with_reducible refine v_Tgw1 (by assumption) (by omega) (fun _ _ => ?_)
    | ((with_reducible refine v_Tbi (n_isDate ..) ?_); rintro _ _ rfl)
    | ((with_reducible refine v_Tbi (n_isSaying ..) ?_); rintro _ _ rfl)
    | with_reducible refine v_Tgq (by assumption) h0 (fun _ => q_read 1 (Or.inl rfl) _ _) (fun _ _ _ => ?_)
    | with_reducible refine v_Tgg (by assumption) h0 (g_admit _ _ _ _) (fun _ _ _ => ?_)
theorem g_six (b : Nat) (c : Int32) (s0 : vS) (h0 : v_KC s0) : v_T (f_Ol_cameFromSix b c s0) (fun _ t => v_g s0 t) := by
  have hf : v_g s0 s0 := v_g_rf
  unfold f_Ol_cameFromSix
  repeat' first
    | ((with_reducible refine v_Tret ?_); (focus exact (by assumption)))
    | with_reducible refine v_Tif (fun _ => ?_) (fun _ => ?_)
    | with_reducible refine v_Tgw1 (by assumption) (by omega) (fun _ _ => ?_)
    | ((with_reducible refine v_Tbi (n_Shat ..) ?_); rintro _ _ rfl)
    | ((with_reducible refine v_Tbi (n_isDate ..) ?_); rintro _ _ rfl)
    | ((with_reducible refine v_Tbi (n_isSaying ..) ?_); rintro _ _ rfl)
    | ((with_reducible refine v_Tbi (n_isStruck ..) ?_); rintro _ _ rfl)
    | ((with_reducible refine v_Tbi (n_isWord ..) ?_); rintro _ _ rfl)
    | with_reducible refine v_Tgq (by assumption) h0 (fun _ => q_read 2 (Or.inr rfl) _ _) (fun _ _ _ => ?_)
    | with_reducible refine v_Tgg (by assumption) h0 (g_admit _ _ _ _) (fun _ _ _ => ?_)
theorem g_laws_L (s0 : vS) (h0 : v_KC s0) (x y : Int32) (p : Nat) (hy : y.toInt ≤ 10) (k : Int32 → vS → Option (Int32 × vS)) (hk : ∀ x s, v_g s0 s → v_T (k x s) (fun _ t => v_g s0 t)) : ∀ (m n : Nat) (v : Int32) (s : vS), v.toInt + m = 10 → m ≤ 10 → v_g s0 s → m < n → v_T (f_Ol_laws_L57 x y p k n v s) (fun _ t => v_g s0 t) := by
  intro m
  induction m with
  | zero =>
    intro n v s hm h9 hf hn
    obtain ⟨n, rfl⟩ : ∃ q, n = q + 1 := ⟨n - 1, by omega⟩
    show v_T (f_Ol_laws_L57b x y p k (f_Ol_laws_L57 x y p k n) v s) _
    unfold f_Ol_laws_L57b
    rw [if_pos (by omega)]
    exact hk v s hf
  | succ m ih =>
    intro n v s hm h9 hf hn
    obtain ⟨n, rfl⟩ : ∃ q, n = q + 1 := ⟨n - 1, by omega⟩
    show v_T (f_Ol_laws_L57b x y p k (f_Ol_laws_L57 x y p k n) v s) _
    unfold f_Ol_laws_L57b
    refine v_Tif (fun _ => hk v s hf) (fun q => ?_)
    have e := v_inc (x := v) (by omega)
    refine v_Tgg hf h0 (g_six _ _ _) (fun _ t ht => ?_)
    exact v_Tif (fun _ => hk v t ht) (fun _ => ih _ _ _ (by omega) (by omega) ht (by omega))
theorem g_laws (b c d : Int32) (s0 : vS) (h0 : v_KC s0) : v_T (f_Ol_laws b c d s0) (fun _ t => v_g s0 t) := by
  have hf : v_g s0 s0 := v_g_rf
  unfold f_Ol_laws
  repeat' first
    | ((with_reducible refine v_Tret ?_); (focus exact (by assumption)))
    | ((with_reducible refine v_Tck ?_ ?_); (focus exact (by assumption)))
    | with_reducible refine v_Tif (fun _ => ?_) (fun _ => ?_)
    | ((with_reducible refine v_Tbi (n_isShelf ..) ?_); rintro _ _ rfl)
    | ((with_reducible refine v_Tbi (n_shelfAt ..) ?_); rintro _ _ ⟨rfl, _⟩)
    | ((with_reducible refine v_Tbi (n_isBare ..) ?_); rintro _ _ rfl)
    | exact g_laws_L _ h0 _ _ _ (by omega) _ (fun x s h => v_Tret h) 10 4096 0 _ (by decide) (by decide) (by assumption) (by decide)
theorem n_mayBecome (b c d : Int32) (s : vS) : v_T (f_Ol_mayBecome b c d s) (fun _ t => t = s) := by
  unfold f_Ol_mayBecome
  repeat' first
    | ((with_reducible refine v_Tret ?_); (focus exact rfl))
    | ((with_reducible refine v_Tret ?_); exact ⟨rfl, by first | assumption | decide | omega | exact Or.inl rfl | exact Or.inr rfl⟩)
    | ((with_reducible refine v_Tck ?_ ?_); (focus first | assumption | exact ⟨by omega, by omega⟩ | decide | omega))
    | with_reducible refine v_Tif (fun _ => ?_) (fun _ => ?_)
    | ((with_reducible refine v_Tbi (n_knows ..) ?_); rintro _ _ rfl)
    | ((with_reducible refine v_Tbi (n_isDate ..) ?_); rintro _ _ rfl)
    | ((with_reducible refine v_Tbi (n_isSaying ..) ?_); rintro _ _ rfl)
    | ((with_reducible refine v_Tbi (n_isStruck ..) ?_); rintro _ _ rfl)
    | ((with_reducible refine v_Tbi (n_isRule ..) ?_); rintro _ _ rfl)
theorem g_dropFirst (s0 : vS) (h0 : v_KC s0) : v_T (f_Ch_dropFirst s0) (fun _ t => v_g s0 t) := by
  have hf : v_g s0 s0 := v_g_rf
  unfold f_Ch_dropFirst
  repeat' first
    | ((with_reducible refine v_Tret ?_); (focus exact (by assumption)))
    | ((with_reducible refine v_Tck ?_ ?_); (focus exact (by decide)))
    | with_reducible refine v_Tgcp (by assumption) (by omega) (fun _ _ => ?_)
    | with_reducible refine v_Tgw1 (by assumption) (by omega) (fun _ _ => ?_)
theorem g_Chadd1 (b c d e : Int32) (s0 : vS) (s : vS) (hf : v_g s0 s) (hs : (s.1 73 0).toInt < 40) : v_T (if (s.1 73 0).toInt < 0 then some ((), s) else (if v_in (s.1 73 0) 40 then (v_let (v_w1 s 74 (Int32.toNatClampNeg (s.1 73 0)) b) (fun s5 => (if v_in (s5.1 73 0) 40 then (v_let (v_w1 s5 75 (Int32.toNatClampNeg (s5.1 73 0)) c) (fun s7 => (if v_in (s7.1 73 0) 40 then (v_let (v_w1 s7 76 (Int32.toNatClampNeg (s7.1 73 0)) d) (fun s9 => (if v_in (s9.1 73 0) 40 then (v_let (v_w1 s9 77 (Int32.toNatClampNeg (s9.1 73 0)) e) (fun s11 => (v_let (v_w1 s11 73 0 ((s11.1 73 0) + (1 : Int32))) (fun s12 => (v_let (v_w1 s12 73 1 (s12.1 73 0)) (fun s13 => (some ((), s13)))))))) else none))) else none))) else none))) else none)) (fun _ t => v_g s0 t) := by
  refine v_Tif (fun _ => v_Tret hf) (fun q => ?_)
  have hv : v_in (s.1 73 0) 40 := ⟨by omega, by omega⟩
  refine v_Tck hv (v_Tlet ?_)
  have e1 : (v_w1 s 74 (Int32.toNatClampNeg (s.1 73 0)) b).1 73 0 = s.1 73 0 := v_w1_1.trans (if_neg (by omega))
  rw [e1]
  refine v_Tck hv (v_Tlet ?_)
  have e2 : (v_w1 (v_w1 s 74 (Int32.toNatClampNeg (s.1 73 0)) b) 75 (Int32.toNatClampNeg (s.1 73 0)) c).1 73 0 = s.1 73 0 := (v_w1_1.trans (if_neg (by omega))).trans e1
  rw [e2]
  refine v_Tck hv (v_Tlet ?_)
  have e3 : (v_w1 (v_w1 (v_w1 s 74 (Int32.toNatClampNeg (s.1 73 0)) b) 75 (Int32.toNatClampNeg (s.1 73 0)) c) 76 (Int32.toNatClampNeg (s.1 73 0)) d).1 73 0 = s.1 73 0 := (v_w1_1.trans (if_neg (by omega))).trans e2
  rw [e3]
  refine v_Tck hv (v_Tlet (v_Tlet (v_Tlet (v_Tret ?_))))
  exact v_g_w1 (v_g_w1 (v_g_w1 (v_g_w1 (v_g_w1 (v_g_w1 hf (by omega)) (by omega)) (by omega)) (by omega)) (by omega)) (by omega)
theorem g_Chadd (b c d e : Int32) (s0 : vS) (h0 : v_KC s0) : v_T (f_Ch_add b c d e s0) (fun _ t => v_g s0 t) := by
  unfold f_Ch_add
  refine v_Tif (fun q => ?_) (fun q => ?_)
  · rw [if_pos q]
    exact g_Chadd1 b c d e s0 s0 v_g_rf q
  · refine v_Tgg v_g_rf h0 (g_dropFirst _) (fun _ t ht => ?_)
    by_cases hq : (t.1 73 0).toInt < 40
    · rw [if_pos hq]
      exact g_Chadd1 b c d e s0 t ht hq
    · exact v_Tif (fun _ => v_Tret ht) (fun _ => v_Tif (fun q2 => absurd q2 hq) (fun _ => v_Tret ht))
theorem g_set (b c d : Int32) (s0 : vS) (h0 : v_KC s0) : v_T (f_Ct_set b c d s0) (fun _ t => v_g s0 t) := by
  have hf : v_g s0 s0 := v_g_rf
  unfold f_Ct_set
  refine v_Tbi (n_at _ _) ?_
  rintro r _ ⟨rfl, h4, hr⟩
  repeat' first
    | ((with_reducible refine v_Tret ?_); (focus exact (by assumption)))
    | ((with_reducible refine v_Tck ?_ ?_); (focus exact (by assumption)))
    | with_reducible refine v_Tif (fun _ => ?_) (fun _ => ?_)
    | with_reducible refine v_Tgw1 (by assumption) (by omega) (fun _ _ => ?_)
theorem g_mend (b c d : Int32) (s0 : vS) (h0 : v_KC s0) : v_T (f_Ol_mend b c d s0) (fun _ t => v_g s0 t) := by
  have hf : v_g s0 s0 := v_g_rf
  unfold f_Ol_mend
  repeat' first
    | ((with_reducible refine v_Tret ?_); (focus exact (by assumption)))
    | with_reducible refine v_Tif (fun _ => ?_) (fun _ => ?_)
    | ((with_reducible refine v_Tbi (n_mayBecome ..) ?_); rintro _ _ rfl)
    | ((with_reducible refine v_Tbi (n_valueOf ..) ?_); rintro _ _ rfl)
    | with_reducible refine v_Tgg (by assumption) h0 (g_Chadd _ _ _ _ _) (fun _ _ _ => ?_)
    | with_reducible refine v_Tgg (by assumption) h0 (g_set _ _ _ _) (fun _ _ _ => ?_)
theorem g_move (b c d : Int32) (s0 : vS) (h0 : v_KC s0) : v_T (f_Ws_move b c d s0) (fun _ t => v_g s0 t) := by
  have hf : v_g s0 s0 := v_g_rf
  unfold f_Ws_move
  repeat' first
    | ((with_reducible refine v_Tret ?_); (focus exact (by assumption)))
    | ((with_reducible refine v_Tck ?_ ?_); (focus exact ⟨by omega, by omega⟩))
    | with_reducible refine v_Tif (fun _ => ?_) (fun _ => ?_)
    | with_reducible refine v_Tgw1 (by assumption) (by omega) (fun _ _ => ?_)
theorem g_meant (b c : Int32) (s0 : vS) (h0 : v_KC s0) : v_T (f_Ol_meant b c s0) (fun _ t => v_g s0 t) := by
  have hf : v_g s0 s0 := v_g_rf
  unfold f_Ol_meant
  refine v_Tbi (n_isWord _ _) ?_
  rintro _ _ rfl
  refine v_Tif (fun _ => v_Tret hf) (fun _ => ?_)
  refine v_Tbi (n_isEither _ _) ?_
  rintro _ _ rfl
  refine v_Tif (fun _ => v_Tret hf) (fun _ => ?_)
  refine v_Tgq hf h0 (q_hear _) (fun _ t1 h1 => ?_)
  refine v_Tgq h1 h0 (q_remember _) (fun _ t2 h2 => ?_)
  refine v_Tbi (n_to _ _) ?_
  rintro _ _ rfl
  refine v_Tbi (n_from _ _) ?_
  rintro _ _ rfl
  refine v_Tgg h2 h0 (g_move _ _ _ _) (fun _ t3 h3 => ?_)
  refine v_Tgq h3 h0 (q_hear _) (fun _ t4 h4 => ?_)
  refine v_Tgq h4 h0 (q_changed _) (fun _ t5 h5 => ?_)
  refine v_Tgg h5 h0 (g_move _ _ _ _) (fun _ t6 h6 => ?_)
  refine v_Tif (fun _ => ?_) (fun _ => ?_)
  · refine v_Tbi (n_size _ _) ?_
    rintro _ _ rfl
    exact v_Tret h6
  · refine v_Tbi (n_first _ _) ?_
    rintro _ _ rfl
    exact v_Tret h6
theorem g_under (b c : Int32) (s0 : vS) (h0 : v_KC s0) : v_T (f_Ol_under b c s0) (fun _ t => v_g s0 t) := by
  have hf : v_g s0 s0 := v_g_rf
  unfold f_Ol_under
  refine v_Tbi (n_knows _ _) ?_
  rintro _ _ rfl
  refine v_Tif (fun _ => v_Tret hf) (fun _ => ?_)
  refine v_Tbi (n_isEither _ _) ?_
  rintro _ _ rfl
  refine v_Tif (fun _ => v_Tret hf) (fun _ => ?_)
  refine v_Tbi (n_isThere _ _) ?_
  rintro _ _ ⟨rfl, _⟩
  refine v_Tif (fun _ => v_Tret hf) (fun _ => ?_)
  refine v_Tgq hf h0 (q_hear _) (fun _ t1 h1 => ?_)
  refine v_Tgq h1 h0 (q_remember _) (fun _ t2 h2 => ?_)
  refine v_Tbi (n_at _ _) ?_
  rintro r _ ⟨rfl, hk, hr⟩
  refine v_Tck hk ?_
  refine v_Tgw1 h2 (by omega) (fun t3 h3 => ?_)
  refine v_Tgq h3 h0 (q_hear _) (fun _ t4 h4 => ?_)
  refine v_Tgq h4 h0 (q_changed _) (fun _ t5 h5 => ?_)
  refine v_Tgw1 h5 (by omega) (fun t6 h6 => ?_)
  refine v_Tif (fun _ => ?_) (fun _ => v_Tret h6)
  refine v_Tbi (n_size _ _) ?_
  rintro _ _ rfl
  exact v_Tret h6
theorem g_moved (b c d : Int32) (s0 : vS) (h0 : v_KC s0) : v_T (f_Ol_moved b c d s0) (fun _ t => v_g s0 t) := by
  have hf : v_g s0 s0 := v_g_rf
  unfold f_Ol_moved
  repeat' first
    | ((with_reducible refine v_Tret ?_); (focus exact (by assumption)))
    | with_reducible refine v_Tif (fun _ => ?_) (fun _ => ?_)
    | ((with_reducible refine v_Tbi (n_isWord ..) ?_); rintro _ _ rfl)
    | ((with_reducible refine v_Tbi (n_isDate ..) ?_); rintro _ _ rfl)
    | with_reducible refine v_Tgg (by assumption) h0 (g_move _ _ _ _) (fun _ _ _ => ?_)
theorem g_draw (a : Nat) (ha : a = 15 ∨ (23 ≤ a ∧ a ≤ 68 ∧ a % 5 = 3)) (s0 : vS) : v_T (f_Lw_draw a s0) (fun _ t => v_g s0 t ∧ t.1 8 1 = s0.1 8 1) := by
  unfold f_Lw_draw
  refine v_Tlet (v_Tlet (v_Tlet (v_Tret ⟨v_g_w1 (v_g_w1 (v_g_w1 v_g_rf (by omega)) (by omega)) (by omega), ?_⟩)))
  rw [v_w1_1, if_neg (by omega), v_w1_1, if_neg (by omega), v_w1_1, if_neg (by omega)]
theorem g_restore (a : Nat) (ha : a = 15 ∨ (23 ≤ a ∧ a ≤ 68 ∧ a % 5 = 3)) (s0 : vS) : v_T (f_Lw_restore a s0) (fun _ t => v_g s0 t ∧ t.1 0 11 = s0.1 0 11) := by
  unfold f_Lw_restore
  refine v_Tlet (v_Tlet (v_Tlet (v_Tret ⟨v_g_w1 (v_g_w1 (v_g_w1 v_g_rf (by omega)) (by omega)) (by omega), ?_⟩)))
  rw [v_w1_1, if_neg (by omega), v_w1_1, if_neg (by omega), v_w1_1, if_neg (by omega)]
theorem g_image_L (s0 : vS) (h0 : v_KC s0) (k : vS → Option (Int32 × vS)) (hk : ∀ s, v_g s0 s → s.1 8 1 = s0.1 8 1 → v_T (k s) (fun _ t => v_g s0 t)) : ∀ (m n : Nat) (v : Int32) (s : vS), (s0.1 8 1).toInt ≤ v.toInt + m → v_g s0 s → s.1 8 1 = s0.1 8 1 → m < n → v_T (f_Ol_image_L2 k n v s) (fun _ t => v_g s0 t) := by
  have h10 := h0.1.1.2
  intro m
  induction m with
  | zero =>
    intro n v s hm hf he hn
    obtain ⟨n, rfl⟩ : ∃ q, n = q + 1 := ⟨n - 1, by omega⟩
    show v_T (f_Ol_image_L2b k (f_Ol_image_L2 k n) v s) _
    unfold f_Ol_image_L2b
    rw [he, if_pos (by omega)]
    exact hk s hf he
  | succ m ih =>
    intro n v s hm hf he hn
    obtain ⟨n, rfl⟩ : ∃ q, n = q + 1 := ⟨n - 1, by omega⟩
    show v_T (f_Ol_image_L2b k (f_Ol_image_L2 k n) v s) _
    unfold f_Ol_image_L2b
    refine v_Tif (fun _ => hk s hf he) (fun q => ?_)
    rw [he] at q
    have e := v_inc (x := v) (by omega)
    refine v_Tbi (n_at _ _) ?_
    rintro r _ ⟨rfl, h4, hr⟩
    refine v_Tck h4 ?_
    refine v_Tbi (g_draw r hr _) ?_
    rintro _ t ⟨ht, ht2⟩
    exact ih _ _ _ (by omega) (v_g_tr hf ht) (ht2.trans he) (by omega)
theorem g_image (s0 : vS) (h0 : v_KC s0) : v_T (f_Ol_image s0) (fun _ t => v_g s0 t) := by
  unfold f_Ol_image
  have hm := h0.1.1
  refine g_image_L s0 h0 _ (fun t ht he => ?_) 10 4096 0 s0 (by show _ ≤ (0 : Int) + 10; omega) v_g_rf rfl (by decide)
  unfold f_Ws_draw
  refine v_Tbi (P := fun _ u => v_g s0 u ∧ u.1 8 1 = s0.1 8 1) (v_Tck (by decide) (v_Tlet (v_Tck (by decide) (v_Tlet (v_Tret ⟨v_g_cp1 (v_g_cp1 ht (by omega)) (by omega), ?_⟩))))) ?_
  · unfold v_cp1
    dsimp only
    rw [if_neg (by omega), if_neg (by omega), he]
  · rintro _ u ⟨hu, he⟩
    refine v_Tlet (v_Tret (v_g_tr hu (v_g_at (Or.inl ?_) (Or.inr ?_) (fun a j ha hb => ⟨?_, rfl⟩))))
    · rw [v_w1_1, if_neg (by omega)]
    · rw [v_w1_1, if_pos ⟨rfl, rfl⟩, he]; omega
    · rw [v_w1_1, if_neg (by omega)]
theorem g_back_L (s0 : vS) (h0 : v_KC s0) (k : vS → Option (Int32 × vS)) (hk : ∀ s, v_g s0 s → v_T (k s) (fun _ t => v_g s0 t)) : ∀ (m n : Nat) (v : Int32) (s : vS), (s0.1 0 11).toInt ≤ v.toInt + m → v_g s0 s → s.1 0 11 = s0.1 0 11 → m < n → v_T (f_Ol_back_L13 k n v s) (fun _ t => v_g s0 t) := by
  have h10 := h0.2.2
  intro m
  induction m with
  | zero =>
    intro n v s hm hf he hn
    obtain ⟨n, rfl⟩ : ∃ q, n = q + 1 := ⟨n - 1, by omega⟩
    show v_T (f_Ol_back_L13b k (f_Ol_back_L13 k n) v s) _
    unfold f_Ol_back_L13b
    rw [he, if_pos (by omega)]
    exact hk s hf
  | succ m ih =>
    intro n v s hm hf he hn
    obtain ⟨n, rfl⟩ : ∃ q, n = q + 1 := ⟨n - 1, by omega⟩
    show v_T (f_Ol_back_L13b k (f_Ol_back_L13 k n) v s) _
    unfold f_Ol_back_L13b
    refine v_Tif (fun _ => hk s hf) (fun q => ?_)
    rw [he] at q
    have e := v_inc (x := v) (by omega)
    refine v_Tbi (n_at _ _) ?_
    rintro r _ ⟨rfl, h4, hr⟩
    refine v_Tck h4 ?_
    refine v_Tbi (g_restore r hr _) ?_
    rintro _ t ⟨ht, ht2⟩
    exact ih _ _ _ (by omega) (v_g_tr hf ht) (ht2.trans he) (by omega)
theorem g_back (s0 : vS) (h0 : v_KC s0) : v_T (f_Ol_back s0) (fun _ t => v_g s0 t) := by
  unfold f_Ol_back
  have hm := h0.2
  refine v_Tif (fun _ => v_Tret v_g_rf) (fun _ => ?_)
  refine g_back_L s0 h0 _ (fun t ht => ?_) 10 4096 0 s0 (by show _ ≤ (0 : Int) + 10; omega) v_g_rf rfl (by decide)
  unfold f_Ws_restore f_Ch_forget
  refine v_Tbi (P := fun _ u => v_g s0 u) (v_Tck (by decide) (v_Tlet (v_Tck (by decide) (v_Tlet (v_Tret (v_g_cp1 (v_g_cp1 ht (by omega)) (by omega))))))) ?_
  intro _ u hu
  refine v_Tbi (P := fun _ u => v_g s0 u) (v_Tlet (v_Tlet (v_Tret (v_g_w1 (v_g_w1 hu (by omega)) (by omega))))) ?_
  intro _ u hu
  exact v_Tret hu
theorem n_Ch (b : Int32) (s : vS) : v_T (f_Ch_number b s) (fun _ t => t = s) ∧ v_T (f_Ch_what b s) (fun _ t => t = s) ∧ v_T (f_Ch_was b s) (fun _ t => t = s) ∧ v_T (f_Ch_became b s) (fun _ t => t = s) := by
  unfold f_Ch_number f_Ch_what f_Ch_was f_Ch_became
  refine ⟨?_, ?_, ?_, ?_⟩
  all_goals
    repeat' first
      | ((with_reducible refine v_Tret ?_); (focus exact rfl))
      | ((with_reducible refine v_Tret ?_); exact ⟨rfl, by first | assumption | decide | omega | exact Or.inl rfl | exact Or.inr rfl⟩)
      | ((with_reducible refine v_Tck ?_ ?_); (focus first | assumption | exact ⟨by omega, by omega⟩ | decide | omega))
      | with_reducible refine v_Tif (fun _ => ?_) (fun _ => ?_)
theorem g_undo (s0 : vS) (h0 : v_KC s0) : v_T (f_Ol_undo s0) (fun _ t => v_g s0 t) := by
  have hf : v_g s0 s0 := v_g_rf
  unfold f_Ol_undo f_Ch_latest f_Ch_stepBack
  rw [v_bi_some]
  refine v_Tif (fun _ => ?_) (fun _ => v_Tret hf)
  refine v_Tbi (n_Ch _ _).1 ?_
  rintro _ _ rfl
  refine v_Tbi (n_Ch _ _).2.1 ?_
  rintro _ _ rfl
  refine v_Tbi (n_Ch _ _).2.2.1 ?_
  rintro _ _ rfl
  refine v_Tgg hf h0 (g_set _ _ _ _) (fun _ t ht => ?_)
  refine v_Tbi (P := fun _ u => v_g _ u) (v_Tlet (v_Tret (v_g_w1 ht (by omega)))) ?_
  intro _ u hu
  exact v_Tret hu
theorem g_redo (s0 : vS) (h0 : v_KC s0) : v_T (f_Ol_redo s0) (fun _ t => v_g s0 t) := by
  have hf : v_g s0 s0 := v_g_rf
  unfold f_Ol_redo f_Ch_stepOn
  refine v_Tbi (show v_T (f_Ch_next s0) (fun _ t => t = s0) from v_Tif (fun _ => v_Tret rfl) (fun _ => v_Tret rfl)) ?_
  rintro _ _ rfl
  refine v_Tif (fun _ => ?_) (fun _ => v_Tret hf)
  refine v_Tbi (n_Ch _ _).1 ?_
  rintro _ _ rfl
  refine v_Tbi (n_Ch _ _).2.1 ?_
  rintro _ _ rfl
  refine v_Tbi (n_Ch _ _).2.2.2 ?_
  rintro _ _ rfl
  refine v_Tgg hf h0 (g_set _ _ _ _) (fun _ t ht => ?_)
  refine v_Tbi (P := fun _ u => v_g _ u) (v_Tlet (v_Tret (v_g_w1 ht (by omega)))) ?_
  intro _ u hu
  exact v_Tret hu
