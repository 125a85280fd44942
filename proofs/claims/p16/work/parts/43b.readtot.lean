/-! the class: the reader, and the calls -/
def v_q (s : vS) (r : Int32) (t : vS) : Prop := v_fr s t ∧ (r = 0 ∨ r = 1)
theorem v_TbiR {β : Type} {s0 s : vS} {o : Option (Int32 × vS)} {k : Int32 → vS → Option (β × vS)} {Q : β → vS → Prop} (h : v_fr s0 s) (hc : v_T o (v_q s)) (hk : ∀ r t, v_fr s0 t → (r = 0 ∨ r = 1) → v_T (k r t) Q) : v_T (v_bi o k) Q :=
  v_Tbi hc (fun r t ht => hk r t (v_fr_tr h ht.1) ht.2)
theorem v_TbiG {α β : Type} {s0 s : vS} {o : Option (α × vS)} {k : α → vS → Option (β × vS)} {Q : β → vS → Prop} (h : v_fr s0 s) (hc : v_T o (fun _ t => v_fr s t)) (hk : ∀ r t, v_fr s0 t → v_T (k r t) Q) : v_T (v_bi o k) Q :=
  v_Tbi hc (fun r t ht => hk r t (v_fr_tr h ht))
theorem n_letter (s : vS) : v_T (f_Rd_letterHere s) (fun _ t => t = s) := by
  unfold f_Rd_letterHere
  repeat' first
    | ((with_reducible refine v_Tret ?_); (focus exact rfl))
    | ((with_reducible refine v_Tret ?_); exact ⟨rfl, by first | assumption | decide | omega | exact Or.inl rfl | exact Or.inr rfl⟩)
    | ((with_reducible refine v_Tck ?_ ?_); (focus first | assumption | exact ⟨by omega, by omega⟩ | decide | omega))
    | with_reducible refine v_Tif (fun _ => ?_) (fun _ => ?_)
theorem q_comes (b : Int32) (s : vS) : v_T (f_Rd_comes b s) (v_q s) := by
  unfold f_Rd_comes
  refine v_Tbi (n_letter _) ?_
  rintro _ _ rfl
  exact v_Tif (fun _ => v_Tlw1 v_fr_rf (by unfold v_sc; omega) (fun t ht => v_Tret ⟨ht, Or.inr rfl⟩)) (fun _ => v_Tret ⟨v_fr_rf, Or.inl rfl⟩)
theorem q_Tadd (b : Int32) (s : vS) : v_T (f_Tx_add 4 b s) (fun _ t => v_fr s t) := by
  unfold f_Tx_add
  refine v_Tif (fun _ => v_Tret v_fr_rf) (fun _ => v_Tif (fun _ => v_Tret v_fr_rf) (fun _ => v_Tck ⟨by omega, by omega⟩ ?_))
  exact v_Tlw1 v_fr_rf (by unfold v_sc; omega) (fun t ht => v_Tlw1 ht (by unfold v_sc; omega) (fun t ht => v_Tret ht))
theorem q_Taim (b : Int32) (s : vS) : v_T (f_Tx_aim 4 b s) (fun _ t => v_fr s t) := by
  unfold f_Tx_aim
  refine v_Tif (fun _ => v_Tret v_fr_rf) (fun _ => v_Tif (fun _ => v_Tret v_fr_rf) (fun _ => v_Tck ⟨by omega, by omega⟩ ?_))
  exact v_Tlw1 v_fr_rf (by unfold v_sc; omega) (fun t ht => v_Tret ht)
theorem n_isDigit (b : Int32) (s : vS) : v_T (f_Rd_isDigit b s) (fun _ t => t = s) := by
  unfold f_Rd_isDigit
  repeat' first
    | ((with_reducible refine v_Tret ?_); (focus exact rfl))
    | ((with_reducible refine v_Tret ?_); exact ⟨rfl, by first | assumption | decide | omega | exact Or.inl rfl | exact Or.inr rfl⟩)
    | ((with_reducible refine v_Tck ?_ ?_); (focus first | assumption | exact ⟨by omega, by omega⟩ | decide | omega))
    | with_reducible refine v_Tif (fun _ => ?_) (fun _ => ?_)
theorem n_nameOf (b : Int32) (s : vS) : v_T (f_Rd_nameOf b s) (fun _ t => t = s) := by
  unfold f_Rd_nameOf
  repeat' first
    | ((with_reducible refine v_Tret ?_); (focus exact rfl))
    | ((with_reducible refine v_Tret ?_); exact ⟨rfl, by first | assumption | decide | omega | exact Or.inl rfl | exact Or.inr rfl⟩)
    | ((with_reducible refine v_Tck ?_ ?_); (focus first | assumption | exact ⟨by omega, by omega⟩ | decide | omega))
    | with_reducible refine v_Tif (fun _ => ?_) (fun _ => ?_)
theorem q_number_L (s0 : vS) (k : Int32 → vS → Option (Unit × vS)) (hk : ∀ x s, v_fr s0 s → v_T (k x s) (fun _ t => v_fr s0 t)) : ∀ (m n : Nat) (u v : Int32) (s : vS), 4 ≤ v.toInt + m → v_fr s0 s → m < n → v_T (f_Rd_number_L4 k n u v s) (fun _ t => v_fr s0 t) := by
  intro m
  induction m with
  | zero =>
    intro n u v s hm hf hn
    obtain ⟨n, rfl⟩ : ∃ q, n = q + 1 := ⟨n - 1, by omega⟩
    show v_T (f_Rd_number_L4b k (f_Rd_number_L4 k n) u v s) _
    unfold f_Rd_number_L4b
    rw [if_pos (by omega)]
    exact hk u s hf
  | succ m ih =>
    intro n u v s hm hf hn
    obtain ⟨n, rfl⟩ : ∃ q, n = q + 1 := ⟨n - 1, by omega⟩
    show v_T (f_Rd_number_L4b k (f_Rd_number_L4 k n) u v s) _
    unfold f_Rd_number_L4b
    refine v_Tif (fun _ => hk u s hf) (fun q => ?_)
    have e := v_inc (x := v) (by omega)
    refine v_Tbi (n_letter _) ?_
    rintro _ _ rfl
    refine v_Tbi (n_isDigit _ _) ?_
    rintro _ _ rfl
    refine v_Tif (fun _ => hk u _ hf) (fun _ => ?_)
    refine v_Tbi (n_letter _) ?_
    rintro _ _ rfl
    exact v_Tlw1 hf (by unfold v_sc; omega) (fun t ht => ih _ _ _ _ (by omega) ht (by omega))
theorem q_number (s : vS) : v_T (f_Rd_number s) (fun _ t => v_fr s t) := by
  unfold f_Rd_number
  refine q_number_L s _ (fun x t ht => ?_) 4 4096 0 0 s (by decide) v_fr_rf (by decide)
  exact v_TbiG ht (q_Tadd _ _) (fun _ t ht => v_Tret ht)
theorem q_product_L (s0 : vS) (b : Int32) (rec : Int32 → vS → Option (Int32 × vS)) (hrec : ∀ s, v_T (rec b s) (v_q s)) (k : Int32 → vS → Option (Int32 × vS)) (hk : ∀ x s, (x = 0 ∨ x = 1) → v_fr s0 s → v_T (k x s) (v_q s0)) : ∀ (m n : Nat) (u v : Int32) (s : vS), (u = 0 ∨ u = 1) → 60 ≤ v.toInt + m → v_fr s0 s → m < n → v_T (f_Rd_product_L8 rec b k n u v s) (v_q s0) := by
  intro m
  induction m with
  | zero =>
    intro n u v s hu hm hf hn
    obtain ⟨n, rfl⟩ : ∃ q, n = q + 1 := ⟨n - 1, by omega⟩
    show v_T (f_Rd_product_L8b rec b k (f_Rd_product_L8 rec b k n) u v s) _
    unfold f_Rd_product_L8b
    rw [if_pos (by omega)]
    exact hk u s hu hf
  | succ m ih =>
    intro n u v s hu hm hf hn
    obtain ⟨n, rfl⟩ : ∃ q, n = q + 1 := ⟨n - 1, by omega⟩
    show v_T (f_Rd_product_L8b rec b k (f_Rd_product_L8 rec b k n) u v s) _
    unfold f_Rd_product_L8b
    refine v_Tif (fun _ => hk u s hu hf) (fun q => ?_)
    have e := v_inc (x := v) (by omega)
    repeat' first
      | with_reducible exact hk _ _ hu (by assumption)
      | ((with_reducible refine v_Tret ?_); (focus exact ⟨by assumption, Or.inr rfl⟩))
      | with_reducible exact ih _ _ _ _ (by assumption) (by omega) (by assumption) (by omega)
      | with_reducible refine v_Tif (fun _ => ?_) (fun _ => ?_)
      | with_reducible refine v_Tlw1 (by assumption) (by unfold v_sc; omega) (fun _ _ => ?_)
      | ((with_reducible refine v_Tbi (n_letter _) ?_); rintro _ _ rfl)
      | with_reducible refine v_TbiR (by assumption) (hrec _) (fun _ _ _ _ => ?_)
      | with_reducible refine v_TbiG (by assumption) (q_Tadd _ _) (fun _ _ _ => ?_)
theorem q_product (b : Int32) (rec : Int32 → vS → Option (Int32 × vS)) (hrec : ∀ s, v_T (rec b s) (v_q s)) (s : vS) : v_T (f_Rd_product rec b s) (v_q s) := by
  unfold f_Rd_product
  refine v_TbiR v_fr_rf (hrec _) (fun r t ht hr => ?_)
  exact q_product_L s b rec hrec _ (fun x u hx hu => v_Tck hx (v_Tret ⟨hu, hx⟩)) 60 4096 r 0 t hr (by decide) ht (by decide)
theorem q_sum_L (s0 : vS) (b : Int32) (rec : Int32 → vS → Option (Int32 × vS)) (hrec : ∀ s, v_T (rec b s) (v_q s)) (k : Int32 → vS → Option (Int32 × vS)) (hk : ∀ x s, (x = 0 ∨ x = 1) → v_fr s0 s → v_T (k x s) (v_q s0)) : ∀ (m n : Nat) (u v : Int32) (s : vS), (u = 0 ∨ u = 1) → 60 ≤ v.toInt + m → v_fr s0 s → m < n → v_T (f_Rd_sum_L8 rec b k n u v s) (v_q s0) := by
  intro m
  induction m with
  | zero =>
    intro n u v s hu hm hf hn
    obtain ⟨n, rfl⟩ : ∃ q, n = q + 1 := ⟨n - 1, by omega⟩
    show v_T (f_Rd_sum_L8b rec b k (f_Rd_sum_L8 rec b k n) u v s) _
    unfold f_Rd_sum_L8b
    rw [if_pos (by omega)]
    exact hk u s hu hf
  | succ m ih =>
    intro n u v s hu hm hf hn
    obtain ⟨n, rfl⟩ : ∃ q, n = q + 1 := ⟨n - 1, by omega⟩
    show v_T (f_Rd_sum_L8b rec b k (f_Rd_sum_L8 rec b k n) u v s) _
    unfold f_Rd_sum_L8b
    refine v_Tif (fun _ => hk u s hu hf) (fun q => ?_)
    have e := v_inc (x := v) (by omega)
    repeat' first
      | with_reducible exact hk _ _ hu (by assumption)
      | ((with_reducible refine v_Tret ?_); (focus exact ⟨by assumption, Or.inr rfl⟩))
      | with_reducible exact ih _ _ _ _ (by assumption) (by omega) (by assumption) (by omega)
      | with_reducible refine v_Tif (fun _ => ?_) (fun _ => ?_)
      | with_reducible refine v_Tlw1 (by assumption) (by unfold v_sc; omega) (fun _ _ => ?_)
      | ((with_reducible refine v_Tbi (n_letter _) ?_); rintro _ _ rfl)
      | with_reducible refine v_TbiR (by assumption) (q_product b rec hrec _) (fun _ _ _ _ => ?_)
      | with_reducible refine v_TbiG (by assumption) (q_Tadd _ _) (fun _ _ _ => ?_)
theorem q_sum (b : Int32) (rec : Int32 → vS → Option (Int32 × vS)) (hrec : ∀ s, v_T (rec b s) (v_q s)) (s : vS) : v_T (f_Rd_sum rec b s) (v_q s) := by
  unfold f_Rd_sum
  refine v_TbiR v_fr_rf (q_product b rec hrec _) (fun r t ht hr => ?_)
  exact q_sum_L s b rec hrec _ (fun x u hx hu => v_Tck hx (v_Tret ⟨hu, hx⟩)) 60 4096 r 0 t hr (by decide) ht (by decide)
theorem q_compared (b : Int32) (rec : Int32 → vS → Option (Int32 × vS)) (hrec : ∀ s, v_T (rec b s) (v_q s)) (s : vS) : v_T (f_Rd_compared rec b s) (v_q s) := by
  have hf : v_fr s s := v_fr_rf
  unfold f_Rd_compared
  repeat' first
    | ((with_reducible refine v_Tret ?_); (focus exact ⟨by assumption, Or.inr rfl⟩))
    | ((with_reducible refine v_Tret ?_); (focus exact ⟨by assumption, Or.inl rfl⟩))
    | ((with_reducible refine v_Tret ?_); (focus exact ⟨by assumption, by assumption⟩))
    | ((with_reducible refine v_Tck ?_ ?_); (focus exact (by assumption)))
    | with_reducible refine v_Tif (fun _ => ?_) (fun _ => ?_)
    | with_reducible refine v_Tlw1 (by assumption) (by unfold v_sc; omega) (fun _ _ => ?_)
    | ((with_reducible refine v_Tbi (n_letter _) ?_); rintro _ _ rfl)
    | with_reducible refine v_TbiR (by assumption) (q_sum b rec hrec _) (fun _ _ _ _ => ?_)
    | with_reducible refine v_TbiG (by assumption) (q_Tadd _ _) (fun _ _ _ => ?_)
theorem q_both_L (s0 : vS) (b : Int32) (rec : Int32 → vS → Option (Int32 × vS)) (hrec : ∀ s, v_T (rec b s) (v_q s)) (k : Int32 → vS → Option (Int32 × vS)) (hk : ∀ x s, (x = 0 ∨ x = 1) → v_fr s0 s → v_T (k x s) (v_q s0)) : ∀ (m n : Nat) (u v : Int32) (s : vS), (u = 0 ∨ u = 1) → 60 ≤ v.toInt + m → v_fr s0 s → m < n → v_T (f_Rd_both_L8 rec b k n u v s) (v_q s0) := by
  intro m
  induction m with
  | zero =>
    intro n u v s hu hm hf hn
    obtain ⟨n, rfl⟩ : ∃ q, n = q + 1 := ⟨n - 1, by omega⟩
    show v_T (f_Rd_both_L8b rec b k (f_Rd_both_L8 rec b k n) u v s) _
    unfold f_Rd_both_L8b
    rw [if_pos (by omega)]
    exact hk u s hu hf
  | succ m ih =>
    intro n u v s hu hm hf hn
    obtain ⟨n, rfl⟩ : ∃ q, n = q + 1 := ⟨n - 1, by omega⟩
    show v_T (f_Rd_both_L8b rec b k (f_Rd_both_L8 rec b k n) u v s) _
    unfold f_Rd_both_L8b
    refine v_Tif (fun _ => hk u s hu hf) (fun q => ?_)
    have e := v_inc (x := v) (by omega)
    refine v_Tif (fun _ => hk u s hu hf) (fun _ => ?_)
    refine v_TbiR hf (q_comes _ _) (fun _ t ht _ => ?_)
    refine v_Tif (fun _ => hk u t hu ht) (fun _ => ?_)
    refine v_TbiR ht (q_compared b rec hrec _) (fun r t ht hr => ?_)
    exact v_TbiG ht (q_Tadd _ _) (fun _ t ht => ih _ _ _ _ hr (by omega) ht (by omega))
theorem q_both (b : Int32) (rec : Int32 → vS → Option (Int32 × vS)) (hrec : ∀ s, v_T (rec b s) (v_q s)) (s : vS) : v_T (f_Rd_both rec b s) (v_q s) := by
  unfold f_Rd_both
  refine v_TbiR v_fr_rf (q_compared b rec hrec _) (fun r t ht hr => ?_)
  exact q_both_L s b rec hrec _ (fun x u hx hu => v_Tck hx (v_Tret ⟨hu, hx⟩)) 60 4096 r 0 t hr (by decide) ht (by decide)
theorem q_either_L (s0 : vS) (b : Int32) (rec : Int32 → vS → Option (Int32 × vS)) (hrec : ∀ s, v_T (rec b s) (v_q s)) (k : Int32 → vS → Option (Int32 × vS)) (hk : ∀ x s, (x = 0 ∨ x = 1) → v_fr s0 s → v_T (k x s) (v_q s0)) : ∀ (m n : Nat) (u v : Int32) (s : vS), (u = 0 ∨ u = 1) → 60 ≤ v.toInt + m → v_fr s0 s → m < n → v_T (f_Rd_either_L8 rec b k n u v s) (v_q s0) := by
  intro m
  induction m with
  | zero =>
    intro n u v s hu hm hf hn
    obtain ⟨n, rfl⟩ : ∃ q, n = q + 1 := ⟨n - 1, by omega⟩
    show v_T (f_Rd_either_L8b rec b k (f_Rd_either_L8 rec b k n) u v s) _
    unfold f_Rd_either_L8b
    rw [if_pos (by omega)]
    exact hk u s hu hf
  | succ m ih =>
    intro n u v s hu hm hf hn
    obtain ⟨n, rfl⟩ : ∃ q, n = q + 1 := ⟨n - 1, by omega⟩
    show v_T (f_Rd_either_L8b rec b k (f_Rd_either_L8 rec b k n) u v s) _
    unfold f_Rd_either_L8b
    refine v_Tif (fun _ => hk u s hu hf) (fun q => ?_)
    have e := v_inc (x := v) (by omega)
    refine v_Tif (fun _ => hk u s hu hf) (fun _ => ?_)
    refine v_TbiR hf (q_comes _ _) (fun _ t ht _ => ?_)
    refine v_Tif (fun _ => hk u t hu ht) (fun _ => ?_)
    refine v_TbiR ht (q_both b rec hrec _) (fun r t ht hr => ?_)
    exact v_TbiG ht (q_Tadd _ _) (fun _ t ht => ih _ _ _ _ hr (by omega) ht (by omega))
theorem q_either (b : Int32) (rec : Int32 → vS → Option (Int32 × vS)) (hrec : ∀ s, v_T (rec b s) (v_q s)) (s : vS) : v_T (f_Rd_either rec b s) (v_q s) := by
  unfold f_Rd_either
  refine v_TbiR v_fr_rf (q_both b rec hrec _) (fun r t ht hr => ?_)
  exact q_either_L s b rec hrec _ (fun x u hx hu => v_Tck hx (v_Tret ⟨hu, hx⟩)) 60 4096 r 0 t hr (by decide) ht (by decide)
theorem n_length (s : vS) : v_T (f_Tx_length 4 s) (fun _ t => t = s) := ⟨_, _, rfl, rfl⟩
set_option maxHeartbeats 8000000 in
theorem q_operand : ∀ (n : Nat) (b : Int32) (s : vS), 0 ≤ b.toInt ∧ b.toInt ≤ 6 → 7 ≤ b.toInt + n → v_T (f_Rd_operand n b s) (v_q s) := by
  intro n
  induction n with
  | zero => intro b s h1 h2; omega
  | succ n ih =>
    intro b s h1 h2
    have hf : v_fr s s := v_fr_rf
    have sc33 : v_sc 3 3 := Or.inr (Or.inl ⟨rfl, by decide⟩)
    show v_T (f_Rd_operandb (f_Rd_operand n) b s) _
    unfold f_Rd_operandb
    refine v_Tbi (n_letter _) ?_
    rintro _ _ rfl
    refine v_Tbi (n_nameOf _ _) ?_
    rintro _ _ rfl
    refine v_Tif (fun _ => ?_) (fun _ => ?_)
    · refine v_Tbi (n_isDigit _ _) ?_
      rintro _ _ rfl
      refine v_Tif (fun _ => ?_) (fun _ => v_TbiG hf (q_number _) (fun _ t ht => v_Tret ⟨ht, Or.inr rfl⟩))
      refine v_Tif (fun _ => v_Tret ⟨hf, Or.inl rfl⟩) (fun q => ?_)
      have e := v_inc (x := b) (by omega)
      have hr : ∀ s, v_T (f_Rd_operand n (b + 1) s) (v_q s) := fun s => ih _ s (by omega) (by omega)
      repeat' first
        | ((with_reducible refine v_Tret ?_); (focus exact ⟨by assumption, Or.inr rfl⟩))
        | ((with_reducible refine v_Tret ?_); (focus exact ⟨by assumption, Or.inl rfl⟩))
        | ((with_reducible refine v_Tret ?_); (focus exact ⟨by assumption, by assumption⟩))
        | ((with_reducible refine v_Tck ?_ ?_); (focus exact (by assumption)))
        | with_reducible refine v_Tif (fun _ => ?_) (fun _ => ?_)
        | with_reducible refine v_Tlw1 (by assumption) sc33 (fun _ _ => ?_)
        | with_reducible refine v_TbiR (by assumption) (q_either _ _ hr _) (fun _ _ _ _ => ?_)
        | with_reducible refine v_TbiR (by assumption) (q_comes _ _) (fun _ _ _ _ => ?_)
        | with_reducible refine v_TbiR (by assumption) (hr _) (fun _ _ _ _ => ?_)
        | with_reducible refine v_TbiG (by assumption) (q_Tadd _ _) (fun _ _ _ => ?_)
    · refine v_Tlw1 hf sc33 (fun t ht => ?_)
      exact v_TbiG ht (q_Tadd _ _) (fun _ t ht => v_Tret ⟨ht, Or.inr rfl⟩)
theorem q_either0 (s : vS) : v_T (f_Rd_either (f_Rd_operand 64) 0 s) (v_q s) := q_either 0 _ (fun s => q_operand 64 0 s (by decide) (by decide)) s
theorem q_line (s : vS) : v_T (f_Rd_line s) (v_q s) := by
  have hf : v_fr s s := v_fr_rf
  unfold f_Rd_line
  repeat' first
    | ((with_reducible refine v_Tret ?_); (focus exact ⟨by assumption, Or.inr rfl⟩))
    | ((with_reducible refine v_Tret ?_); (focus exact ⟨by assumption, Or.inl rfl⟩))
    | with_reducible refine v_Tif (fun _ => ?_) (fun _ => ?_)
    | with_reducible refine v_TbiR (by assumption) (q_either0 _) (fun _ _ _ _ => ?_)
    | with_reducible refine v_TbiR (by assumption) (q_comes _ _) (fun _ _ _ _ => ?_)
    | with_reducible refine v_TbiG (by assumption) (q_Tadd _ _) (fun _ _ _ => ?_)
    | with_reducible refine v_TbiG (by assumption) (q_Taim _ _) (fun _ _ _ => ?_)
    | ((with_reducible refine v_Tbi (n_length _) ?_); rintro _ _ rfl)
theorem q_lines_L (s0 : vS) (k : vS → Option (Int32 × vS)) (hk : ∀ s, v_fr s0 s → v_T (k s) (v_q s0)) : ∀ (m n : Nat) (v : Int32) (s : vS), 60 ≤ v.toInt + m → v_fr s0 s → m < n → v_T (f_Rd_lines_L2 k n v s) (v_q s0) := by
  intro m
  induction m with
  | zero =>
    intro n v s hm hf hn
    obtain ⟨n, rfl⟩ : ∃ q, n = q + 1 := ⟨n - 1, by omega⟩
    show v_T (f_Rd_lines_L2b k (f_Rd_lines_L2 k n) v s) _
    unfold f_Rd_lines_L2b
    rw [if_pos (by omega)]
    exact hk s hf
  | succ m ih =>
    intro n v s hm hf hn
    obtain ⟨n, rfl⟩ : ∃ q, n = q + 1 := ⟨n - 1, by omega⟩
    show v_T (f_Rd_lines_L2b k (f_Rd_lines_L2 k n) v s) _
    unfold f_Rd_lines_L2b
    refine v_Tif (fun _ => hk s hf) (fun q => ?_)
    have e := v_inc (x := v) (by omega)
    refine v_TbiR hf (q_line _) (fun _ t ht _ => ?_)
    refine v_Tif (fun _ => v_Tret ⟨ht, Or.inl rfl⟩) (fun _ => v_Tif (fun _ => ?_) (fun _ => v_Tret ⟨ht, Or.inr rfl⟩))
    refine v_TbiR ht (q_comes _ _) (fun _ t ht _ => ?_)
    exact v_Tif (fun _ => v_Tret ⟨ht, Or.inl rfl⟩) (fun _ => ih _ _ _ (by omega) ht (by omega))
theorem q_lines (s : vS) : v_T (f_Rd_lines s) (v_q s) := by
  unfold f_Rd_lines
  exact q_lines_L s _ (fun s h => v_Tret ⟨h, Or.inl rfl⟩) 60 4096 0 s (by decide) v_fr_rf (by decide)
theorem v_clip {N c : Int32} (hN : 0 ≤ N.toInt) : 0 ≤ (if (0 : Int32) < (if N < c then N else c) then (if N < c then N else c) else 0).toInt ∧ (if (0 : Int32) < (if N < c then N else c) then (if N < c then N else c) else 0).toInt ≤ N.toInt := by
  have h0 : (0 : Int32).toInt = 0 := rfl
  by_cases h1 : N < c
  · rw [if_pos h1]
    by_cases h2 : 0 < N
    · rw [if_pos h2]; omega
    · rw [if_neg h2]; omega
  · rw [if_neg h1]
    rw [Int32.lt_iff_toInt_lt] at h1
    by_cases h2 : 0 < c
    · rw [if_pos h2]
      rw [Int32.lt_iff_toInt_lt] at h2
      omega
    · rw [if_neg h2]; omega
theorem v_Tlcp1 {α : Type} {s0 s : vS} {a sp b dp n : Nat} {k : vS → Option (α × vS)} {Q : α → vS → Prop} (h : v_fr s0 s) (hs : ∀ j, v_sc b j) (hk : ∀ t, v_fr s0 t → v_T (k t) Q) : v_T (v_let (v_cp1 s a sp b dp n) k) Q := hk _ (v_fr_cp1 h hs)
theorem q_read (b : Nat) (hb : b = 1 ∨ b = 2) (c : Int32) (s : vS) : v_T (f_Rd_read b c s) (fun _ t => v_fr s t) := by
  have hN : ∃ N : Int32, (if (60 : Int32) < Int32.ofNat (v_ln b) then 60 else Int32.ofNat (v_ln b)) = N ∧ 0 ≤ N.toInt ∧ N.toInt ≤ 60 ∧ N.toInt ≤ v_ln b := by
    rcases hb with rfl | rfl
    · exact ⟨60, rfl, by decide, by decide, by decide⟩
    · exact ⟨3, rfl, by decide, by decide, by decide⟩
  obtain ⟨N, e1, e2, e3, e4⟩ := hN
  unfold f_Rd_read
  rw [e1]
  have hc := v_clip (N := N) (c := c) e2
  generalize (if (0 : Int32) < (if N < c then N else c) then (if N < c then N else c) else 0) = X at hc ⊢
  refine v_Tlet ?_
  have hx : (v_w1 s 3 2 X).1 3 2 = X := show (if (3 : Nat) = 3 ∧ (2 : Nat) = 2 then X else s.1 3 2) = X from if_pos ⟨rfl, rfl⟩
  have hf : v_fr s (v_w1 s 3 2 X) := v_fr_w1 v_fr_rf (by unfold v_sc; omega)
  rw [hx]
  refine v_Tck ⟨by decide, by decide, hc.1, (show (0 : Int) + X.toInt ≤ _ by omega), (show (0 : Int) + X.toInt ≤ _ by omega)⟩ ?_
  refine v_Tlcp1 hf (fun j => by unfold v_sc; omega) (fun t ht => ?_)
  refine v_Tlw1 ht (by unfold v_sc; omega) (fun t ht => ?_)
  refine v_TbiG ht (show v_T (f_Tx_clear 4 t) (fun _ u => v_fr t u) from v_Tlw1 v_fr_rf (by unfold v_sc; omega) (fun u hu => v_Tret hu)) (fun _ t ht => ?_)
  exact v_TbiR ht (q_lines _) (fun _ t ht _ => v_Tif (fun _ => v_Tret ht) (fun _ => v_Tret ht))
