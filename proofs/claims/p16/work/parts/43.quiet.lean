/-! the class: what is worked out anew -/
theorem v_TbiF {α β : Type} {s0 s : vS} {o : Option (α × vS)} {k : α → vS → Option (β × vS)} {Q : β → vS → Prop} {P : α → Prop} (h : v_fr s0 s) (hc : v_T o (fun r t => v_fr s t ∧ P r)) (hk : ∀ r t, v_fr s0 t → P r → v_T (k r t) Q) : v_T (v_bi o k) Q :=
  v_Tbi hc (fun r t ht => hk r t (v_fr_tr h ht.1) ht.2)
theorem q_work (a : Nat) (b c : Int32) (ha : ∀ j, v_sc (a + 2) j) (hc : 0 ≤ c.toInt ∧ c.toInt ≤ 61) (s : vS) : v_T (f_Tx_work a b c s) (fun r t => v_fr s t ∧ (0 ≤ r.toInt ∧ r.toInt ≤ 61)) := by
  have e1 : (c - 1).toInt = c.toInt - 1 := v_sub (show -2147483648 ≤ c.toInt - 1 by omega) (show c.toInt - 1 < 2147483648 by omega)
  have e2 : (c - 2).toInt = c.toInt - 2 := v_sub (show -2147483648 ≤ c.toInt - 2 by omega) (show c.toInt - 2 < 2147483648 by omega)
  have e3 := v_inc (x := c - 1) (by omega)
  have e4 := v_inc (x := c - 2) (by omega)
  unfold f_Tx_work
  repeat' first
    | ((with_reducible refine v_Tret ?_); (focus exact ⟨v_fr_rf, by omega⟩))
    | ((with_reducible refine v_Tret ?_); (focus exact ⟨v_fr_w1 v_fr_rf (ha _), by omega⟩))
    | ((with_reducible refine v_Tck ?_ ?_); (focus exact ⟨by omega, by omega⟩))
    | with_reducible refine v_Tif (fun _ => ?_) (fun _ => ?_)
    | with_reducible refine v_Tlet ?_
    | ((with_reducible refine v_Tbi (n_alone ..) ?_); rintro _ _ rfl)
    | ((with_reducible refine v_Tbi (n_joined ..) ?_); rintro _ _ rfl)
theorem q_value_L (s0 : vS) (p : Nat) (hp : ∀ j, v_sc (p + 2) j) (k1 : vS → Option (Int32 × vS)) (k2 : Int32 → vS → Option (Int32 × vS)) (k3 : vS → Option (Int32 × vS)) (h1 : ∀ s, v_fr s0 s → v_T (k1 s) (fun _ t => v_fr s0 t)) (h2 : ∀ x s, v_fr s0 s → v_T (k2 x s) (fun _ t => v_fr s0 t)) (h3 : ∀ s, v_fr s0 s → v_T (k3 s) (fun _ t => v_fr s0 t)) : ∀ (m n : Nat) (u v w : Int32) (s : vS), 61 ≤ w.toInt + m → 0 ≤ u.toInt ∧ u.toInt ≤ 61 → v_fr s0 s → m < n → v_T (f_Tx_value_L7 p k1 k2 k3 n u v w s) (fun _ t => v_fr s0 t) := by
  intro m
  induction m with
  | zero =>
    intro n u v w s hm hu hf hn
    obtain ⟨n, rfl⟩ : ∃ q, n = q + 1 := ⟨n - 1, by omega⟩
    show v_T (f_Tx_value_L7b p k1 k2 k3 (f_Tx_value_L7 p k1 k2 k3 n) u v w s) _
    unfold f_Tx_value_L7b
    rw [if_pos (by omega)]
    exact h3 s hf
  | succ m ih =>
    intro n u v w s hm hu hf hn
    obtain ⟨n, rfl⟩ : ∃ q, n = q + 1 := ⟨n - 1, by omega⟩
    show v_T (f_Tx_value_L7b p k1 k2 k3 (f_Tx_value_L7 p k1 k2 k3 n) u v w s) _
    unfold f_Tx_value_L7b
    refine v_Tif (fun _ => h3 s hf) (fun c => ?_)
    have e1 := v_inc (x := w) (by omega)
    have e2 := v_inc (x := u) (by omega)
    have e3 := v_dec (x := u) (by omega)
    repeat' first
      | with_reducible exact h1 _ (by assumption)
      | with_reducible exact h2 _ _ (by assumption)
      | with_reducible exact ih _ _ _ _ _ (by omega) (by omega) (by assumption) (by omega)
      | ((with_reducible refine v_Tck ?_ ?_); (focus exact (by first | exact ⟨by omega, by omega⟩ | assumption)))
      | with_reducible refine v_Tif (fun _ => ?_) (fun _ => ?_)
      | with_reducible refine v_Tlw1 (by assumption) (hp _) (fun _ _ => ?_)
      | ((with_reducible refine v_Tbi (n_named ..) ?_); rintro _ _ rfl)
      | with_reducible refine v_TbiF (by assumption) (q_work _ _ _ hp hu _) (fun _ _ _ _ => ?_)
theorem q_value (p : Nat) (hp : ∀ j, v_sc (p + 2) j) (s : vS) (h : v_KQ s) : v_T (f_Tx_value p s) (fun _ t => v_fr s t) := by
  unfold f_Tx_value
  refine q_value_L s p hp _ _ _ (fun s h => v_Tret h) (fun x t h => ?_) (fun s h => v_Tret h) 61 4096 0 0 0 s (by decide) (by decide) v_fr_rf (by decide)
  refine v_Tbi (n_valueAt _ _ _) ?_
  rintro _ _ rfl
  exact v_Tret h
theorem v_scL {a : Nat} (h : v_kd a = 4) : (∀ j, v_sc (a + 1 + 2) j) ∧ ∀ j, v_sc (a + 4) j := by
  have h4 := v_k4 h
  rcases h4 with h4 | h4 | h4
  · exact ⟨fun j => Or.inr (Or.inr (Or.inr (Or.inr (Or.inr (Or.inr (Or.inl ⟨by omega, by omega⟩)))))), fun j => Or.inr (Or.inr (Or.inr (Or.inr (Or.inr (Or.inr (Or.inl ⟨by omega, by omega⟩))))))⟩
  · exact ⟨fun j => Or.inr (Or.inr (Or.inr (Or.inr (Or.inr (Or.inr (Or.inr (Or.inr (Or.inr (Or.inr (Or.inr (Or.inl ⟨by omega, by omega⟩))))))))))), fun j => Or.inr (Or.inr (Or.inr (Or.inr (Or.inr (Or.inr (Or.inr (Or.inr (Or.inr (Or.inr (Or.inr (Or.inl ⟨by omega, by omega⟩)))))))))))⟩
  · exact ⟨fun j => Or.inr (Or.inr (Or.inr (Or.inr (Or.inr (Or.inr (Or.inr (Or.inr (Or.inl ⟨by omega, by omega, Or.inl (by omega)⟩)))))))), fun j => Or.inr (Or.inr (Or.inr (Or.inr (Or.inr (Or.inr (Or.inr (Or.inr (Or.inl ⟨by omega, by omega, Or.inr (by omega)⟩))))))))⟩
theorem v_scM {a j : Nat} (h : v_kd a = 4) (h6 : 6 ≤ j) (h8 : j ≤ 8) : v_sc a j := by
  have h4 := v_k4 h
  rcases h4 with h4 | h4 | h4
  · exact Or.inr (Or.inr (Or.inr (Or.inr (Or.inr (Or.inl ⟨h4, h6, h8⟩)))))
  · exact Or.inr (Or.inr (Or.inr (Or.inr (Or.inr (Or.inr (Or.inr (Or.inr (Or.inr (Or.inr (Or.inl h4))))))))))
  · exact Or.inr (Or.inr (Or.inr (Or.inr (Or.inr (Or.inr (Or.inr (Or.inl ⟨h4.1, by omega, h4.2.2, h6, h8⟩)))))))
theorem q_hear_L (s0 : vS) (h0 : v_KQ s0) (p : Nat) (hp : v_kd p = 4) (c x y z : Int32) (k : vS → Option (Unit × vS)) (hk : ∀ s, v_fr s0 s → v_T (k s) (fun _ t => v_fr s0 t)) : ∀ (m n : Nat) (v : Int32) (s : vS), 125 ≤ v.toInt + m → v_fr s0 s → m < n → v_T (f_Lw_hear_L97 p c x y z k n v s) (fun _ t => v_fr s0 t) := by
  obtain ⟨ht, hs⟩ := v_scL hp
  intro m
  induction m with
  | zero =>
    intro n v s hm hf hn
    obtain ⟨n, rfl⟩ : ∃ q, n = q + 1 := ⟨n - 1, by omega⟩
    show v_T (f_Lw_hear_L97b p c x y z k (f_Lw_hear_L97 p c x y z k n) v s) _
    unfold f_Lw_hear_L97b
    rw [if_pos (by omega)]
    exact hk s hf
  | succ m ih =>
    intro n v s hm hf hn
    obtain ⟨n, rfl⟩ : ∃ q, n = q + 1 := ⟨n - 1, by omega⟩
    show v_T (f_Lw_hear_L97b p c x y z k (f_Lw_hear_L97 p c x y z k n) v s) _
    unfold f_Lw_hear_L97b
    refine v_Tif (fun _ => hk s hf) (fun q => ?_)
    have e := v_inc (x := v) (by omega)
    repeat' first
      | ((with_reducible refine v_Tret ?_); (focus assumption))
      | ((with_reducible refine v_Tret ?_); exact ⟨by assumption, by first | assumption | decide | omega | exact Or.inl rfl | exact Or.inr rfl⟩)
      | with_reducible exact ih _ _ _ (by omega) (by assumption) (by omega)
      | with_reducible refine v_TbiQ (by assumption) (q_value _ ht _) h0 (fun _ _ _ => ?_)
      | with_reducible refine v_TbiQ (by assumption) (n_Add _ _ _ hs) h0 (fun _ _ _ => ?_)
      | ((with_reducible refine v_Tck ?_ ?_); (focus first | assumption | exact ⟨by omega, by omega⟩ | decide | omega))
      | with_reducible refine v_Tif (fun _ => ?_) (fun _ => ?_)
      | with_reducible refine v_Tlw1 (by assumption) (by first | assumption | (unfold v_sc; omega)) (fun _ _ => ?_)
      | with_reducible refine v_Tlw2 (by assumption) (by first | assumption | (unfold v_sc; omega)) (fun _ _ => ?_)
      | ((with_reducible refine v_Tbi (n_digit ..) ?_); rintro _ _ rfl)
theorem q_Lhear (a : Nat) (ha : v_kd a = 4) (c : Int32) (s0 : vS) (h0 : v_KQ s0) : v_T (f_Lw_hear a c s0) (fun _ t => v_fr s0 t) := by
  obtain ⟨ht, hs⟩ := v_scL ha
  have s6 : v_sc a 6 := v_scM ha (by decide) (by decide)
  have s7 : v_sc a 7 := v_scM ha (by decide) (by decide)
  have s8 : v_sc a 8 := v_scM ha (by decide) (by decide)
  have hf : v_fr s0 s0 := v_fr_rf
  unfold f_Lw_hear
  repeat' first
    | ((with_reducible refine v_Tret ?_); (focus assumption))
    | ((with_reducible refine v_Tret ?_); exact ⟨by assumption, by first | assumption | decide | omega | exact Or.inl rfl | exact Or.inr rfl⟩)
    | with_reducible refine v_TbiQ (by assumption) (n_Clear _ _ hs) h0 (fun _ _ _ => ?_)
    | exact q_hear_L _ h0 a ha _ _ _ _ _ (fun s h => v_Tret h) 125 4096 0 _ (by decide) (by assumption) (by decide)
    | ((with_reducible refine v_Tck ?_ ?_); (focus first | assumption | exact ⟨by omega, by omega⟩ | decide | omega))
    | with_reducible refine v_Tif (fun _ => ?_) (fun _ => ?_)
    | with_reducible refine v_Tlw1 (by assumption) (by first | assumption | (unfold v_sc; omega)) (fun _ _ => ?_)
    | with_reducible refine v_Tlw2 (by assumption) (by first | assumption | (unfold v_sc; omega)) (fun _ _ => ?_)
    | ((with_reducible refine v_Tbi (n_meaning ..) ?_); rintro _ _ rfl)
theorem q_sort_L (s0 : vS) (p : Int32) (k : Int32 → vS → Option (Unit × vS)) (hk : ∀ x s, 0 ≤ x.toInt ∧ x.toInt ≤ 9 → v_fr s0 s → v_T (k x s) (fun _ t => v_fr s0 t)) : ∀ (m n : Nat) (v : Int32) (s : vS), v.toInt = m → m ≤ 9 → v_fr s0 s → m < n → v_T (f_Ct_sortByAge_L21 p k n v s) (fun _ t => v_fr s0 t) := by
  intro m
  induction m with
  | zero =>
    intro n v s hm h9 hf hn
    obtain ⟨n, rfl⟩ : ∃ q, n = q + 1 := ⟨n - 1, by omega⟩
    show v_T (f_Ct_sortByAge_L21b p k (f_Ct_sortByAge_L21 p k n) v s) _
    unfold f_Ct_sortByAge_L21b
    rw [if_pos (by omega)]
    exact hk v s (by omega) hf
  | succ m ih =>
    intro n v s hm h9 hf hn
    obtain ⟨n, rfl⟩ : ∃ q, n = q + 1 := ⟨n - 1, by omega⟩
    show v_T (f_Ct_sortByAge_L21b p k (f_Ct_sortByAge_L21 p k n) v s) _
    unfold f_Ct_sortByAge_L21b
    have e := v_dec (x := v) (by omega)
    have e1 : (v - 1).toInt = v.toInt - 1 := v_sub (show -2147483648 ≤ v.toInt - 1 by omega) (show v.toInt - 1 < 2147483648 by omega)
    refine v_Tif (fun _ => hk v s (by omega) hf) (fun q => ?_)
    refine v_Tbi (n_at _ _) ?_
    rintro r _ ⟨rfl, h4⟩
    refine v_Tck h4.1 (v_Tck ⟨by omega, by omega⟩ ?_)
    refine v_Tbi (n_at _ _) ?_
    rintro r2 _ ⟨rfl, h42⟩
    refine v_Tck h42.1 ?_
    refine v_Tbi (n_isOlder _ _ _) ?_
    rintro _ _ ⟨rfl, _⟩
    refine v_Tif (fun _ => hk v _ (by omega) hf) (fun _ => ?_)
    refine v_Tck ⟨by omega, by omega⟩ (v_Tck ⟨by omega, by omega⟩ ?_)
    exact v_Tlw1 hf (by unfold v_sc; omega) (fun t ht => ih _ _ _ (by omega) (by omega) ht (by omega))
theorem q_sort_L2 (s0 : vS) (k : vS → Option (Unit × vS)) (hk : ∀ s, v_fr s0 s → v_T (k s) (fun _ t => v_fr s0 t)) : ∀ (m n : Nat) (v : Int32) (s : vS), v.toInt + m = 10 → m ≤ 10 → v_fr s0 s → m < n → v_T (f_Ct_sortByAge_L2 k n v s) (fun _ t => v_fr s0 t) := by
  intro m
  induction m with
  | zero =>
    intro n v s hm h9 hf hn
    obtain ⟨n, rfl⟩ : ∃ q, n = q + 1 := ⟨n - 1, by omega⟩
    show v_T (f_Ct_sortByAge_L2b k (f_Ct_sortByAge_L2 k n) v s) _
    unfold f_Ct_sortByAge_L2b
    exact v_Tif (fun _ => hk s hf) (fun _ => v_Tif (fun _ => hk s hf) (fun _ => by omega))
  | succ m ih =>
    intro n v s hm h9 hf hn
    obtain ⟨n, rfl⟩ : ∃ q, n = q + 1 := ⟨n - 1, by omega⟩
    show v_T (f_Ct_sortByAge_L2b k (f_Ct_sortByAge_L2 k n) v s) _
    unfold f_Ct_sortByAge_L2b
    have e := v_inc (x := v) (by omega)
    refine v_Tif (fun _ => hk s hf) (fun _ => v_Tif (fun _ => hk s hf) (fun q => ?_))
    refine q_sort_L s0 v _ (fun x s hx hs => ?_) v.toInt.toNat 4096 v s (by omega) (by omega) hf (by omega)
    refine v_Tck ⟨by omega, by omega⟩ ?_
    exact v_Tlw1 hs (by unfold v_sc; omega) (fun t ht => ih _ _ _ (by omega) (by omega) ht (by omega))
theorem q_sort (s : vS) (h : v_KQ s) : v_T (f_Ct_sortByAge s) (fun _ t => v_fr s t) := by
  unfold f_Ct_sortByAge
  exact q_sort_L2 s _ (fun s h => v_Tret h) 10 4096 0 s (by decide) (by decide) v_fr_rf (by decide)
theorem q_stand_L (s0 : vS) (p : Int32) (k : vS → Option (Unit × vS)) (hk : ∀ s, v_fr s0 s → v_T (k s) (fun _ t => v_fr s0 t)) : ∀ (m n : Nat) (u v : Int32) (s : vS), v.toInt + m = 10 → m ≤ 10 → v_fr s0 s → m < n → v_T (f_Ct_standWithout_L19 p k n u v s) (fun _ t => v_fr s0 t) := by
  intro m
  induction m with
  | zero =>
    intro n u v s hm h9 hf hn
    obtain ⟨n, rfl⟩ : ∃ q, n = q + 1 := ⟨n - 1, by omega⟩
    show v_T (f_Ct_standWithout_L19b p k (f_Ct_standWithout_L19 p k n) u v s) _
    unfold f_Ct_standWithout_L19b
    exact v_Tif (fun _ => hk s hf) (fun _ => v_Tif (fun _ => hk s hf) (fun _ => by omega))
  | succ m ih =>
    intro n u v s hm h9 hf hn
    obtain ⟨n, rfl⟩ : ∃ q, n = q + 1 := ⟨n - 1, by omega⟩
    show v_T (f_Ct_standWithout_L19b p k (f_Ct_standWithout_L19 p k n) u v s) _
    unfold f_Ct_standWithout_L19b
    have e := v_inc (x := v) (by omega)
    refine v_Tif (fun _ => hk s hf) (fun _ => v_Tif (fun _ => hk s hf) (fun q => ?_))
    refine v_Tck ⟨by omega, by omega⟩ ?_
    refine v_Tif (fun _ => ih _ _ _ _ (by omega) (by omega) hf (by omega)) (fun _ => ?_)
    refine v_Tif (fun _ => ?_) (fun _ => ih _ _ _ _ (by omega) (by omega) hf (by omega))
    refine v_Tlw1 hf (by unfold v_sc; omega) (fun t ht => ?_)
    refine v_Tck ⟨by omega, by omega⟩ ?_
    refine v_Tbi (n_at _ _) ?_
    rintro r _ ⟨rfl, h4⟩
    refine v_Tck h4.1 ?_
    exact v_Tif (fun _ => ih _ _ _ _ (by omega) (by omega) ht (by omega)) (fun _ => ih _ _ _ _ (by omega) (by omega) ht (by omega))
theorem q_stand (b : Int32) (s : vS) (h : v_KQ s) : v_T (f_Ct_standWithout b s) (fun _ t => v_fr s t) := by
  unfold f_Ct_standWithout
  refine v_Tbi (n_there s h) ?_
  rintro r _ rfl
  refine v_Tlw1 v_fr_rf (by unfold v_sc; omega) (fun t ht => ?_)
  exact q_stand_L _ _ _ (fun s h => v_Tret h) 10 4096 0 0 t (by decide) (by decide) ht (by decide)
theorem v_many {s t : vS} (h : v_fr s t) : t.1 8 1 = s.1 8 1 := (h 8 1 (by unfold v_sc; omega)).1
theorem q_Chear_L (s0 : vS) (h0 : v_KQ s0) (k : vS → Option (Unit × vS)) (hk : ∀ s, v_fr s0 s → v_T (k s) (fun _ t => v_fr s0 t)) : ∀ (m n : Nat) (v : Int32) (s : vS), (s0.1 8 1).toInt ≤ v.toInt + m → m ≤ 10 → v_fr s0 s → m < n → v_T (f_Ct_hear_L2 k n v s) (fun _ t => v_fr s0 t) := by
  have h10 := h0.1.2
  intro m
  induction m with
  | zero =>
    intro n v s hm h9 hf hn
    obtain ⟨n, rfl⟩ : ∃ q, n = q + 1 := ⟨n - 1, by omega⟩
    show v_T (f_Ct_hear_L2b k (f_Ct_hear_L2 k n) v s) _
    unfold f_Ct_hear_L2b
    rw [v_many hf, if_pos (by omega)]
    exact hk s hf
  | succ m ih =>
    intro n v s hm h9 hf hn
    obtain ⟨n, rfl⟩ : ∃ q, n = q + 1 := ⟨n - 1, by omega⟩
    show v_T (f_Ct_hear_L2b k (f_Ct_hear_L2 k n) v s) _
    unfold f_Ct_hear_L2b
    refine v_Tif (fun _ => hk s hf) (fun q => ?_)
    rw [v_many hf] at q
    have e := v_inc (x := v) (by omega)
    refine v_Tbi (n_at _ _) ?_
    rintro r _ ⟨rfl, h4⟩
    refine v_Tck h4.1 ?_
    exact v_TbiQ hf (q_Lhear r h4.1 _ _) h0 (fun _ t ht => ih _ _ _ (by omega) (by omega) ht (by omega))
theorem q_hear (s : vS) (h : v_KQ s) : v_T (f_Ct_hear s) (fun _ t => v_fr s t) := by
  unfold f_Ct_hear
  refine q_Chear_L s h _ (fun t ht => ?_) 10 4096 0 s (by have := h.1.2; show _ ≤ (0 : Int) + 10; omega) (by decide) v_fr_rf (by decide)
  refine v_TbiQ ht (q_sort _) h (fun _ t ht => ?_)
  exact v_TbiQ ht (q_stand _ _) h (fun _ t ht => v_Tret ht)
theorem q_remember_L (s0 : vS) (h0 : v_KQ s0) (k : vS → Option (Unit × vS)) (hk : ∀ s, v_fr s0 s → v_T (k s) (fun _ t => v_fr s0 t)) : ∀ (m n : Nat) (v : Int32) (s : vS), v.toInt + m = 125 → m ≤ 125 → v_fr s0 s → m < n → v_T (f_Ct_rememberVerdicts_L2 k n v s) (fun _ t => v_fr s0 t) := by
  intro m
  induction m with
  | zero =>
    intro n v s hm h9 hf hn
    obtain ⟨n, rfl⟩ : ∃ q, n = q + 1 := ⟨n - 1, by omega⟩
    show v_T (f_Ct_rememberVerdicts_L2b k (f_Ct_rememberVerdicts_L2 k n) v s) _
    unfold f_Ct_rememberVerdicts_L2b
    rw [if_pos (by omega)]
    exact hk s hf
  | succ m ih =>
    intro n v s hm h9 hf hn
    obtain ⟨n, rfl⟩ : ∃ q, n = q + 1 := ⟨n - 1, by omega⟩
    show v_T (f_Ct_rememberVerdicts_L2b k (f_Ct_rememberVerdicts_L2 k n) v s) _
    unfold f_Ct_rememberVerdicts_L2b
    refine v_Tif (fun _ => hk s hf) (fun q => ?_)
    have e := v_inc (x := v) (by omega)
    refine v_Tbi (n_verdictIn _ _ _ (v_KQ_fr h0 hf)) ?_
    rintro _ _ rfl
    refine v_Tck ⟨by omega, by omega⟩ ?_
    exact v_Tlw1 hf (by unfold v_sc; omega) (fun t ht => ih _ _ _ (by omega) (by omega) ht (by omega))
theorem q_remember (s : vS) (h : v_KQ s) : v_T (f_Ct_rememberVerdicts s) (fun _ t => v_fr s t) := by
  unfold f_Ct_rememberVerdicts
  exact q_remember_L s h _ (fun s h => v_Tret h) 125 4096 0 s (by decide) (by decide) v_fr_rf (by decide)
theorem v_sc138 : ∀ j, v_sc 138 j := fun j => by unfold v_sc; omega
theorem v_sc83 : ∀ j, v_sc 83 j := fun j => by unfold v_sc; omega
theorem q_changed_L (s0 : vS) (h0 : v_KQ s0) (k : vS → Option (Unit × vS)) (hk : ∀ s, v_fr s0 s → v_T (k s) (fun _ t => v_fr s0 t)) : ∀ (m n : Nat) (v : Int32) (s : vS), v.toInt + m = 125 → m ≤ 125 → v_fr s0 s → m < n → v_T (f_Ct_findChanged_L6 138 k n v s) (fun _ t => v_fr s0 t) := by
  intro m
  induction m with
  | zero =>
    intro n v s hm h9 hf hn
    obtain ⟨n, rfl⟩ : ∃ q, n = q + 1 := ⟨n - 1, by omega⟩
    show v_T (f_Ct_findChanged_L6b 138 k (f_Ct_findChanged_L6 138 k n) v s) _
    unfold f_Ct_findChanged_L6b
    rw [if_pos (by omega)]
    exact hk s hf
  | succ m ih =>
    intro n v s hm h9 hf hn
    obtain ⟨n, rfl⟩ : ∃ q, n = q + 1 := ⟨n - 1, by omega⟩
    show v_T (f_Ct_findChanged_L6b 138 k (f_Ct_findChanged_L6 138 k n) v s) _
    unfold f_Ct_findChanged_L6b
    refine v_Tif (fun _ => hk s hf) (fun q => ?_)
    have e := v_inc (x := v) (by omega)
    refine v_Tck ⟨by omega, by omega⟩ ?_
    refine v_Tbi (n_verdictIn _ _ _ (v_KQ_fr h0 hf)) ?_
    rintro _ _ rfl
    refine v_Tif (fun _ => ih _ _ _ (by omega) (by omega) hf (by omega)) (fun _ => ?_)
    exact v_TbiQ hf (n_Add _ _ _ v_sc138) h0 (fun _ t ht => ih _ _ _ (by omega) (by omega) ht (by omega))
theorem q_changed (s : vS) (h : v_KQ s) : v_T (f_Ct_findChanged 138 s) (fun _ t => v_fr s t) := by
  unfold f_Ct_findChanged
  refine v_TbiQ v_fr_rf (n_Clear _ _ v_sc138) h (fun _ t ht => ?_)
  exact q_changed_L s h _ (fun s h => v_Tret h) 125 4096 0 t (by decide) (by decide) ht (by decide)
theorem q_word (s : vS) (h : v_KQ s) : v_T (f_Wd_word s) (fun _ t => v_fr s t) := by
  unfold f_Wd_word
  refine v_Tbi (n_metBy _ _) ?_
  rintro r _ ⟨rfl, h4, _⟩
  refine v_Tck h4 ?_
  refine v_Tbi (n_metBy _ _) ?_
  rintro r2 _ ⟨rfl, h42, _⟩
  refine v_Tck h42 ?_
  exact v_TbiQ v_fr_rf (n_TakeBoth _ _ _ _ v_sc83) h (fun _ t ht => v_Tret ht)
theorem q_begin (s0 : vS) (h0 : v_KQ s0) : v_T (f_Wd_begin s0) (fun _ t => v_fr s0 t) := by
  have hf : v_fr s0 s0 := v_fr_rf
  unfold f_Wd_begin
  repeat' first
    | ((with_reducible refine v_Tret ?_); (focus assumption))
    | ((with_reducible refine v_Tret ?_); exact ⟨by assumption, by first | assumption | decide | omega | exact Or.inl rfl | exact Or.inr rfl⟩)
    | ((with_reducible refine v_Tck ?_ ?_); (focus first | assumption | exact ⟨by omega, by omega⟩ | decide | omega))
    | with_reducible refine v_Tif (fun _ => ?_) (fun _ => ?_)
    | with_reducible refine v_Tlw1 (by assumption) (by first | assumption | (unfold v_sc; omega)) (fun _ _ => ?_)
    | with_reducible refine v_Tlw2 (by assumption) (by first | assumption | (unfold v_sc; omega)) (fun _ _ => ?_)
    | (with_reducible refine v_TbiQ (by assumption) (fun hk => by apply q_word <;> assumption) h0 (fun _ _ _ => ?_))
theorem q_goOn (s0 : vS) (h0 : v_KQ s0) : v_T (f_Wd_goOn s0) (fun _ t => v_fr s0 t) := by
  have hf : v_fr s0 s0 := v_fr_rf
  unfold f_Wd_goOn
  repeat' first
    | ((with_reducible refine v_Tret ?_); (focus assumption))
    | ((with_reducible refine v_Tret ?_); exact ⟨by assumption, by first | assumption | decide | omega | exact Or.inl rfl | exact Or.inr rfl⟩)
    | ((with_reducible refine v_Tck ?_ ?_); (focus first | assumption | exact ⟨by omega, by omega⟩ | decide | omega))
    | with_reducible refine v_Tif (fun _ => ?_) (fun _ => ?_)
    | with_reducible refine v_Tlw1 (by assumption) (by first | assumption | (unfold v_sc; omega)) (fun _ _ => ?_)
    | with_reducible refine v_Tlw2 (by assumption) (by first | assumption | (unfold v_sc; omega)) (fun _ _ => ?_)
    | (with_reducible refine v_TbiQ (by assumption) (fun hk => by apply q_word <;> assumption) h0 (fun _ _ _ => ?_))
theorem q_prepare_L5 (s0 : vS) (h0 : v_KQ s0) (p x y : Int32) (a : Nat) (ha : ∀ j, v_sc a j) (k : vS → Option (Unit × vS)) (hk : ∀ s, v_fr s0 s → v_T (k s) (fun _ t => v_fr s0 t)) : ∀ (m n : Nat) (v : Int32) (s : vS), 125 ≤ v.toInt + m → v_fr s0 s → m < n → v_T (f_Wd_prepare_L55 p x y a k n v s) (fun _ t => v_fr s0 t) := by
  intro m
  induction m with
  | zero =>
    intro n v s hm hf hn
    obtain ⟨n, rfl⟩ : ∃ q, n = q + 1 := ⟨n - 1, by omega⟩
    show v_T (f_Wd_prepare_L55b p x y a k (f_Wd_prepare_L55 p x y a k n) v s) _
    unfold f_Wd_prepare_L55b
    rw [if_pos (by omega)]
    exact hk s hf
  | succ m ih =>
    intro n v s hm hf hn
    obtain ⟨n, rfl⟩ : ∃ q, n = q + 1 := ⟨n - 1, by omega⟩
    show v_T (f_Wd_prepare_L55b p x y a k (f_Wd_prepare_L55 p x y a k n) v s) _
    unfold f_Wd_prepare_L55b
    refine v_Tif (fun _ => hk s hf) (fun q => ?_)
    have e := v_inc (x := v) (by omega)
    repeat' first
      | ((with_reducible refine v_Tret ?_); (focus assumption))
      | ((with_reducible refine v_Tret ?_); exact ⟨by assumption, by first | assumption | decide | omega | exact Or.inl rfl | exact Or.inr rfl⟩)
      | with_reducible exact ih _ _ _ (by omega) (by assumption) (by omega)
      | with_reducible refine v_TbiQ (by assumption) (n_Add _ _ _ ha) h0 (fun _ _ _ => ?_)
      | ((with_reducible refine v_Tck ?_ ?_); (focus first | assumption | exact ⟨by omega, by omega⟩ | decide | omega))
      | with_reducible refine v_Tif (fun _ => ?_) (fun _ => ?_)
      | with_reducible refine v_Tlw1 (by assumption) (by first | assumption | (unfold v_sc; omega)) (fun _ _ => ?_)
      | with_reducible refine v_Tlw2 (by assumption) (by first | assumption | (unfold v_sc; omega)) (fun _ _ => ?_)
      | ((with_reducible refine v_Tbi (n_digit ..) ?_); rintro _ _ rfl)
      | ((with_reducible refine v_Tbi (n_compares ..) ?_); rintro _ _ rfl)
theorem q_prepare_L2 (s0 : vS) (h0 : v_KQ s0) (p : Int32) (k : vS → Option (Unit × vS)) (hk : ∀ s, v_fr s0 s → v_T (k s) (fun _ t => v_fr s0 t)) : ∀ (m n : Nat) (v : Int32) (s : vS), v.toInt + m = 45 → m ≤ 45 → v_fr s0 s → m < n → v_T (f_Wd_prepare_L20 p k n v s) (fun _ t => v_fr s0 t) := by
  intro m
  induction m with
  | zero =>
    intro n v s hm h9 hf hn
    obtain ⟨n, rfl⟩ : ∃ q, n = q + 1 := ⟨n - 1, by omega⟩
    show v_T (f_Wd_prepare_L20b p k (f_Wd_prepare_L20 p k n) v s) _
    unfold f_Wd_prepare_L20b
    rw [if_pos (by omega)]
    exact hk s hf
  | succ m ih =>
    intro n v s hm h9 hf hn
    obtain ⟨n, rfl⟩ : ∃ q, n = q + 1 := ⟨n - 1, by omega⟩
    show v_T (f_Wd_prepare_L20b p k (f_Wd_prepare_L20 p k n) v s) _
    unfold f_Wd_prepare_L20b
    refine v_Tif (fun _ => hk s hf) (fun q => ?_)
    have e := v_inc (x := v) (by omega)
    refine v_Tbi (n_meaning _ _ _) ?_
    rintro _ _ rfl
    refine v_Tbi (n_metBy _ _) ?_
    rintro r _ ⟨rfl, h4, hr⟩
    have hr2 := hr ⟨by omega, by omega⟩
    have ha : ∀ j, v_sc r j := fun j => by unfold v_sc; omega
    refine v_Tck h4 ?_
    refine v_TbiQ hf (n_Clear _ _ ha) h0 (fun _ t ht => ?_)
    exact q_prepare_L5 s0 h0 _ _ _ r ha _ (fun t ht => ih _ _ _ (by omega) (by omega) ht (by omega)) 125 4096 0 t (by decide) ht (by decide)
theorem q_prepare (c d e : Int32) (s0 : vS) (h0 : v_KQ s0) : v_T (f_Wd_prepare c d e s0) (fun _ t => v_fr s0 t) := by
  have hf : v_fr s0 s0 := v_fr_rf
  unfold f_Wd_prepare
  refine v_Tlw1 hf (by unfold v_sc; omega) (fun t ht => ?_)
  refine v_Tlw1 ht (by unfold v_sc; omega) (fun t ht => ?_)
  exact q_prepare_L2 s0 h0 _ _ (fun s h => v_Tret h) 45 4096 0 t (by decide) (by decide) ht (by decide)
theorem n_fits_L (p : Nat) (k : vS → Option (Int32 × vS)) (hk : ∀ s, v_T (k s) (fun _ t => t = s)) (hp : v_kd p = 6) : ∀ (m n : Nat) (v : Int32) (s : vS), v_KQ s → v.toInt + m = 31 → m ≤ 31 → m < n → v_T (f_Wd_fits_L2 p k n v s) (fun _ t => t = s) := by
  intro m
  induction m with
  | zero =>
    intro n v s h h1 h3 h2
    obtain ⟨n, rfl⟩ : ∃ q, n = q + 1 := ⟨n - 1, by omega⟩
    show v_T (f_Wd_fits_L2b p k (f_Wd_fits_L2 p k n) v s) _
    unfold f_Wd_fits_L2b
    refine v_Tbi (n_twos p s (h.2 p hp)) ?_
    rintro r _ ⟨rfl, hr⟩
    rw [if_pos (by omega)]
    exact hk _
  | succ m ih =>
    intro n v s h h1 h3 h2
    obtain ⟨n, rfl⟩ : ∃ q, n = q + 1 := ⟨n - 1, by omega⟩
    show v_T (f_Wd_fits_L2b p k (f_Wd_fits_L2 p k n) v s) _
    unfold f_Wd_fits_L2b
    refine v_Tbi (n_twos p s (h.2 p hp)) ?_
    rintro r _ ⟨rfl, hr⟩
    refine v_Tif (fun _ => hk _) (fun c => ?_)
    refine v_Tif (fun _ => hk _) (fun c => ?_)
    have e := v_inc (x := v) (by omega)
    have hv : v_in v 31 := ⟨by omega, by omega⟩
    refine v_Tck hv ?_
    refine v_Tif (fun _ => ?_) (fun _ => ?_)
    · refine v_Tck hv ?_
      refine v_Tbi (n_at _ _) ?_
      rintro r2 _ ⟨rfl, h4, _⟩
      refine v_Tck h4 ?_
      have hr2 : ∀ b, some r2 = some b → v_kd b = 4 := fun b hb => by cases hb; exact h4
      refine v_Tbi (n_placeOfTwo _ _ _) ?_
      rintro _ _ rfl
      refine v_Tbi (n_wouldHold _ _ _ _ hr2) ?_
      rintro _ _ rfl
      refine v_Tif (fun _ => ?_) (fun _ => ?_)
      · refine v_Tbi (n_verdictOfTwo _ _ _) ?_
        rintro _ _ rfl
        refine v_Tbi (n_verdictOf _ _ hr2) ?_
        rintro _ _ rfl
        exact v_Tif (fun _ => ih _ _ _ h (by omega) (by omega) (by omega)) (fun _ => v_Tret rfl)
      · refine v_Tbi (n_verdictOfTwo _ _ _) ?_
        rintro _ _ rfl
        refine v_Tbi (n_verdictOf _ _ (fun b hb => by cases hb; rfl)) ?_
        rintro _ _ rfl
        exact v_Tif (fun _ => ih _ _ _ h (by omega) (by omega) (by omega)) (fun _ => v_Tret rfl)
    · refine v_Tbi (n_placeOfTwo _ _ _) ?_
      rintro _ _ rfl
      refine v_Tbi (n_wouldHold _ _ _ _ (fun b hb => by cases hb)) ?_
      rintro _ _ rfl
      refine v_Tif (fun _ => ?_) (fun _ => ?_)
      · refine v_Tbi (n_verdictOfTwo _ _ _) ?_
        rintro _ _ rfl
        refine v_Tbi (n_verdictOf _ _ (fun b hb => by cases hb)) ?_
        rintro _ _ rfl
        exact v_Tif (fun _ => ih _ _ _ h (by omega) (by omega) (by omega)) (fun _ => v_Tret rfl)
      · refine v_Tbi (n_verdictOfTwo _ _ _) ?_
        rintro _ _ rfl
        refine v_Tbi (n_verdictOf _ _ (fun b hb => by cases hb; rfl)) ?_
        rintro _ _ rfl
        exact v_Tif (fun _ => ih _ _ _ h (by omega) (by omega) (by omega)) (fun _ => v_Tret rfl)
theorem n_fits (b : Nat) (hb : v_kd b = 6) (s : vS) (h : v_KQ s) : v_T (f_Wd_fits b s) (fun _ t => t = s) := by
  unfold f_Wd_fits
  exact n_fits_L b _ (fun s => v_Tret rfl) hb 31 4096 0 s h (by decide) (by decide) (by decide)
theorem q_fitting_L (s0 : vS) (h0 : v_KQ s0) (p : Nat) (hp : v_kd p = 6) (k : vS → Option (Int32 × vS)) (hk : ∀ s, v_fr s0 s → v_T (k s) (fun _ t => v_fr s0 t)) : ∀ (m n : Nat) (v : Int32) (s : vS), v.toInt + m = 31 → m ≤ 31 → v_fr s0 s → m < n → v_T (f_Wd_firstFitting_L2 p k n v s) (fun _ t => v_fr s0 t) := by
  intro m
  induction m with
  | zero =>
    intro n v s hm h9 hf hn
    obtain ⟨n, rfl⟩ : ∃ q, n = q + 1 := ⟨n - 1, by omega⟩
    show v_T (f_Wd_firstFitting_L2b p k (f_Wd_firstFitting_L2 p k n) v s) _
    unfold f_Wd_firstFitting_L2b
    refine v_Tbi (n_twos p s ((v_KQ_fr h0 hf).2 p hp)) ?_
    rintro r _ ⟨rfl, hr⟩
    rw [if_pos (by omega)]
    exact hk _ hf
  | succ m ih =>
    intro n v s hm h9 hf hn
    obtain ⟨n, rfl⟩ : ∃ q, n = q + 1 := ⟨n - 1, by omega⟩
    show v_T (f_Wd_firstFitting_L2b p k (f_Wd_firstFitting_L2 p k n) v s) _
    unfold f_Wd_firstFitting_L2b
    refine v_Tbi (n_twos p s ((v_KQ_fr h0 hf).2 p hp)) ?_
    rintro r _ ⟨rfl, hr⟩
    refine v_Tif (fun _ => hk _ hf) (fun c => ?_)
    refine v_Tif (fun _ => hk _ hf) (fun c => ?_)
    have e := v_inc (x := v) (by omega)
    have hv : v_in v 31 := ⟨by omega, by omega⟩
    refine v_Tbi (n_placeOfTwo _ _ _) ?_
    rintro _ _ rfl
    refine v_Tbi (n_holder _ _ _ (v_KQ_fr h0 hf)) ?_
    rintro r2 _ ⟨rfl, hr2⟩
    refine v_Ton (fun _ => ?_) (fun b hb => ?_)
    · refine v_Tck hv ?_
      exact v_Tlw1 hf (by unfold v_sc; omega) (fun t ht => ih _ _ _ (by omega) (by omega) ht (by omega))
    · refine v_Tck (hr2 b hb).1 (v_Tck hv ?_)
      exact v_Tlw1 hf (by unfold v_sc; omega) (fun t ht => ih _ _ _ (by omega) (by omega) ht (by omega))
theorem q_fitting_L6 (s0 : vS) (h0 : v_KQ s0) (p : Nat) (hp : v_kd p = 6) (k : vS → Option (Int32 × vS)) (hk : ∀ s, v_fr s0 s → v_T (k s) (fun _ t => v_fr s0 t)) : ∀ (m n : Nat) (v : Int32) (s : vS), v.toInt + m = 1036 → m ≤ 1036 → v_fr s0 s → m < n → v_T (f_Wd_firstFitting_L66 p k n v s) (fun _ t => v_fr s0 t) := by
  intro m
  induction m with
  | zero =>
    intro n v s hm h9 hf hn
    obtain ⟨n, rfl⟩ : ∃ q, n = q + 1 := ⟨n - 1, by omega⟩
    show v_T (f_Wd_firstFitting_L66b p k (f_Wd_firstFitting_L66 p k n) v s) _
    unfold f_Wd_firstFitting_L66b
    rw [if_pos (by omega)]
    exact hk s hf
  | succ m ih =>
    intro n v s hm h9 hf hn
    obtain ⟨n, rfl⟩ : ∃ q, n = q + 1 := ⟨n - 1, by omega⟩
    show v_T (f_Wd_firstFitting_L66b p k (f_Wd_firstFitting_L66 p k n) v s) _
    unfold f_Wd_firstFitting_L66b
    refine v_Tif (fun _ => hk s hf) (fun q => ?_)
    have e := v_inc (x := v) (by omega)
    refine v_Tbi (n_fits p hp _ (v_KQ_fr h0 hf)) ?_
    rintro _ _ rfl
    refine v_Tif (fun _ => ?_) (fun _ => v_Tret hf)
    exact v_TbiQ hf (q_goOn _) h0 (fun _ t ht => ih _ _ _ (by omega) (by omega) ht (by omega))
theorem q_fitting (b : Nat) (hb : v_kd b = 6) (s : vS) (h : v_KQ s) : v_T (f_Wd_firstFitting b s) (fun _ t => v_fr s t) := by
  unfold f_Wd_firstFitting
  refine q_fitting_L s h b hb _ (fun t ht => ?_) 31 4096 0 s (by decide) (by decide) v_fr_rf (by decide)
  refine v_TbiQ ht (q_begin _) h (fun _ t ht => ?_)
  exact q_fitting_L6 s h b hb _ (fun s h => v_Tret h) 1036 4096 0 t (by decide) (by decide) ht (by decide)
theorem q_might_L (s0 : vS) (h0 : v_KQ s0) (p : Int32) (o : Option Nat) (ho : ∀ b, o = some b → v_kd b = 4) (x : Int32) (k : vS → Option (Int32 × vS)) (hk : ∀ s, v_fr s0 s → v_T (k s) (fun _ t => v_fr s0 t)) : ∀ (m n : Nat) (v : Int32) (s : vS), v.toInt + m = 1036 → m ≤ 1036 → v_fr s0 s → m < n → v_T (f_Wd_mightHold_L7 p o x k n v s) (fun _ t => v_fr s0 t) := by
  intro m
  induction m with
  | zero =>
    intro n v s hm h9 hf hn
    obtain ⟨n, rfl⟩ : ∃ q, n = q + 1 := ⟨n - 1, by omega⟩
    show v_T (f_Wd_mightHold_L7b p o x k (f_Wd_mightHold_L7 p o x k n) v s) _
    unfold f_Wd_mightHold_L7b
    rw [if_pos (by omega)]
    exact hk s hf
  | succ m ih =>
    intro n v s hm h9 hf hn
    obtain ⟨n, rfl⟩ : ∃ q, n = q + 1 := ⟨n - 1, by omega⟩
    show v_T (f_Wd_mightHold_L7b p o x k (f_Wd_mightHold_L7 p o x k n) v s) _
    unfold f_Wd_mightHold_L7b
    refine v_Tif (fun _ => hk s hf) (fun q => ?_)
    have e := v_inc (x := v) (by omega)
    refine v_Ton (fun _ => ?_) (fun b hb => v_Tck (ho b hb) ?_)
    · refine v_Tbi (n_wouldHold _ _ _ _ (fun b hb => by cases hb)) ?_
      rintro _ _ rfl
      refine v_Tif (fun _ => ?_) (fun _ => v_Tret hf)
      exact v_TbiQ hf (q_goOn _) h0 (fun _ t ht => ih _ _ _ (by omega) (by omega) ht (by omega))
    · refine v_Tbi (n_wouldHold _ _ _ _ (fun c hc => by cases hc; exact ho b hb)) ?_
      rintro _ _ rfl
      refine v_Tif (fun _ => ?_) (fun _ => v_Tret hf)
      exact v_TbiQ hf (q_goOn _) h0 (fun _ t ht => ih _ _ _ (by omega) (by omega) ht (by omega))
theorem q_might (b : Int32) (o : Option Nat) (ho : ∀ b, o = some b → v_kd b = 4) (x : Int32) (s : vS) (h : v_KQ s) : v_T (f_Wd_mightHold b o x s) (fun _ t => v_fr s t) := by
  unfold f_Wd_mightHold
  refine v_TbiQ v_fr_rf (q_begin _) h (fun _ t ht => ?_)
  exact q_might_L s h b o ho x _ (fun s h => v_Tret h) 1036 4096 0 t (by decide) (by decide) ht (by decide)
theorem q_isBarred (b : Nat) (c : Int32) (o : Option Nat) (ho : ∀ b, o = some b → v_kd b = 4) (x : Int32) (s : vS) (h : v_KQ s) : v_T (f_Wd_isBarred b c o x s) (fun _ t => v_fr s t) := by
  unfold f_Wd_isBarred
  refine v_Tbi (n_verdictOfTwo _ _ _) ?_
  rintro _ _ rfl
  have hn : ∀ b : Nat, (none : Option Nat) = some b → v_kd b = 4 := fun b hb => by cases hb
  refine v_Ton (fun _ => ?_) (fun b hb => v_Tck (ho b hb) ?_)
  · refine v_Tbi (n_verdictOf _ _ hn) ?_
    rintro _ _ rfl
    refine v_Tif (fun _ => v_Tret v_fr_rf) (fun _ => v_Tif (fun _ => ?_) (fun _ => v_Tret v_fr_rf))
    refine v_Tbi (n_placeOfTwo _ _ _) ?_
    rintro _ _ rfl
    exact v_TbiQ v_fr_rf (q_might _ _ hn _ _) h (fun _ t ht => v_Tif (fun _ => v_Tret ht) (fun _ => v_Tret ht))
  · have hs : ∀ c, some b = some c → v_kd c = 4 := fun c hc => by cases hc; exact ho b hb
    refine v_Tbi (n_verdictOf _ _ hs) ?_
    rintro _ _ rfl
    refine v_Tif (fun _ => v_Tret v_fr_rf) (fun _ => v_Tif (fun _ => ?_) (fun _ => v_Tret v_fr_rf))
    refine v_Tbi (n_placeOfTwo _ _ _) ?_
    rintro _ _ rfl
    exact v_TbiQ v_fr_rf (q_might _ _ hs _ _) h (fun _ t ht => v_Tif (fun _ => v_Tret ht) (fun _ => v_Tret ht))
theorem q_barring_L (s0 : vS) (h0 : v_KQ s0) (p : Nat) (hp : v_kd p = 6) (k : vS → Option ((Option Nat) × vS)) (hk : ∀ s, v_fr s0 s → v_T (k s) (fun r t => v_fr s0 t ∧ n_law r)) : ∀ (m n : Nat) (v : Int32) (s : vS), v.toInt + m = 31 → m ≤ 31 → v_fr s0 s → m < n → v_T (f_Wd_barring_L2 p k n v s) (fun r t => v_fr s0 t ∧ n_law r) := by
  have hn : ∀ b : Nat, (none : Option Nat) = some b → v_kd b = 4 := fun b hb => by cases hb
  have hn2 : n_law none := fun b hb => by cases hb
  intro m
  induction m with
  | zero =>
    intro n v s hm h9 hf hn
    obtain ⟨n, rfl⟩ : ∃ q, n = q + 1 := ⟨n - 1, by omega⟩
    show v_T (f_Wd_barring_L2b p k (f_Wd_barring_L2 p k n) v s) _
    unfold f_Wd_barring_L2b
    refine v_Tbi (n_twos p s ((v_KQ_fr h0 hf).2 p hp)) ?_
    rintro r _ ⟨rfl, hr⟩
    rw [if_pos (by omega)]
    exact hk _ hf
  | succ m ih =>
    intro n v s hm h9 hf hnn
    obtain ⟨n, rfl⟩ : ∃ q, n = q + 1 := ⟨n - 1, by omega⟩
    show v_T (f_Wd_barring_L2b p k (f_Wd_barring_L2 p k n) v s) _
    unfold f_Wd_barring_L2b
    refine v_Tbi (n_twos p s ((v_KQ_fr h0 hf).2 p hp)) ?_
    rintro r _ ⟨rfl, hr⟩
    refine v_Tif (fun _ => hk _ hf) (fun c => ?_)
    have e := v_inc (x := v) (by omega)
    refine v_Tbi (n_isTwo _ _ _) ?_
    rintro _ _ rfl
    refine v_Tif (fun _ => v_Tret ⟨hf, hn2⟩) (fun _ => ?_)
    refine v_Tbi (n_placeOfTwo _ _ _) ?_
    rintro _ _ rfl
    refine v_Tbi (n_holder _ _ _ (v_KQ_fr h0 hf)) ?_
    rintro r2 _ ⟨rfl, hr2⟩
    refine v_Ton (fun _ => ?_) (fun b hb => v_Tck (hr2 b hb).1 ?_)
    · exact v_TbiQ hf (q_isBarred _ _ _ hn _ _) h0 (fun _ t ht => v_Tif (fun _ => ih _ _ _ (by omega) (by omega) ht (by omega)) (fun _ => v_Tret ⟨ht, hn2⟩))
    · exact v_TbiQ hf (q_isBarred _ _ _ (fun c hc => by cases hc; exact (hr2 b hb).1) _ _) h0 (fun _ t ht => v_Tif (fun _ => ih _ _ _ (by omega) (by omega) ht (by omega)) (fun _ => v_Tret ⟨ht, fun c hc => by cases hc; exact hr2 b hb⟩))
theorem q_barring (b : Nat) (hb : v_kd b = 6) (s : vS) (h : v_KQ s) : v_T (f_Wd_barring b s) (fun r t => v_fr s t ∧ n_law r) := by
  unfold f_Wd_barring
  exact q_barring_L s h b hb _ (fun s h => v_Tret ⟨h, fun b hb => by cases hb⟩) 31 4096 0 s (by decide) (by decide) v_fr_rf (by decide)
