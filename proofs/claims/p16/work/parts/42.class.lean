/-! the class: its functions come to an end; the quiet ones change only what is worked out anew -/
theorem n_placeOf (b : Int32) (s : vS) : v_T (f_Cs_placeOf b s) (fun _ t => t = s) := by
  unfold f_Cs_placeOf
  repeat' first
    | ((with_reducible refine v_Tret ?_); (focus exact rfl))
    | ((with_reducible refine v_Tret ?_); exact ⟨rfl, by first | assumption | decide | omega | exact Or.inl rfl | exact Or.inr rfl⟩)
    | ((with_reducible refine v_Tck ?_ ?_); (focus first | assumption | exact ⟨by omega, by omega⟩ | decide | omega))
    | with_reducible refine v_Tif (fun _ => ?_) (fun _ => ?_)
theorem n_digit (b c : Int32) (s : vS) : v_T (f_Cs_digit b c s) (fun _ t => t = s) := by
  unfold f_Cs_digit
  repeat' first
    | ((with_reducible refine v_Tret ?_); (focus exact rfl))
    | ((with_reducible refine v_Tret ?_); exact ⟨rfl, by first | assumption | decide | omega | exact Or.inl rfl | exact Or.inr rfl⟩)
    | ((with_reducible refine v_Tck ?_ ?_); (focus first | assumption | exact ⟨by omega, by omega⟩ | decide | omega))
    | with_reducible refine v_Tif (fun _ => ?_) (fun _ => ?_)
theorem n_numberOf (b : Int32) (s : vS) : v_T (f_Cs_numberOf b s) (fun _ t => t = s) := by
  unfold f_Cs_numberOf
  repeat' first
    | ((with_reducible refine v_Tret ?_); (focus exact rfl))
    | ((with_reducible refine v_Tret ?_); exact ⟨rfl, by first | assumption | decide | omega | exact Or.inl rfl | exact Or.inr rfl⟩)
    | ((with_reducible refine v_Tck ?_ ?_); (focus first | assumption | exact ⟨by omega, by omega⟩ | decide | omega))
    | with_reducible refine v_Tif (fun _ => ?_) (fun _ => ?_)
    | ((with_reducible refine v_Tbi (n_digit ..) ?_); rintro _ _ rfl)
theorem n_has (a : Nat) (b : Int32) (s : vS) : v_T (f_Cs_has a b s) (fun _ t => t = s) := by
  unfold f_Cs_has
  repeat' first
    | ((with_reducible refine v_Tret ?_); (focus exact rfl))
    | ((with_reducible refine v_Tret ?_); exact ⟨rfl, by first | assumption | decide | omega | exact Or.inl rfl | exact Or.inr rfl⟩)
    | ((with_reducible refine v_Tck ?_ ?_); (focus first | assumption | exact ⟨by omega, by omega⟩ | decide | omega))
    | with_reducible refine v_Tif (fun _ => ?_) (fun _ => ?_)
theorem n_Lo (b : Int64) (s : vS) : v_T (f_Lo_bitCount b s) (fun _ t => t = s) := ⟨_, _, rfl, rfl⟩
theorem n_In (b : Int32) (s : vS) : v_T (f_In_bitCount b s) (fun _ t => t = s) := ⟨_, _, rfl, rfl⟩
theorem n_size (a : Nat) (s : vS) : v_T (f_Cs_size a s) (fun _ t => t = s) := by
  unfold f_Cs_size
  repeat' first
    | ((with_reducible refine v_Tret ?_); (focus exact rfl))
    | ((with_reducible refine v_Tret ?_); exact ⟨rfl, by first | assumption | decide | omega | exact Or.inl rfl | exact Or.inr rfl⟩)
    | ((with_reducible refine v_Tck ?_ ?_); (focus first | assumption | exact ⟨by omega, by omega⟩ | decide | omega))
    | with_reducible refine v_Tif (fun _ => ?_) (fun _ => ?_)
    | ((with_reducible refine v_Tbi (n_Lo ..) ?_); rintro _ _ rfl)
theorem n_first_L (p : Nat) (k : vS → Option (Int32 × vS)) (hk : ∀ s, v_T (k s) (fun _ t => t = s)) : ∀ (m n : Nat) (v : Int32) (s : vS), 125 ≤ v.toInt + m → m < n → v_T (f_Cs_first_L2 p k n v s) (fun _ t => t = s) := by
  intro m
  induction m with
  | zero =>
    intro n v s h1 h2
    obtain ⟨n, rfl⟩ : ∃ q, n = q + 1 := ⟨n - 1, by omega⟩
    show v_T (f_Cs_first_L2b p k (f_Cs_first_L2 p k n) v s) _
    unfold f_Cs_first_L2b
    rw [if_pos (by omega)]
    exact hk s
  | succ m ih =>
    intro n v s h1 h2
    obtain ⟨n, rfl⟩ : ∃ q, n = q + 1 := ⟨n - 1, by omega⟩
    show v_T (f_Cs_first_L2b p k (f_Cs_first_L2 p k n) v s) _
    unfold f_Cs_first_L2b
    refine v_Tif (fun _ => hk s) (fun c => ?_)
    have e := v_inc (x := v) (by omega)
    repeat' first
      | ((with_reducible refine v_Tret ?_); (focus exact rfl))
      | ((with_reducible refine v_Tret ?_); exact ⟨rfl, by first | assumption | decide | omega | exact Or.inl rfl | exact Or.inr rfl⟩)
      | with_reducible exact ih _ _ _ (by omega) (by omega)
      | ((with_reducible refine v_Tck ?_ ?_); (focus first | assumption | exact ⟨by omega, by omega⟩ | decide | omega))
      | with_reducible refine v_Tif (fun _ => ?_) (fun _ => ?_)
      | ((with_reducible refine v_Tbi (n_has ..) ?_); rintro _ _ rfl)
      | ((with_reducible refine v_Tbi (n_numberOf ..) ?_); rintro _ _ rfl)
theorem n_first (a : Nat) (s : vS) : v_T (f_Cs_first a s) (fun _ t => t = s) := by
  unfold f_Cs_first
  exact n_first_L a _ (fun s => v_Tret rfl) 125 4096 0 s (by decide) (by decide)
theorem n_knows (b : Int32) (s : vS) : v_T (f_Ct_knows b s) (fun _ t => t = s) := by
  unfold f_Ct_knows
  repeat' first
    | ((with_reducible refine v_Tret ?_); (focus exact rfl))
    | ((with_reducible refine v_Tret ?_); exact ⟨rfl, by first | assumption | decide | omega | exact Or.inl rfl | exact Or.inr rfl⟩)
    | ((with_reducible refine v_Tck ?_ ?_); (focus first | assumption | exact ⟨by omega, by omega⟩ | decide | omega))
    | with_reducible refine v_Tif (fun _ => ?_) (fun _ => ?_)
theorem n_at (b : Int32) (s : vS) : v_T (f_Ct_at b s) (fun r t => t = s ∧ (v_kd r = 4 ∧ (r = 15 ∨ (23 ≤ r ∧ r ≤ 68 ∧ r % 5 = 3)))) := by
  unfold f_Ct_at
  refine v_Tif (fun _ => v_Tret ⟨rfl, rfl, Or.inl rfl⟩) (fun c1 => ?_)
  refine v_Tif (fun _ => v_Tret ⟨rfl, rfl, Or.inl rfl⟩) (fun c2 => ?_)
  have hv : v_in b 10 := ⟨by omega, by omega⟩
  refine v_Tck hv (v_Tck hv (v_Tret ⟨rfl, (v_laws (v_ii hv.1 hv.2)).2, ?_⟩))
  have h := v_ii hv.1 hv.2
  omega
theorem n_numbers (s : vS) : v_T (f_Ct_numbers s) (fun _ t => t = s) := ⟨_, _, rfl, rfl⟩
theorem n_isThere (b : Int32) (s : vS) : v_T (f_Ct_isThere b s) (fun r t => t = s ∧ (r = 0 ∨ r = 1)) := by
  unfold f_Ct_isThere
  refine v_Tbi (n_knows _ _) ?_
  rintro _ _ rfl
  refine v_Tif (fun _ => v_Tret ⟨rfl, Or.inl rfl⟩) (fun _ => ?_)
  refine v_Tbi (n_at _ _) ?_
  rintro r _ ⟨rfl, h, _⟩
  repeat' first
    | ((with_reducible refine v_Tret ?_); (focus exact rfl))
    | ((with_reducible refine v_Tret ?_); exact ⟨rfl, by first | assumption | decide | omega | exact Or.inl rfl | exact Or.inr rfl⟩)
    | ((with_reducible refine v_Tck ?_ ?_); (focus first | assumption | exact ⟨by omega, by omega⟩ | decide | omega))
    | with_reducible refine v_Tif (fun _ => ?_) (fun _ => ?_)
theorem n_isOlder (a b : Nat) (s : vS) : v_T (f_Lw_isOlderThan a b s) (fun r t => t = s ∧ (r = 0 ∨ r = 1)) := by
  unfold f_Lw_isOlderThan
  repeat' first
    | ((with_reducible refine v_Tret ?_); (focus exact rfl))
    | ((with_reducible refine v_Tret ?_); exact ⟨rfl, by first | assumption | decide | omega | exact Or.inl rfl | exact Or.inr rfl⟩)
    | ((with_reducible refine v_Tck ?_ ?_); (focus first | assumption | exact ⟨by omega, by omega⟩ | decide | omega))
    | with_reducible refine v_Tif (fun _ => ?_) (fun _ => ?_)
theorem n_hardness (a : Nat) (s : vS) : v_T (f_Lw_hardness a s) (fun _ t => t = s) := by
  unfold f_Lw_hardness
  repeat' first
    | ((with_reducible refine v_Tret ?_); (focus exact rfl))
    | ((with_reducible refine v_Tret ?_); exact ⟨rfl, by first | assumption | decide | omega | exact Or.inl rfl | exact Or.inr rfl⟩)
    | ((with_reducible refine v_Tck ?_ ?_); (focus first | assumption | exact ⟨by omega, by omega⟩ | decide | omega))
    | with_reducible refine v_Tif (fun _ => ?_) (fun _ => ?_)
theorem n_goesAhead (a b : Nat) (c : Int32) (s : vS) : v_T (f_Lw_goesAhead a b c s) (fun r t => t = s ∧ (r = 0 ∨ r = 1)) := by
  unfold f_Lw_goesAhead
  refine v_Tif (fun _ => ?_) (fun _ => ?_)
  · refine v_Tbi (n_isOlder _ _ _) ?_
    rintro r _ ⟨rfl, h⟩
    exact v_Tck h (v_Tret ⟨rfl, h⟩)
  · skip
    repeat' first
      | ((with_reducible refine v_Tret ?_); (focus exact rfl))
      | ((with_reducible refine v_Tret ?_); exact ⟨rfl, by first | assumption | decide | omega | exact Or.inl rfl | exact Or.inr rfl⟩)
      | ((with_reducible refine v_Tck ?_ ?_); (focus first | assumption | exact ⟨by omega, by omega⟩ | decide | omega))
      | with_reducible refine v_Tif (fun _ => ?_) (fun _ => ?_)
      | ((with_reducible refine v_Tbi (n_size ..) ?_); rintro _ _ rfl)
      | ((with_reducible refine v_Tbi (n_hardness ..) ?_); rintro _ _ rfl)
      | ((with_reducible refine v_Tbi (n_isOlder ..) ?_); rintro _ _ ⟨rfl, _⟩)
theorem n_isStanding (b : Int32) (s : vS) : v_T (f_Ct_isStanding b s) (fun _ t => t = s) := by
  unfold f_Ct_isStanding
  repeat' first
    | ((with_reducible refine v_Tret ?_); (focus exact rfl))
    | ((with_reducible refine v_Tret ?_); exact ⟨rfl, by first | assumption | decide | omega | exact Or.inl rfl | exact Or.inr rfl⟩)
    | ((with_reducible refine v_Tck ?_ ?_); (focus first | assumption | exact ⟨by omega, by omega⟩ | decide | omega))
    | with_reducible refine v_Tif (fun _ => ?_) (fun _ => ?_)
    | ((with_reducible refine v_Tbi (n_knows ..) ?_); rintro _ _ rfl)
theorem n_there_L (k : Int32 → vS → Option (Int32 × vS)) (hk : ∀ x s, v_T (k x s) (fun _ t => t = s)) : ∀ (m n : Nat) (u v : Int32) (s : vS), (s.1 8 1).toInt ≤ 10 → (s.1 8 1).toInt ≤ v.toInt + m → m < n → v_T (f_Ct_there_L4 k n u v s) (fun _ t => t = s) := by
  intro m
  induction m with
  | zero =>
    intro n u v s h0 h1 h2
    obtain ⟨n, rfl⟩ : ∃ q, n = q + 1 := ⟨n - 1, by omega⟩
    show v_T (f_Ct_there_L4b k (f_Ct_there_L4 k n) u v s) _
    unfold f_Ct_there_L4b
    rw [if_pos (by omega)]
    exact hk u s
  | succ m ih =>
    intro n u v s h0 h1 h2
    obtain ⟨n, rfl⟩ : ∃ q, n = q + 1 := ⟨n - 1, by omega⟩
    show v_T (f_Ct_there_L4b k (f_Ct_there_L4 k n) u v s) _
    unfold f_Ct_there_L4b
    refine v_Tif (fun _ => hk u s) (fun c => ?_)
    have e := v_inc (x := v) (by omega)
    repeat' first
      | ((with_reducible refine v_Tret ?_); (focus exact rfl))
      | ((with_reducible refine v_Tret ?_); exact ⟨rfl, by first | assumption | decide | omega | exact Or.inl rfl | exact Or.inr rfl⟩)
      | with_reducible exact ih _ _ _ _ h0 (by omega) (by omega)
      | ((with_reducible refine v_Tck ?_ ?_); (focus first | assumption | exact ⟨by omega, by omega⟩ | decide | omega))
      | with_reducible refine v_Tif (fun _ => ?_) (fun _ => ?_)
      | ((with_reducible refine v_Tbi (n_isThere ..) ?_); rintro _ _ ⟨rfl, _⟩)
theorem n_there (s : vS) (h : v_KQ s) : v_T (f_Ct_there s) (fun _ t => t = s) := by
  unfold f_Ct_there
  exact n_there_L _ (fun x s => v_Tret rfl) 10 4096 0 0 s h.1.2 (by have := h.1.2; show _ ≤ (0 : Int) + 10; omega) (by decide)
def n_law (o : Option Nat) : Prop := ∀ b, o = some b → v_kd b = 4 ∧ (b = 15 ∨ (23 ≤ b ∧ b ≤ 68 ∧ b % 5 = 3))
theorem n_holder_L (p q : Int32) (k : Option Nat → vS → Option ((Option Nat) × vS)) (hk : ∀ x s, n_law x → v_T (k x s) (fun r t => t = s ∧ n_law r)) : ∀ (m n : Nat) (u : Option Nat) (v : Int32) (s : vS), n_law u → (s.1 8 1).toInt ≤ 10 → (s.1 8 1).toInt ≤ v.toInt + m → m < n → v_T (f_Ct_holder_L5 p q k n u v s) (fun r t => t = s ∧ n_law r) := by
  intro m
  induction m with
  | zero =>
    intro n u v s hu h0 h1 h2
    obtain ⟨n, rfl⟩ : ∃ q, n = q + 1 := ⟨n - 1, by omega⟩
    show v_T (f_Ct_holder_L5b p q k (f_Ct_holder_L5 p q k n) u v s) _
    unfold f_Ct_holder_L5b
    rw [if_pos (by omega)]
    exact hk u s hu
  | succ m ih =>
    intro n u v s hu h0 h1 h2
    obtain ⟨n, rfl⟩ : ∃ q, n = q + 1 := ⟨n - 1, by omega⟩
    show v_T (f_Ct_holder_L5b p q k (f_Ct_holder_L5 p q k n) u v s) _
    unfold f_Ct_holder_L5b
    refine v_Tif (fun _ => hk u s hu) (fun c => ?_)
    have e := v_inc (x := v) (by omega)
    refine v_Tbi (n_at _ _) ?_
    rintro r _ ⟨rfl, h4⟩
    refine v_Tck h4.1 ?_
    have hr : n_law (some r) := fun b hb => by cases hb; exact h4
    refine v_Tbi (n_isStanding _ _) ?_
    rintro _ _ rfl
    refine v_Tif (fun _ => ih _ _ _ _ hu h0 (by omega) (by omega)) (fun _ => ?_)
    refine v_Tbi (n_has _ _ _) ?_
    rintro _ _ rfl
    refine v_Tif (fun _ => ih _ _ _ _ hu h0 (by omega) (by omega)) (fun _ => ?_)
    refine v_Ton (fun _ => ih _ _ _ _ hr h0 (by omega) (by omega)) (fun b hb => ?_)
    subst hb
    refine v_Tck (hu b rfl).1 ?_
    refine v_Tbi (n_goesAhead _ _ _ _) ?_
    rintro _ _ ⟨rfl, _⟩
    exact v_Tif (fun _ => ih _ _ _ _ hu h0 (by omega) (by omega)) (fun _ => ih _ _ _ _ hr h0 (by omega) (by omega))
theorem n_holder (b c : Int32) (s : vS) (h : v_KQ s) : v_T (f_Ct_holder b c s) (fun r t => t = s ∧ n_law r) := by
  unfold f_Ct_holder
  refine n_holder_L b c _ (fun x s hx => ?_) 10 4096 none 0 s (fun b hb => by cases hb) h.1.2 (by have := h.1.2; show _ ≤ (0 : Int) + 10; omega) (by decide)
  refine v_Ton (fun _ => v_Tret ⟨rfl, fun b hb => by cases hb⟩) (fun b hb => ?_)
  subst hb
  exact v_Tck (hx b rfl).1 (v_Tret ⟨rfl, hx⟩)
theorem n_verdictOf (o : Option Nat) (s : vS) (h : ∀ b, o = some b → v_kd b = 4) : v_T (f_Ct_verdictOf o s) (fun _ t => t = s) := by
  unfold f_Ct_verdictOf
  exact v_Ton (fun _ => v_Tret rfl) (fun b hb => v_Tck (h b hb) (v_Tret rfl))
theorem n_verdictIn (b c : Int32) (s : vS) (h : v_KQ s) : v_T (f_Ct_verdictIn b c s) (fun _ t => t = s) := by
  unfold f_Ct_verdictIn
  refine v_Tbi (n_holder _ _ _ h) ?_
  rintro r _ ⟨rfl, hr⟩
  refine v_Ton (fun _ => ?_) (fun b hb => ?_)
  · refine v_Tbi (n_verdictOf _ _ (fun b hb => by cases hb)) ?_
    rintro _ _ rfl
    exact v_Tret rfl
  · refine v_Tck (hr b hb).1 ?_
    refine v_Tbi (n_verdictOf _ _ (fun c hc => by cases hc; exact (hr b hb).1)) ?_
    rintro _ _ rfl
    exact v_Tret rfl
theorem n_beatenBy_L (p : Nat) (q : Int32) (k : Int32 → vS → Option (Int32 × vS)) (hk : ∀ x s, v_T (k x s) (fun _ t => t = s)) : ∀ (m n : Nat) (u v : Int32) (s : vS), (s.1 8 1).toInt ≤ 10 → (s.1 8 1).toInt ≤ v.toInt + m → m < n → v_T (f_Ct_beatenBy_L5 p q k n u v s) (fun _ t => t = s) := by
  intro m
  induction m with
  | zero =>
    intro n u v s h0 h1 h2
    obtain ⟨n, rfl⟩ : ∃ q, n = q + 1 := ⟨n - 1, by omega⟩
    show v_T (f_Ct_beatenBy_L5b p q k (f_Ct_beatenBy_L5 p q k n) u v s) _
    unfold f_Ct_beatenBy_L5b
    rw [if_pos (by omega)]
    exact hk u s
  | succ m ih =>
    intro n u v s h0 h1 h2
    obtain ⟨n, rfl⟩ : ∃ q, n = q + 1 := ⟨n - 1, by omega⟩
    show v_T (f_Ct_beatenBy_L5b p q k (f_Ct_beatenBy_L5 p q k n) u v s) _
    unfold f_Ct_beatenBy_L5b
    refine v_Tif (fun _ => hk u s) (fun c => ?_)
    have e := v_inc (x := v) (by omega)
    refine v_Tbi (n_at _ _) ?_
    rintro r _ ⟨rfl, h4⟩
    refine v_Tck h4.1 ?_
    repeat' first
      | ((with_reducible refine v_Tret ?_); (focus exact rfl))
      | ((with_reducible refine v_Tret ?_); exact ⟨rfl, by first | assumption | decide | omega | exact Or.inl rfl | exact Or.inr rfl⟩)
      | with_reducible exact ih _ _ _ _ h0 (by omega) (by omega)
      | ((with_reducible refine v_Tck ?_ ?_); (focus first | assumption | exact ⟨by omega, by omega⟩ | decide | omega))
      | with_reducible refine v_Tif (fun _ => ?_) (fun _ => ?_)
      | ((with_reducible refine v_Tbi (n_isStanding ..) ?_); rintro _ _ rfl)
      | ((with_reducible refine v_Tbi (n_has ..) ?_); rintro _ _ rfl)
theorem n_beatenBy (b : Nat) (c : Int32) (s : vS) (h : v_KQ s) : v_T (f_Ct_beatenBy b c s) (fun _ t => t = s) := by
  unfold f_Ct_beatenBy
  exact n_beatenBy_L b c _ (fun x s => v_Tret rfl) 10 4096 0 0 s h.1.2 (by have := h.1.2; show _ ≤ (0 : Int) + 10; omega) (by decide)
theorem n_isSaying (b : Int32) (s : vS) : v_T (f_Ol_isSaying b s) (fun _ t => t = s) := by
  unfold f_Ol_isSaying
  repeat' first
    | ((with_reducible refine v_Tret ?_); (focus exact rfl))
    | ((with_reducible refine v_Tret ?_); exact ⟨rfl, by first | assumption | decide | omega | exact Or.inl rfl | exact Or.inr rfl⟩)
    | ((with_reducible refine v_Tck ?_ ?_); (focus first | assumption | exact ⟨by omega, by omega⟩ | decide | omega))
    | with_reducible refine v_Tif (fun _ => ?_) (fun _ => ?_)
theorem n_isDate (b : Int32) (s : vS) : v_T (f_Ol_isDate b s) (fun _ t => t = s) := by
  unfold f_Ol_isDate
  repeat' first
    | ((with_reducible refine v_Tret ?_); (focus exact rfl))
    | ((with_reducible refine v_Tret ?_); exact ⟨rfl, by first | assumption | decide | omega | exact Or.inl rfl | exact Or.inr rfl⟩)
    | ((with_reducible refine v_Tck ?_ ?_); (focus first | assumption | exact ⟨by omega, by omega⟩ | decide | omega))
    | with_reducible refine v_Tif (fun _ => ?_) (fun _ => ?_)
theorem n_isStruck (b : Int32) (s : vS) : v_T (f_Ol_isStruck b s) (fun _ t => t = s) := by
  unfold f_Ol_isStruck
  repeat' first
    | ((with_reducible refine v_Tret ?_); (focus exact rfl))
    | ((with_reducible refine v_Tret ?_); exact ⟨rfl, by first | assumption | decide | omega | exact Or.inl rfl | exact Or.inr rfl⟩)
    | ((with_reducible refine v_Tck ?_ ?_); (focus first | assumption | exact ⟨by omega, by omega⟩ | decide | omega))
    | with_reducible refine v_Tif (fun _ => ?_) (fun _ => ?_)
theorem n_isWord (b : Int32) (s : vS) : v_T (f_Ol_isWord b s) (fun r t => t = s) := by
  unfold f_Ol_isWord
  repeat' first
    | ((with_reducible refine v_Tret ?_); (focus exact rfl))
    | ((with_reducible refine v_Tret ?_); exact ⟨rfl, by first | assumption | decide | omega | exact Or.inl rfl | exact Or.inr rfl⟩)
    | ((with_reducible refine v_Tck ?_ ?_); (focus first | assumption | exact ⟨by omega, by omega⟩ | decide | omega))
    | with_reducible refine v_Tif (fun _ => ?_) (fun _ => ?_)
theorem n_isRule (b : Int32) (s : vS) : v_T (f_Ol_isRule b s) (fun _ t => t = s) := by
  unfold f_Ol_isRule
  repeat' first
    | ((with_reducible refine v_Tret ?_); (focus exact rfl))
    | ((with_reducible refine v_Tret ?_); exact ⟨rfl, by first | assumption | decide | omega | exact Or.inl rfl | exact Or.inr rfl⟩)
    | ((with_reducible refine v_Tck ?_ ?_); (focus first | assumption | exact ⟨by omega, by omega⟩ | decide | omega))
    | with_reducible refine v_Tif (fun _ => ?_) (fun _ => ?_)
theorem n_isEither (b : Int32) (s : vS) : v_T (f_Ol_isEither b s) (fun _ t => t = s) := by
  unfold f_Ol_isEither
  repeat' first
    | ((with_reducible refine v_Tret ?_); (focus exact rfl))
    | ((with_reducible refine v_Tret ?_); exact ⟨rfl, by first | assumption | decide | omega | exact Or.inl rfl | exact Or.inr rfl⟩)
    | ((with_reducible refine v_Tck ?_ ?_); (focus first | assumption | exact ⟨by omega, by omega⟩ | decide | omega))
    | with_reducible refine v_Tif (fun _ => ?_) (fun _ => ?_)
theorem n_Shat (a : Nat) (b : Int32) (s : vS) : v_T (f_Sh_at a b s) (fun _ t => t = s) := by
  unfold f_Sh_at
  repeat' first
    | ((with_reducible refine v_Tret ?_); (focus exact rfl))
    | ((with_reducible refine v_Tret ?_); exact ⟨rfl, by first | assumption | decide | omega | exact Or.inl rfl | exact Or.inr rfl⟩)
    | ((with_reducible refine v_Tck ?_ ?_); (focus first | assumption | exact ⟨by omega, by omega⟩ | decide | omega))
    | with_reducible refine v_Tif (fun _ => ?_) (fun _ => ?_)
theorem n_twos (a : Nat) (s : vS) (h : 0 ≤ (s.1 a 2).toInt ∧ (s.1 a 2).toInt ≤ 60) : v_T (f_Sh_twos a s) (fun r t => t = s ∧ r.toInt ≤ 30) := by
  unfold f_Sh_twos
  refine v_Tret ⟨rfl, ?_⟩
  have e := v_inc (x := s.1 a 2) (by omega)
  rw [v_tdiv (by omega) (by decide), e]
  show ((s.1 a 2).toInt + 1) / 2 ≤ 30
  omega
theorem n_placeOfTwo (a : Nat) (b : Int32) (s : vS) : v_T (f_Sh_placeOfTwo a b s) (fun _ t => t = s) := by
  unfold f_Sh_placeOfTwo
  repeat' first
    | ((with_reducible refine v_Tret ?_); (focus exact rfl))
    | ((with_reducible refine v_Tret ?_); exact ⟨rfl, by first | assumption | decide | omega | exact Or.inl rfl | exact Or.inr rfl⟩)
    | ((with_reducible refine v_Tck ?_ ?_); (focus first | assumption | exact ⟨by omega, by omega⟩ | decide | omega))
    | with_reducible refine v_Tif (fun _ => ?_) (fun _ => ?_)
    | ((with_reducible refine v_Tbi (n_Shat ..) ?_); rintro _ _ rfl)
    | ((with_reducible refine v_Tbi (n_placeOf ..) ?_); rintro _ _ rfl)
theorem n_verdictOfTwo (a : Nat) (b : Int32) (s : vS) : v_T (f_Sh_verdictOfTwo a b s) (fun _ t => t = s) := by
  unfold f_Sh_verdictOfTwo
  repeat' first
    | ((with_reducible refine v_Tret ?_); (focus exact rfl))
    | ((with_reducible refine v_Tret ?_); exact ⟨rfl, by first | assumption | decide | omega | exact Or.inl rfl | exact Or.inr rfl⟩)
    | ((with_reducible refine v_Tck ?_ ?_); (focus first | assumption | exact ⟨by omega, by omega⟩ | decide | omega))
    | with_reducible refine v_Tif (fun _ => ?_) (fun _ => ?_)
    | ((with_reducible refine v_Tbi (n_Shat ..) ?_); rintro _ _ rfl)
    | ((with_reducible refine v_Tbi (n_isSaying ..) ?_); rintro _ _ rfl)
theorem n_isTwo (a : Nat) (b : Int32) (s : vS) : v_T (f_Sh_isTwo a b s) (fun _ t => t = s) := by
  unfold f_Sh_isTwo
  repeat' first
    | ((with_reducible refine v_Tret ?_); (focus exact rfl))
    | ((with_reducible refine v_Tret ?_); exact ⟨rfl, by first | assumption | decide | omega | exact Or.inl rfl | exact Or.inr rfl⟩)
    | ((with_reducible refine v_Tck ?_ ?_); (focus first | assumption | exact ⟨by omega, by omega⟩ | decide | omega))
    | with_reducible refine v_Tif (fun _ => ?_) (fun _ => ?_)
    | ((with_reducible refine v_Tbi (n_placeOfTwo ..) ?_); rintro _ _ rfl)
    | ((with_reducible refine v_Tbi (n_verdictOfTwo ..) ?_); rintro _ _ rfl)
theorem n_firstWrong_L (p : Nat) (k1 : Int32 → vS → Option (Int32 × vS)) (k2 : vS → Option (Int32 × vS)) (hk1 : ∀ x s, v_T (k1 x s) (fun _ t => t = s)) (hk2 : ∀ s, v_T (k2 s) (fun _ t => t = s)) (hp : v_kd p = 6) : ∀ (m n : Nat) (v : Int32) (s : vS), v_KQ s → 31 ≤ v.toInt + m → v.toInt ≤ 31 → m < n → v_T (f_Ct_firstWrong_L2 p k1 k2 n v s) (fun _ t => t = s) := by
  intro m
  induction m with
  | zero =>
    intro n v s h h1 h3 h2
    obtain ⟨n, rfl⟩ : ∃ q, n = q + 1 := ⟨n - 1, by omega⟩
    show v_T (f_Ct_firstWrong_L2b p k1 k2 (f_Ct_firstWrong_L2 p k1 k2 n) v s) _
    unfold f_Ct_firstWrong_L2b
    refine v_Tbi (n_twos p s (h.2 p hp)) ?_
    rintro r _ ⟨rfl, hr⟩
    rw [if_pos (by omega)]
    exact hk2 _
  | succ m ih =>
    intro n v s h h1 h3 h2
    obtain ⟨n, rfl⟩ : ∃ q, n = q + 1 := ⟨n - 1, by omega⟩
    show v_T (f_Ct_firstWrong_L2b p k1 k2 (f_Ct_firstWrong_L2 p k1 k2 n) v s) _
    unfold f_Ct_firstWrong_L2b
    refine v_Tbi (n_twos p s (h.2 p hp)) ?_
    rintro r _ ⟨rfl, hr⟩
    refine v_Tif (fun _ => hk2 _) (fun c => ?_)
    have e := v_inc (x := v) (by omega)
    refine v_Tbi (n_isTwo _ _ _) ?_
    rintro _ _ rfl
    refine v_Tif (fun _ => hk1 _ _) (fun _ => ?_)
    refine v_Tbi (n_placeOfTwo _ _ _) ?_
    rintro _ _ rfl
    refine v_Tbi (n_verdictIn _ _ _ h) ?_
    rintro _ _ rfl
    refine v_Tbi (n_verdictOfTwo _ _ _) ?_
    rintro _ _ rfl
    exact v_Tif (fun _ => ih _ _ _ h (by omega) (by omega) (by omega)) (fun _ => hk1 _ _)
theorem n_firstWrong (b : Nat) (hb : v_kd b = 6) (s : vS) (h : v_KQ s) : v_T (f_Ct_firstWrong b s) (fun _ t => t = s) := by
  unfold f_Ct_firstWrong
  exact n_firstWrong_L b _ _ (fun x s => v_Tret rfl) (fun s => v_Tret rfl) hb 31 4096 0 s h (by decide) (by decide) (by decide)
theorem n_isAllTwos_L (p : Nat) (k : vS → Option (Int32 × vS)) (hk : ∀ s, v_T (k s) (fun _ t => t = s)) (hp : v_kd p = 6) : ∀ (m n : Nat) (v : Int32) (s : vS), v_KQ s → 31 ≤ v.toInt + m → v.toInt ≤ 31 → m < n → v_T (f_Sh_isAllTwos_L2 p k n v s) (fun _ t => t = s) := by
  intro m
  induction m with
  | zero =>
    intro n v s h h1 h3 h2
    obtain ⟨n, rfl⟩ : ∃ q, n = q + 1 := ⟨n - 1, by omega⟩
    show v_T (f_Sh_isAllTwos_L2b p k (f_Sh_isAllTwos_L2 p k n) v s) _
    unfold f_Sh_isAllTwos_L2b
    refine v_Tbi (n_twos p s (h.2 p hp)) ?_
    rintro r _ ⟨rfl, hr⟩
    rw [if_pos (by omega)]
    exact hk _
  | succ m ih =>
    intro n v s h h1 h3 h2
    obtain ⟨n, rfl⟩ : ∃ q, n = q + 1 := ⟨n - 1, by omega⟩
    show v_T (f_Sh_isAllTwos_L2b p k (f_Sh_isAllTwos_L2 p k n) v s) _
    unfold f_Sh_isAllTwos_L2b
    refine v_Tbi (n_twos p s (h.2 p hp)) ?_
    rintro r _ ⟨rfl, hr⟩
    refine v_Tif (fun _ => hk _) (fun c => ?_)
    have e := v_inc (x := v) (by omega)
    refine v_Tbi (n_isTwo _ _ _) ?_
    rintro _ _ rfl
    exact v_Tif (fun _ => v_Tret rfl) (fun _ => ih _ _ _ h (by omega) (by omega) (by omega))
theorem n_isAllTwos (b : Nat) (hb : v_kd b = 6) (s : vS) (h : v_KQ s) : v_T (f_Sh_isAllTwos b s) (fun _ t => t = s) := by
  unfold f_Sh_isAllTwos
  exact n_isAllTwos_L b _ (fun s => v_Tret rfl) hb 31 4096 0 s h (by decide) (by decide) (by decide)
theorem n_comesBack_L (p : Int32) (k : vS → Option (Int32 × vS)) (hk : ∀ s, v_T (k s) (fun _ t => t = s)) : ∀ (m n : Nat) (u v : Int32) (s : vS), (s.1 8 1).toInt ≤ 10 → (s.1 8 1).toInt ≤ v.toInt + m → m < n → v_T (f_Ct_comesBack_L4 p k n u v s) (fun _ t => t = s) := by
  intro m
  induction m with
  | zero =>
    intro n u v s h0 h1 h2
    obtain ⟨n, rfl⟩ : ∃ q, n = q + 1 := ⟨n - 1, by omega⟩
    show v_T (f_Ct_comesBack_L4b p k (f_Ct_comesBack_L4 p k n) u v s) _
    unfold f_Ct_comesBack_L4b
    rw [if_pos (by omega)]
    exact hk s
  | succ m ih =>
    intro n u v s h0 h1 h2
    obtain ⟨n, rfl⟩ : ∃ q, n = q + 1 := ⟨n - 1, by omega⟩
    show v_T (f_Ct_comesBack_L4b p k (f_Ct_comesBack_L4 p k n) u v s) _
    unfold f_Ct_comesBack_L4b
    refine v_Tif (fun _ => hk s) (fun c => ?_)
    have e := v_inc (x := v) (by omega)
    refine v_Tbi (n_isThere _ _) ?_
    rintro _ _ ⟨rfl, _⟩
    refine v_Tif (fun _ => ?_) (fun _ => ?_)
    · refine v_Tif (fun _ => ?_) (fun _ => ih _ _ _ _ h0 (by omega) (by omega))
      refine v_Tbi (n_isThere _ _) ?_
      rintro _ _ ⟨rfl, h⟩
      exact v_Tck h (v_Tret rfl)
    · refine v_Tbi (n_at _ _) ?_
      rintro r _ ⟨rfl, h4⟩
      refine v_Tck h4.1 ?_
      refine v_Tif (fun _ => ?_) (fun _ => ih _ _ _ _ h0 (by omega) (by omega))
      refine v_Tbi (n_isThere _ _) ?_
      rintro _ _ ⟨rfl, h⟩
      exact v_Tck h (v_Tret rfl)
theorem n_comesBack (b : Int32) (s : vS) (h : v_KQ s) : v_T (f_Ct_comesBack b s) (fun _ t => t = s) := by
  unfold f_Ct_comesBack
  exact n_comesBack_L b _ (fun s => v_Tret rfl) 10 4096 b 0 s h.1.2 (by have := h.1.2; show _ ≤ (0 : Int) + 10; omega) (by decide)
theorem n_bit (b : Int32) (s : vS) : v_T (f_Tx_bit b s) (fun _ t => t = s) := by
  unfold f_Tx_bit
  repeat' first
    | ((with_reducible refine v_Tret ?_); (focus exact rfl))
    | ((with_reducible refine v_Tret ?_); exact ⟨rfl, by first | assumption | decide | omega | exact Or.inl rfl | exact Or.inr rfl⟩)
    | ((with_reducible refine v_Tck ?_ ?_); (focus first | assumption | exact ⟨by omega, by omega⟩ | decide | omega))
    | with_reducible refine v_Tif (fun _ => ?_) (fun _ => ?_)
theorem n_alone (b c : Int32) (s : vS) : v_T (f_Tx_alone b c s) (fun _ t => t = s) := by
  unfold f_Tx_alone
  repeat' first
    | ((with_reducible refine v_Tret ?_); (focus exact rfl))
    | ((with_reducible refine v_Tret ?_); exact ⟨rfl, by first | assumption | decide | omega | exact Or.inl rfl | exact Or.inr rfl⟩)
    | ((with_reducible refine v_Tck ?_ ?_); (focus first | assumption | exact ⟨by omega, by omega⟩ | decide | omega))
    | with_reducible refine v_Tif (fun _ => ?_) (fun _ => ?_)
    | ((with_reducible refine v_Tbi (n_bit ..) ?_); rintro _ _ rfl)
theorem v_ne0 {d : Int32} (h : ¬ d.toInt = 0) : ¬ d = 0 := fun q => h (by rw [q]; rfl)
theorem n_joined (b c d : Int32) (s : vS) : v_T (f_Tx_joined b c d s) (fun _ t => t = s) := by
  unfold f_Tx_joined
  repeat' first
    | ((with_reducible refine v_Tret ?_); (focus exact rfl))
    | ((with_reducible refine v_Tret ?_); exact ⟨rfl, by first | assumption | decide | omega | exact Or.inl rfl | exact Or.inr rfl⟩)
    | ((with_reducible refine v_Tck ?_ ?_); (focus exact (v_ne0 (by assumption))))
    | ((with_reducible refine v_Tck ?_ ?_); (focus first | assumption | exact ⟨by omega, by omega⟩ | decide | omega))
    | with_reducible refine v_Tif (fun _ => ?_) (fun _ => ?_)
    | ((with_reducible refine v_Tbi (n_bit ..) ?_); rintro _ _ rfl)
theorem n_named (b : Int32) (s : vS) : v_T (f_Tx_named b s) (fun _ t => t = s) := by
  unfold f_Tx_named
  repeat' first
    | ((with_reducible refine v_Tret ?_); (focus exact rfl))
    | ((with_reducible refine v_Tret ?_); exact ⟨rfl, by first | assumption | decide | omega | exact Or.inl rfl | exact Or.inr rfl⟩)
    | ((with_reducible refine v_Tck ?_ ?_); (focus first | assumption | exact ⟨by omega, by omega⟩ | decide | omega))
    | with_reducible refine v_Tif (fun _ => ?_) (fun _ => ?_)
theorem n_valueAt (a : Nat) (b : Int32) (s : vS) : v_T (f_Tx_valueAt a b s) (fun _ t => t = s) := by
  unfold f_Tx_valueAt
  repeat' first
    | ((with_reducible refine v_Tret ?_); (focus exact rfl))
    | ((with_reducible refine v_Tret ?_); exact ⟨rfl, by first | assumption | decide | omega | exact Or.inl rfl | exact Or.inr rfl⟩)
    | ((with_reducible refine v_Tck ?_ ?_); (focus first | assumption | exact ⟨by omega, by omega⟩ | decide | omega))
    | with_reducible refine v_Tif (fun _ => ?_) (fun _ => ?_)
theorem n_to (b : Int32) (s : vS) : v_T (f_Ws_to b s) (fun _ t => t = s) := by
  unfold f_Ws_to
  repeat' first
    | ((with_reducible refine v_Tret ?_); (focus exact rfl))
    | ((with_reducible refine v_Tret ?_); exact ⟨rfl, by first | assumption | decide | omega | exact Or.inl rfl | exact Or.inr rfl⟩)
    | ((with_reducible refine v_Tck ?_ ?_); (focus first | assumption | exact ⟨by omega, by omega⟩ | decide | omega))
    | with_reducible refine v_Tif (fun _ => ?_) (fun _ => ?_)
theorem n_from (b : Int32) (s : vS) : v_T (f_Ws_from b s) (fun _ t => t = s) := by
  unfold f_Ws_from
  repeat' first
    | ((with_reducible refine v_Tret ?_); (focus exact rfl))
    | ((with_reducible refine v_Tret ?_); exact ⟨rfl, by first | assumption | decide | omega | exact Or.inl rfl | exact Or.inr rfl⟩)
    | ((with_reducible refine v_Tck ?_ ?_); (focus first | assumption | exact ⟨by omega, by omega⟩ | decide | omega))
    | with_reducible refine v_Tif (fun _ => ?_) (fun _ => ?_)
theorem n_meaning (b c : Int32) (s : vS) : v_T (f_Ws_meaning b c s) (fun _ t => t = s) := by
  unfold f_Ws_meaning
  repeat' first
    | ((with_reducible refine v_Tret ?_); (focus exact rfl))
    | ((with_reducible refine v_Tret ?_); exact ⟨rfl, by first | assumption | decide | omega | exact Or.inl rfl | exact Or.inr rfl⟩)
    | ((with_reducible refine v_Tck ?_ ?_); (focus first | assumption | exact ⟨by omega, by omega⟩ | decide | omega))
    | with_reducible refine v_Tif (fun _ => ?_) (fun _ => ?_)
    | ((with_reducible refine v_Tbi (n_to ..) ?_); rintro _ _ rfl)
    | ((with_reducible refine v_Tbi (n_from ..) ?_); rintro _ _ rfl)
theorem n_compares (b c d : Int32) (s : vS) : v_T (f_Wd_compares b c d s) (fun _ t => t = s) := by
  unfold f_Wd_compares
  repeat' first
    | ((with_reducible refine v_Tret ?_); (focus exact rfl))
    | ((with_reducible refine v_Tret ?_); exact ⟨rfl, by first | assumption | decide | omega | exact Or.inl rfl | exact Or.inr rfl⟩)
    | ((with_reducible refine v_Tck ?_ ?_); (focus first | assumption | exact ⟨by omega, by omega⟩ | decide | omega))
    | with_reducible refine v_Tif (fun _ => ?_) (fun _ => ?_)
theorem n_metBy (b : Int32) (s : vS) : v_T (f_Wd_metBy b s) (fun r t => t = s ∧ (v_kd r = 0 ∧ ((0 ≤ b.toInt ∧ b.toInt < 45 → 87 ≤ r ∧ r ≤ 131)))) := by
  unfold f_Wd_metBy
  refine v_Tif (fun _ => v_Tret ⟨rfl, rfl, fun q => by omega⟩) (fun c1 => ?_)
  refine v_Tif (fun _ => v_Tret ⟨rfl, rfl, fun q => by omega⟩) (fun c2 => ?_)
  have hv : v_in b 45 := ⟨by omega, by omega⟩
  have h := v_ii hv.1 hv.2
  exact v_Tck hv (v_Tck hv (v_Tret ⟨rfl, (v_met h).2, fun _ => by omega⟩))
theorem n_number (s : vS) : v_T (f_Wd_number s) (fun _ t => t = s) := ⟨_, _, rfl, rfl⟩
theorem n_wouldHold (b : Int32) (c : Option Nat) (d : Int32) (s : vS) (h : ∀ b, c = some b → v_kd b = 4) : v_T (f_Wd_wouldHold b c d s) (fun _ t => t = s) := by
  unfold f_Wd_wouldHold
  refine v_Tbi (n_has _ _ _) ?_
  rintro _ _ rfl
  refine v_Tif (fun _ => v_Tret rfl) (fun _ => ?_)
  refine v_Ton (fun _ => v_Tret rfl) (fun b hb => v_Tck (h b hb) ?_)
  repeat' first
    | ((with_reducible refine v_Tret ?_); (focus exact rfl))
    | ((with_reducible refine v_Tret ?_); exact ⟨rfl, by first | assumption | decide | omega | exact Or.inl rfl | exact Or.inr rfl⟩)
    | ((with_reducible refine v_Tck ?_ ?_); (focus first | assumption | exact ⟨by omega, by omega⟩ | decide | omega))
    | with_reducible refine v_Tif (fun _ => ?_) (fun _ => ?_)
    | ((with_reducible refine v_Tbi (n_goesAhead ..) ?_); rintro _ _ ⟨rfl, _⟩)
theorem n_Clear (a : Nat) (s : vS) (ha : ∀ j, v_sc a j) (h0 : v_KQ s) : v_T (f_Cs_clear a s) (fun _ t => v_fr s t) := by
  unfold f_Cs_clear
  exact v_Tret (v_fr_w2 (v_fr_w2 v_fr_rf (ha _)) (ha _))
theorem n_Add (a : Nat) (b : Int32) (s : vS) (ha : ∀ j, v_sc a j) (h0 : v_KQ s) : v_T (f_Cs_add a b s) (fun _ t => v_fr s t) := by
  unfold f_Cs_add
  repeat' first
    | ((with_reducible refine v_Tret ?_); (focus exact v_fr_rf))
    | ((with_reducible refine v_Tret ?_); (focus exact (v_fr_w2 v_fr_rf (ha _))))
    | with_reducible refine v_Tif (fun _ => ?_) (fun _ => ?_)
    | with_reducible refine v_Tlet ?_
theorem n_TakeBoth (a b c : Nat) (s : vS) (ha : ∀ j, v_sc a j) (h0 : v_KQ s) : v_T (f_Cs_takeBoth a b c s) (fun _ t => v_fr s t) := by
  unfold f_Cs_takeBoth
  exact v_Tret (v_fr_w2 (v_fr_w2 v_fr_rf (ha _)) (ha _))
