/-! the class's reader against the grammar -/
def c_pd (a j : Nat) : Prop := (a = 3 ∧ j = 3) ∨ (a = 4 ∧ j = 2) ∨ a = 5
theorem c_pd_sc : ∀ a j, c_pd a j → v_sc a j := fun a j h => by
  unfold c_pd at h
  unfold v_sc
  rcases h with h | h | h
  · exact Or.inr (Or.inl ⟨h.1, by omega⟩)
  · exact Or.inr (Or.inr (Or.inl h))
  · exact Or.inr (Or.inr (Or.inr (Or.inl ⟨by omega, by omega⟩)))
def c_let (s : vS) (j : Nat) : Int32 := if (s.1 3 2).toInt ≤ j ∨ 60 ≤ j then -1 else s.1 7 j
def c_g (g : Nat → Int32) (s : vS) : Prop := ∀ j, g j = g_ab (c_let s j)
theorem c_g_ltr {g : Nat → Int32} {s : vS} (h : c_g g s) : g_ltr g := fun j hj => by
  rw [h j]
  unfold c_let
  rw [if_pos (Or.inr hj)]
  decide
theorem c_g_F {g : Nat → Int32} {s t : vS} (h : c_g g s) (hf : v_F c_pd s t) : c_g g t := fun j => by
  rw [h j]
  unfold c_let
  rw [(hf 3 2 (by unfold c_pd; omega)).1, (hf 7 j (by unfold c_pd; omega)).1]
def c_R (g : Nat → Int32) (s : vS) (pre : List Int32) (st : gS) : Prop := c_g g s ∧ (s.1 3 3).toInt = st.1 ∧ st.1 ≤ 60 ∧ (s.1 4 2).toInt = (pre.length : Int) + st.2.length ∧ g_row (fun j => s.1 5 j) 0 (pre ++ st.2.map g_en) ∧ pre.length + st.2.length ≤ st.1
def c_Rf (g : Nat → Int32) (s : vS) (i : Nat) : Prop := c_g g s ∧ (s.1 3 3).toInt = i ∧ i ≤ 60
theorem c_R_f {g : Nat → Int32} {s : vS} {pre : List Int32} {st : gS} (h : c_R g s pre st) : c_Rf g s st.1 := ⟨h.1, h.2.1, h.2.2.1⟩
def c_P (g : Nat → Int32) (pre : List Int32) (s : vS) (r : gR) (x : Int32) (t : vS) : Prop := v_F c_pd s t ∧ ((r.1 = true ∧ x = 1 ∧ c_R g t pre r.2) ∨ (r.1 = false ∧ c_Rf g t r.2.1 ∧ (x = 0 ∨ (x = 1 ∧ g_dig (g r.2.1) = true))))
def c_ok (g : Nat → Int32) (P : gS → gR) (F : vS → Option (Int32 × vS)) : Prop := ∀ (s : vS) (pre : List Int32) (i : Nat) (l : List (Int32 × Int32)), c_R g s pre (i, l) → v_T (F s) (c_P g pre s (P (i, l)))
theorem c_look {g : Nat → Int32} {s : vS} {i : Nat} (h : c_Rf g s i) : f_Rd_letterHere s = some (c_let s i, s) := by
  obtain ⟨h1, h2, h3⟩ := h
  unfold f_Rd_letterHere c_let
  rw [if_neg (by omega)]
  by_cases c1 : (s.1 3 2).toInt ≤ (s.1 3 3).toInt
  · rw [if_pos c1, if_pos (by omega)]
  · rw [if_neg c1]
    by_cases c2 : 60 ≤ (s.1 3 3).toInt
    · rw [if_pos c2, if_pos (by omega)]
    · rw [if_neg c2, if_pos ⟨by omega, by omega⟩, if_neg (by omega)]
      have e : (s.1 3 3).toNatClampNeg = i := by rw [v_nc]; omega
      rw [e]
theorem c_adv {g : Nat → Int32} {s : vS} {pre : List Int32} {i : Nat} {l : List (Int32 × Int32)} (h : c_R g s pre (i, l)) (hi : i < 60) : c_R g (v_w1 s 3 3 (s.1 3 3 + 1)) pre (i + 1, l) ∧ v_F c_pd s (v_w1 s 3 3 (s.1 3 3 + 1)) := by
  obtain ⟨h1, h2, h3, h4, h5, h6⟩ := h
  have hf : v_F c_pd s (v_w1 s 3 3 (s.1 3 3 + 1)) := v_F_w1 v_F_rf (Or.inl ⟨rfl, rfl⟩)
  dsimp only at h2 h3 h4 h5 h6
  refine ⟨⟨c_g_F h1 hf, ?_, by dsimp only; omega, ?_, ?_, by dsimp only; omega⟩, hf⟩
  · rw [v_w1_1, if_pos ⟨rfl, rfl⟩, v_inc (by omega)]
    try dsimp only
    omega
  · rw [v_w1_1, if_neg (by omega)]
    exact h4
  · refine g_row_eq h5 (fun j _ _ => ?_)
    try dsimp only
    rw [v_w1_1, if_neg (by omega)]
theorem c_add {g : Nat → Int32} {s : vS} {pre : List Int32} {i : Nat} {l : List (Int32 × Int32)} (h : c_R g s pre (i, l)) {q : Int32 × Int32} (hi : pre.length + l.length + 1 ≤ i) : v_T (f_Tx_add 4 (g_en q) s) (fun _ t => v_F c_pd s t ∧ c_R g t pre (i, l ++ [q])) := by
  obtain ⟨h1, h2, h3, h4, h5, h6⟩ := h
  dsimp only at h2 h3 h4 h5 h6
  unfold f_Tx_add
  rw [if_neg (by omega), if_neg (by omega), if_pos ⟨by omega, by omega⟩]
  have e : (s.1 4 2).toNatClampNeg = pre.length + l.length := by rw [v_nc]; omega
  refine v_Tlet (v_Tlet (v_Tret ?_))
  rw [e]
  have hf : v_F c_pd s (v_w1 (v_w1 s 5 (pre.length + l.length) (g_en q)) 4 2 ((v_w1 s 5 (pre.length + l.length) (g_en q)).1 4 2 + 1)) := v_F_w1 (v_F_w1 v_F_rf (Or.inr (Or.inr rfl))) (Or.inr (Or.inl ⟨rfl, rfl⟩))
  have e4 : (v_w1 s 5 (pre.length + l.length) (g_en q)).1 4 2 = s.1 4 2 := by rw [v_w1_1, if_neg (by omega)]
  refine ⟨hf, c_g_F h1 hf, ?_, h3, ?_, ?_, by dsimp only; rw [List.length_append]; show pre.length + (l.length + 1) ≤ i; omega⟩
  · rw [v_w1_1, if_neg (by omega), v_w1_1, if_neg (by omega)]
    exact h2
  · rw [v_w1_1, if_pos ⟨rfl, rfl⟩, e4, v_inc (by omega), List.length_append]
    show _ = (pre.length : Int) + ((l.length + 1 : Nat) : Int)
    omega
  · try dsimp only
    rw [List.map_append, ← List.append_assoc]
    refine g_row_add h5 ?_ (fun j hj _ => ?_)
    · try dsimp only
      rw [List.length_append, List.length_map, Nat.zero_add, v_w1_1, if_neg (by omega), v_w1_1, if_pos ⟨rfl, rfl⟩]
    · try dsimp only
      rw [List.length_append, List.length_map] at hj
      rw [v_w1_1, if_neg (by omega), v_w1_1, if_neg (by omega)]
theorem c_addf {g : Nat → Int32} {s : vS} {i : Nat} (h : c_Rf g s i) {b : Int32} : v_T (f_Tx_add 4 b s) (fun _ t => v_F c_pd s t ∧ c_Rf g t i) := by
  obtain ⟨h1, h2, h3⟩ := h
  unfold f_Tx_add
  refine v_Tif (fun _ => v_Tret ⟨v_F_rf, h1, h2, h3⟩) (fun _ => v_Tif (fun _ => v_Tret ⟨v_F_rf, h1, h2, h3⟩) (fun _ => v_Tck ⟨by omega, by omega⟩ (v_Tlet (v_Tlet (v_Tret ?_)))))
  have hf : v_F c_pd s (v_w1 (v_w1 s 5 (s.1 4 2).toNatClampNeg b) 4 2 ((v_w1 s 5 (s.1 4 2).toNatClampNeg b).1 4 2 + 1)) := v_F_w1 (v_F_w1 v_F_rf (Or.inr (Or.inr rfl))) (Or.inr (Or.inl ⟨rfl, rfl⟩))
  refine ⟨hf, c_g_F h1 hf, ?_, h3⟩
  rw [v_w1_1, if_neg (by omega), v_w1_1, if_neg (by omega)]
  exact h2
theorem c_step {g : Nat → Int32} {P : gS → gR} {F : vS → Option (Int32 × vS)} (hF : c_ok g P F) (hP : g_ok P) {s0 s : vS} {pre : List Int32} {i : Nat} {l : List (Int32 × Int32)} (h : c_R g s pre (i, l)) (h0 : v_F c_pd s0 s) (hi : i < 60) {w : Int32} {q : Int32 × Int32} (hw : w = g_en q) {K : Int32 → vS → Option (Int32 × vS)} {Q : Int32 → vS → Prop} (hs : ∀ t, (P (i + 1, l)).1 = true → i < (P (i + 1, l)).2.1 → c_R g t pre ((P (i + 1, l)).2.1, (P (i + 1, l)).2.2 ++ [q]) → v_F c_pd s0 t → v_T (K 1 t) Q) (hf : ∀ u t, (P (i + 1, l)).1 = false → c_Rf g t (P (i + 1, l)).2.1 → (u = 0 ∨ (u = 1 ∧ g_dig (g (P (i + 1, l)).2.1) = true)) → v_F c_pd s0 t → v_T (K u t) Q) : v_T (v_bi (F (v_w1 s 3 3 (s.1 3 3 + 1))) (fun r s => v_bi (f_Tx_add 4 w s) (fun _ s => K r s))) Q := by
  obtain ⟨h1, h2⟩ := c_adv h hi
  refine v_Tbi (hF _ pre (i + 1) l h1) ?_
  rintro r t ⟨h3, h4⟩
  have h5 := v_F_tr h0 (v_F_tr h2 h3)
  rcases h4 with ⟨a1, rfl, a3⟩ | ⟨a1, a2, a3⟩
  · obtain ⟨b1, b2, b3⟩ := hP (i + 1) l (by omega)
    obtain ⟨b4, d, b5, b6, -⟩ := b3 a1
    have h6 := h.2.2.2.2.2
    dsimp only at h6
    rw [hw]
    refine v_Tbi (c_add (i := (P (i + 1, l)).2.1) (l := (P (i + 1, l)).2.2) a3 (by rw [b5, List.length_append]; omega)) ?_
    rintro _ u ⟨c1, c2⟩
    exact hs u a1 (by omega) c2 (v_F_tr h5 c1)
  · refine v_Tbi (c_addf a2) ?_
    rintro _ u ⟨c1, c2⟩
    exact hf r u a1 c2 a3 (v_F_tr h5 c1)
theorem c_digq {g : Nat → Int32} {i : Nat} {q : Int32 → Bool} (h : g_dig (g i) = true) (hq : q = g_q1 ∨ q = g_q2 ∨ q = g_q3 ∨ q = g_q4 ∨ q = g_q5) : ¬ q (g i) = true := by
  have hd := g_dig_sp h
  intro h2
  rcases hq with rfl | rfl | rfl | rfl | rfl
  all_goals
    have h3 := of_decide_eq_true h2
    omega
theorem c_sign {g : Nat → Int32} {s : vS} {i : Nat} (h : c_g g s) {c : Int} (hc : 0 ≤ c ∧ c < 128) : (c_let s i).toInt = c ↔ (g i).toInt = c := by
  rw [h i]
  exact g_ab_eq hc
theorem c_raw {g : Nat → Int32} {s : vS} {i : Nat} (h : c_g g s) (hb : 0 ≤ (g i).toInt) : c_let s i = g i := by
  have h1 := h i
  rw [h1] at hb ⊢
  exact (g_ab_id hb).symm
def c_k : Int32 → vS → Option (Int32 × vS) := fun w s => if w = 0 ∨ w = 1 then some (w, s) else none
theorem c_k_T {s : vS} {g : Nat → Int32} {pre : List Int32} {i : Nat} {l : List (Int32 × Int32)} {s0 : vS} (h : c_R g s pre (i, l)) (h0 : v_F c_pd s0 s) : v_T (c_k 1 s) (c_P g pre s0 (true, (i, l))) := v_Tck (Or.inr rfl) (v_Tret ⟨h0, Or.inl ⟨rfl, rfl, h⟩⟩)
theorem c_k_F {s : vS} {g : Nat → Int32} {pre : List Int32} {i : Nat} {r : gR} {s0 : vS} {u : Int32} (hr : r.1 = false) (hri : r.2.1 = i) (h : c_Rf g s i) (h0 : v_F c_pd s0 s) (hu : u = 0 ∨ (u = 1 ∧ g_dig (g i) = true)) : v_T (c_k u s) (c_P g pre s0 r) := v_Tck (by rcases hu with hu | hu; exact Or.inl hu; exact Or.inr hu.1) (v_Tret ⟨h0, Or.inr ⟨hr, by rw [hri]; exact h, by rw [hri]; exact hu⟩⟩)
theorem c_comes_t {g : Nat → Int32} {s : vS} {i : Nat} {b : Int32} (h : c_Rf g s i) (hb : 0 ≤ b.toInt ∧ b.toInt < 128) (hc : (g i).toInt = b.toInt) : f_Rd_comes b s = some (1, v_w1 s 3 3 (s.1 3 3 + 1)) := by
  unfold f_Rd_comes
  rw [c_look h, v_bi_some, if_pos ((c_sign h.1 hb).mpr hc)]
  rfl
theorem c_comes_f {g : Nat → Int32} {s : vS} {i : Nat} {b : Int32} (h : c_Rf g s i) (hb : 0 ≤ b.toInt ∧ b.toInt < 128) (hc : ¬ (g i).toInt = b.toInt) : f_Rd_comes b s = some (0, s) := by
  unfold f_Rd_comes
  rw [c_look h, v_bi_some, if_neg (fun z => hc ((c_sign h.1 hb).mp z))]
theorem c_prT {g : Nat → Int32} {rec : Int32 → vS → Option (Int32 × vS)} {b : Int32} {pre : List Int32} {s0 s : vS} {i n : Nat} {u v : Int32} {r : gR} (hr : r.1 = false) (hri : r.2.1 = i) (h : c_Rf g s i) (h0 : v_F c_pd s0 s) (hu : u = 0 ∨ (u = 1 ∧ g_dig (g i) = true)) (hn : 0 < n) : v_T (f_Rd_product_L8 rec b c_k n u v s) (c_P g pre s0 r) := by
  obtain ⟨n, rfl⟩ : ∃ q, n = q + 1 := ⟨n - 1, by omega⟩
  show v_T (f_Rd_product_L8b rec b c_k (f_Rd_product_L8 rec b c_k n) u v s) _
  unfold f_Rd_product_L8b
  refine v_Tif (fun _ => c_k_F hr hri h h0 hu) (fun _ => v_Tif (fun _ => c_k_F hr hri h h0 hu) (fun hz => ?_))
  rcases hu with rfl | ⟨rfl, hd⟩
  · exact absurd rfl hz
  · have hq : ¬ g_q1 (g i) = true := c_digq hd (Or.inl rfl)
    rw [c_look h, v_bi_some]
    rw [if_neg (fun z => hq (by unfold g_q1; rw [decide_eq_true_eq]; have := (c_sign h.1 (i := i) (c := 42) (by omega)).mp z; omega))]
    rw [if_neg (fun z => hq (by unfold g_q1; rw [decide_eq_true_eq]; have := (c_sign h.1 (i := i) (c := 47) (by omega)).mp z; omega))]
    rw [if_neg (fun z => hq (by unfold g_q1; rw [decide_eq_true_eq]; have := (c_sign h.1 (i := i) (c := 37) (by omega)).mp z; omega))]
    exact v_Tret ⟨h0, Or.inr ⟨hr, by rw [hri]; exact h, Or.inr ⟨rfl, by rw [hri]; exact hd⟩⟩⟩
theorem c_prL {g : Nat → Int32} {P : gS → gR} {rec : Int32 → vS → Option (Int32 × vS)} {b : Int32} (hF : c_ok g P (rec b)) (hP : g_ok P) (pre : List Int32) (s0 : vS) : ∀ (m n : Nat) (v : Int32) (s : vS) (i : Nat) (l : List (Int32 × Int32)), c_R g s pre (i, l) → v_F c_pd s0 s → 60 ≤ i + m → v.toInt ≤ i → m + 1 < n → v_T (f_Rd_product_L8 rec b c_k n 1 v s) (c_P g pre s0 (g_ch g P g_q1 m (i, l))) := by
  intro m
  induction m with
  | zero =>
    intro n v s i l h h0 hm hv hn
    obtain ⟨n, rfl⟩ : ∃ q, n = q + 1 := ⟨n - 1, by omega⟩
    have hg := c_g_ltr h.1 i (by omega)
    have hq : ¬ g_q1 (g i) = true := by rw [hg]; decide
    rw [g_ch_no hq]
    show v_T (f_Rd_product_L8b rec b c_k (f_Rd_product_L8 rec b c_k n) 1 v s) _
    unfold f_Rd_product_L8b
    refine v_Tif (fun _ => c_k_T h h0) (fun _ => ?_)
    rw [if_neg (by decide), c_look (i := i) (c_R_f h), v_bi_some]
    rw [if_neg (fun z => hq (by unfold g_q1; rw [decide_eq_true_eq]; have := (c_sign h.1 (i := i) (c := 42) (by omega)).mp z; omega))]
    rw [if_neg (fun z => hq (by unfold g_q1; rw [decide_eq_true_eq]; have := (c_sign h.1 (i := i) (c := 47) (by omega)).mp z; omega))]
    rw [if_neg (fun z => hq (by unfold g_q1; rw [decide_eq_true_eq]; have := (c_sign h.1 (i := i) (c := 37) (by omega)).mp z; omega))]
    exact v_Tret ⟨h0, Or.inl ⟨rfl, rfl, h⟩⟩
  | succ m ih =>
    intro n v s i l h h0 hm hv hn
    obtain ⟨n, rfl⟩ : ∃ q, n = q + 1 := ⟨n - 1, by omega⟩
    show v_T (f_Rd_product_L8b rec b c_k (f_Rd_product_L8 rec b c_k n) 1 v s) _
    unfold f_Rd_product_L8b
    by_cases hq : g_q1 (g i) = true
    · have hc := of_decide_eq_true hq
      have hb : g_bin (g i) := g_q1b hq
      have hi : i < 60 := g_lt (c_g_ltr h.1) (by omega)
      rw [if_neg (by omega), if_neg (by decide), c_look (i := i) (c_R_f h), v_bi_some]
      rcases hc with e | e | e
      · rw [if_pos ((c_sign h.1 (by omega)).mpr e)]
        refine v_Tlet (c_step hF hP h h0 hi (q := (g i, 0)) (by rw [g_en_bin hb, c_raw h.1 (by omega)]) (fun t a1 a2 a3 a4 => ?_) (fun u t a1 a2 a3 a4 => ?_))
        · rw [g_ch_t hq a1]
          exact ih _ _ t _ _ a3 a4 (by omega) (by rw [v_inc (by omega)]; omega) (by omega)
        · rw [g_ch_f hq a1]
          exact c_prT a1 rfl a2 a4 a3 (by omega)
      · rw [if_neg (fun z => by have := (c_sign h.1 (i := i) (c := 42) (by omega)).mp z; omega), if_pos ((c_sign h.1 (by omega)).mpr e)]
        refine v_Tlet (c_step hF hP h h0 hi (q := (g i, 0)) (by rw [g_en_bin hb, c_raw h.1 (by omega)]) (fun t a1 a2 a3 a4 => ?_) (fun u t a1 a2 a3 a4 => ?_))
        · rw [g_ch_t hq a1]
          exact ih _ _ t _ _ a3 a4 (by omega) (by rw [v_inc (by omega)]; omega) (by omega)
        · rw [g_ch_f hq a1]
          exact c_prT a1 rfl a2 a4 a3 (by omega)
      · rw [if_neg (fun z => by have := (c_sign h.1 (i := i) (c := 42) (by omega)).mp z; omega), if_neg (fun z => by have := (c_sign h.1 (i := i) (c := 47) (by omega)).mp z; omega), if_pos ((c_sign h.1 (by omega)).mpr e)]
        refine v_Tlet (c_step hF hP h h0 hi (q := (g i, 0)) (by rw [g_en_bin hb, c_raw h.1 (by omega)]) (fun t a1 a2 a3 a4 => ?_) (fun u t a1 a2 a3 a4 => ?_))
        · rw [g_ch_t hq a1]
          exact ih _ _ t _ _ a3 a4 (by omega) (by rw [v_inc (by omega)]; omega) (by omega)
        · rw [g_ch_f hq a1]
          exact c_prT a1 rfl a2 a4 a3 (by omega)
    · rw [g_ch_no hq]
      refine v_Tif (fun _ => c_k_T h h0) (fun _ => ?_)
      rw [if_neg (by decide), c_look (i := i) (c_R_f h), v_bi_some]
      rw [if_neg (fun z => hq (by unfold g_q1; rw [decide_eq_true_eq]; have := (c_sign h.1 (i := i) (c := 42) (by omega)).mp z; omega))]
      rw [if_neg (fun z => hq (by unfold g_q1; rw [decide_eq_true_eq]; have := (c_sign h.1 (i := i) (c := 47) (by omega)).mp z; omega))]
      rw [if_neg (fun z => hq (by unfold g_q1; rw [decide_eq_true_eq]; have := (c_sign h.1 (i := i) (c := 37) (by omega)).mp z; omega))]
      exact v_Tret ⟨h0, Or.inl ⟨rfl, rfl, h⟩⟩
theorem c_pr {g : Nat → Int32} {P : gS → gR} {rec : Int32 → vS → Option (Int32 × vS)} {b : Int32} (hF : c_ok g P (rec b)) (hP : g_ok P) : c_ok g (fun st => g_th (P st) (g_ch g P g_q1 60)) (f_Rd_product rec b) := by
  intro s pre i l h
  unfold f_Rd_product
  refine v_Tbi (hF s pre i l h) ?_
  rintro r t ⟨h1, h2⟩
  show v_T (f_Rd_product_L8 rec b c_k 4096 r 0 t) (c_P g pre s (g_th (P (i, l)) (g_ch g P g_q1 60)))
  rcases h2 with ⟨a1, rfl, a3⟩ | ⟨a1, a2, a3⟩
  · rw [show g_th (P (i, l)) (g_ch g P g_q1 60) = g_ch g P g_q1 60 ((P (i, l)).2.1, (P (i, l)).2.2) from if_pos a1]
    exact c_prL hF hP pre s 60 4096 0 t _ _ a3 h1 (by omega) (by show (0 : Int) ≤ _; omega) (by decide)
  · rw [show g_th (P (i, l)) (g_ch g P g_q1 60) = P (i, l) from if_neg (by rw [a1]; decide)]
    exact c_prT a1 rfl a2 h1 a3 (by decide)
theorem c_suT {g : Nat → Int32} {rec : Int32 → vS → Option (Int32 × vS)} {b : Int32} {pre : List Int32} {s0 s : vS} {i n : Nat} {u v : Int32} {r : gR} (hr : r.1 = false) (hri : r.2.1 = i) (h : c_Rf g s i) (h0 : v_F c_pd s0 s) (hu : u = 0 ∨ (u = 1 ∧ g_dig (g i) = true)) (hn : 0 < n) : v_T (f_Rd_sum_L8 rec b c_k n u v s) (c_P g pre s0 r) := by
  obtain ⟨n, rfl⟩ : ∃ q, n = q + 1 := ⟨n - 1, by omega⟩
  show v_T (f_Rd_sum_L8b rec b c_k (f_Rd_sum_L8 rec b c_k n) u v s) _
  unfold f_Rd_sum_L8b
  refine v_Tif (fun _ => c_k_F hr hri h h0 hu) (fun _ => v_Tif (fun _ => c_k_F hr hri h h0 hu) (fun hz => ?_))
  rcases hu with rfl | ⟨rfl, hd⟩
  · exact absurd rfl hz
  · have hq : ¬ g_q2 (g i) = true := c_digq hd (Or.inr (Or.inl rfl))
    rw [c_look h, v_bi_some]
    rw [if_neg (fun z => hq (by unfold g_q2; rw [decide_eq_true_eq]; have := (c_sign h.1 (i := i) (c := 43) (by omega)).mp z; omega))]
    rw [if_neg (fun z => hq (by unfold g_q2; rw [decide_eq_true_eq]; have := (c_sign h.1 (i := i) (c := 45) (by omega)).mp z; omega))]
    exact v_Tret ⟨h0, Or.inr ⟨hr, by rw [hri]; exact h, Or.inr ⟨rfl, by rw [hri]; exact hd⟩⟩⟩
theorem c_suL {g : Nat → Int32} {P : gS → gR} {rec : Int32 → vS → Option (Int32 × vS)} {b : Int32} (hF : c_ok g P (f_Rd_product rec b)) (hP : g_ok P) (pre : List Int32) (s0 : vS) : ∀ (m n : Nat) (v : Int32) (s : vS) (i : Nat) (l : List (Int32 × Int32)), c_R g s pre (i, l) → v_F c_pd s0 s → 60 ≤ i + m → v.toInt ≤ i → m + 1 < n → v_T (f_Rd_sum_L8 rec b c_k n 1 v s) (c_P g pre s0 (g_ch g P g_q2 m (i, l))) := by
  intro m
  induction m with
  | zero =>
    intro n v s i l h h0 hm hv hn
    obtain ⟨n, rfl⟩ : ∃ q, n = q + 1 := ⟨n - 1, by omega⟩
    have hg := c_g_ltr h.1 i (by omega)
    have hq : ¬ g_q2 (g i) = true := by rw [hg]; decide
    rw [g_ch_no hq]
    show v_T (f_Rd_sum_L8b rec b c_k (f_Rd_sum_L8 rec b c_k n) 1 v s) _
    unfold f_Rd_sum_L8b
    refine v_Tif (fun _ => c_k_T h h0) (fun _ => ?_)
    rw [if_neg (by decide), c_look (i := i) (c_R_f h), v_bi_some]
    rw [if_neg (fun z => hq (by unfold g_q2; rw [decide_eq_true_eq]; have := (c_sign h.1 (i := i) (c := 43) (by omega)).mp z; omega))]
    rw [if_neg (fun z => hq (by unfold g_q2; rw [decide_eq_true_eq]; have := (c_sign h.1 (i := i) (c := 45) (by omega)).mp z; omega))]
    exact v_Tret ⟨h0, Or.inl ⟨rfl, rfl, h⟩⟩
  | succ m ih =>
    intro n v s i l h h0 hm hv hn
    obtain ⟨n, rfl⟩ : ∃ q, n = q + 1 := ⟨n - 1, by omega⟩
    show v_T (f_Rd_sum_L8b rec b c_k (f_Rd_sum_L8 rec b c_k n) 1 v s) _
    unfold f_Rd_sum_L8b
    by_cases hq : g_q2 (g i) = true
    · have hc := of_decide_eq_true hq
      have hb : g_bin (g i) := g_q2b hq
      have hi : i < 60 := g_lt (c_g_ltr h.1) (by omega)
      rw [if_neg (by omega), if_neg (by decide), c_look (i := i) (c_R_f h), v_bi_some]
      rcases hc with e | e
      · rw [if_pos ((c_sign h.1 (by omega)).mpr e)]
        refine v_Tlet (c_step hF hP h h0 hi (q := (g i, 0)) (by rw [g_en_bin hb, c_raw h.1 (by omega)]) (fun t a1 a2 a3 a4 => ?_) (fun u t a1 a2 a3 a4 => ?_))
        · rw [g_ch_t hq a1]
          exact ih _ _ t _ _ a3 a4 (by omega) (by rw [v_inc (by omega)]; omega) (by omega)
        · rw [g_ch_f hq a1]
          exact c_suT a1 rfl a2 a4 a3 (by omega)
      · rw [if_neg (fun z => by have := (c_sign h.1 (i := i) (c := 43) (by omega)).mp z; omega), if_pos ((c_sign h.1 (by omega)).mpr e)]
        refine v_Tlet (c_step hF hP h h0 hi (q := (g i, 0)) (by rw [g_en_bin hb, c_raw h.1 (by omega)]) (fun t a1 a2 a3 a4 => ?_) (fun u t a1 a2 a3 a4 => ?_))
        · rw [g_ch_t hq a1]
          exact ih _ _ t _ _ a3 a4 (by omega) (by rw [v_inc (by omega)]; omega) (by omega)
        · rw [g_ch_f hq a1]
          exact c_suT a1 rfl a2 a4 a3 (by omega)
    · rw [g_ch_no hq]
      refine v_Tif (fun _ => c_k_T h h0) (fun _ => ?_)
      rw [if_neg (by decide), c_look (i := i) (c_R_f h), v_bi_some]
      rw [if_neg (fun z => hq (by unfold g_q2; rw [decide_eq_true_eq]; have := (c_sign h.1 (i := i) (c := 43) (by omega)).mp z; omega))]
      rw [if_neg (fun z => hq (by unfold g_q2; rw [decide_eq_true_eq]; have := (c_sign h.1 (i := i) (c := 45) (by omega)).mp z; omega))]
      exact v_Tret ⟨h0, Or.inl ⟨rfl, rfl, h⟩⟩
theorem c_su {g : Nat → Int32} {P : gS → gR} {rec : Int32 → vS → Option (Int32 × vS)} {b : Int32} (hF : c_ok g P (f_Rd_product rec b)) (hP : g_ok P) : c_ok g (fun st => g_th (P st) (g_ch g P g_q2 60)) (f_Rd_sum rec b) := by
  intro s pre i l h
  unfold f_Rd_sum
  refine v_Tbi (hF s pre i l h) ?_
  rintro r t ⟨h1, h2⟩
  show v_T (f_Rd_sum_L8 rec b c_k 4096 r 0 t) (c_P g pre s (g_th (P (i, l)) (g_ch g P g_q2 60)))
  rcases h2 with ⟨a1, rfl, a3⟩ | ⟨a1, a2, a3⟩
  · rw [show g_th (P (i, l)) (g_ch g P g_q2 60) = g_ch g P g_q2 60 ((P (i, l)).2.1, (P (i, l)).2.2) from if_pos a1]
    exact c_suL hF hP pre s 60 4096 0 t _ _ a3 h1 (by omega) (by show (0 : Int) ≤ _; omega) (by decide)
  · rw [show g_th (P (i, l)) (g_ch g P g_q2 60) = P (i, l) from if_neg (by rw [a1]; decide)]
    exact c_suT a1 rfl a2 h1 a3 (by decide)
theorem c_cm {g : Nat → Int32} {P : gS → gR} {rec : Int32 → vS → Option (Int32 × vS)} {b : Int32} (hF : c_ok g P (f_Rd_sum rec b)) (hP : g_ok P) : c_ok g (fun st => g_th (P st) (fun t => if g_q3 (g t.1) = true then g_th (P (t.1 + 1, t.2)) (fun u => (true, (u.1, u.2 ++ [(g t.1, 0)]))) else (true, t))) (f_Rd_compared rec b) := by
  intro s pre i l h
  unfold f_Rd_compared
  refine v_Tbi (hF s pre i l h) ?_
  rintro r t ⟨h1, h2⟩
  try dsimp only
  rcases h2 with ⟨a1, rfl, a3⟩ | ⟨a1, a2, a3⟩
  · rw [show g_th (P (i, l)) (fun t => if g_q3 (g t.1) = true then g_th (P (t.1 + 1, t.2)) (fun u => ((true, (u.1, u.2 ++ [(g t.1, 0)])) : gR)) else (true, t)) = (fun t : gS => if g_q3 (g t.1) = true then g_th (P (t.1 + 1, t.2)) (fun u => ((true, (u.1, u.2 ++ [(g t.1, 0)])) : gR)) else (true, t)) (P (i, l)).2 from if_pos a1]
    generalize (P (i, l)).2 = st at a3 ⊢
    obtain ⟨j, m⟩ := st
    try dsimp only
    rw [if_neg (by decide), c_look (i := j) (c_R_f a3), v_bi_some]
    by_cases hq : g_q3 (g j) = true
    · rw [if_pos hq]
      have hc := of_decide_eq_true hq
      have hb : g_bin (g j) := g_q3b hq
      have hj : j < 60 := g_lt (c_g_ltr a3.1) (by omega)
      rcases hc with e | e | e
      · rw [if_pos ((c_sign a3.1 (by omega)).mpr e)]
        refine v_Tlet (c_step hF hP a3 h1 hj (q := (g j, 0)) (by rw [g_en_bin hb, c_raw a3.1 (by omega)]) (fun u b1 b2 b3 b4 => ?_) (fun x u b1 b2 b3 b4 => ?_))
        · rw [show g_th (P (j + 1, m)) (fun u => ((true, (u.1, u.2 ++ [(g j, 0)])) : gR)) = (true, ((P (j + 1, m)).2.1, (P (j + 1, m)).2.2 ++ [(g j, 0)])) from if_pos b1]
          exact c_k_T b3 b4
        · rw [show g_th (P (j + 1, m)) (fun u => ((true, (u.1, u.2 ++ [(g j, 0)])) : gR)) = P (j + 1, m) from if_neg (by rw [b1]; decide)]
          exact c_k_F b1 rfl b2 b4 b3
      · rw [if_neg (fun z => by have := (c_sign a3.1 (i := j) (c := 60) (by omega)).mp z; omega), if_pos ((c_sign a3.1 (by omega)).mpr e)]
        refine v_Tlet (c_step hF hP a3 h1 hj (q := (g j, 0)) (by rw [g_en_bin hb, c_raw a3.1 (by omega)]) (fun u b1 b2 b3 b4 => ?_) (fun x u b1 b2 b3 b4 => ?_))
        · rw [show g_th (P (j + 1, m)) (fun u => ((true, (u.1, u.2 ++ [(g j, 0)])) : gR)) = (true, ((P (j + 1, m)).2.1, (P (j + 1, m)).2.2 ++ [(g j, 0)])) from if_pos b1]
          exact c_k_T b3 b4
        · rw [show g_th (P (j + 1, m)) (fun u => ((true, (u.1, u.2 ++ [(g j, 0)])) : gR)) = P (j + 1, m) from if_neg (by rw [b1]; decide)]
          exact c_k_F b1 rfl b2 b4 b3
      · rw [if_neg (fun z => by have := (c_sign a3.1 (i := j) (c := 60) (by omega)).mp z; omega), if_neg (fun z => by have := (c_sign a3.1 (i := j) (c := 61) (by omega)).mp z; omega), if_pos ((c_sign a3.1 (by omega)).mpr e)]
        refine v_Tlet (c_step hF hP a3 h1 hj (q := (g j, 0)) (by rw [g_en_bin hb, c_raw a3.1 (by omega)]) (fun u b1 b2 b3 b4 => ?_) (fun x u b1 b2 b3 b4 => ?_))
        · rw [show g_th (P (j + 1, m)) (fun u => ((true, (u.1, u.2 ++ [(g j, 0)])) : gR)) = (true, ((P (j + 1, m)).2.1, (P (j + 1, m)).2.2 ++ [(g j, 0)])) from if_pos b1]
          exact c_k_T b3 b4
        · rw [show g_th (P (j + 1, m)) (fun u => ((true, (u.1, u.2 ++ [(g j, 0)])) : gR)) = P (j + 1, m) from if_neg (by rw [b1]; decide)]
          exact c_k_F b1 rfl b2 b4 b3
    · rw [if_neg hq]
      rw [if_neg (fun z => hq (by unfold g_q3; rw [decide_eq_true_eq]; have := (c_sign a3.1 (i := j) (c := 60) (by omega)).mp z; omega))]
      rw [if_neg (fun z => hq (by unfold g_q3; rw [decide_eq_true_eq]; have := (c_sign a3.1 (i := j) (c := 61) (by omega)).mp z; omega))]
      rw [if_neg (fun z => hq (by unfold g_q3; rw [decide_eq_true_eq]; have := (c_sign a3.1 (i := j) (c := 62) (by omega)).mp z; omega))]
      exact v_Tret ⟨h1, Or.inl ⟨rfl, rfl, a3⟩⟩
  · rw [show g_th (P (i, l)) (fun t => if g_q3 (g t.1) = true then g_th (P (t.1 + 1, t.2)) (fun u => ((true, (u.1, u.2 ++ [(g t.1, 0)])) : gR)) else (true, t)) = P (i, l) from if_neg (by rw [a1]; decide)]
    rcases a3 with rfl | ⟨rfl, hd⟩
    · rw [if_pos (by decide)]
      exact v_Tret ⟨h1, Or.inr ⟨a1, a2, Or.inl rfl⟩⟩
    · have hq : ¬ g_q3 (g (P (i, l)).2.1) = true := c_digq hd (Or.inr (Or.inr (Or.inl rfl)))
      rw [if_neg (by decide), c_look a2, v_bi_some]
      rw [if_neg (fun z => hq (by unfold g_q3; rw [decide_eq_true_eq]; have := (c_sign a2.1 (i := (P (i, l)).2.1) (c := 60) (by omega)).mp z; omega))]
      rw [if_neg (fun z => hq (by unfold g_q3; rw [decide_eq_true_eq]; have := (c_sign a2.1 (i := (P (i, l)).2.1) (c := 61) (by omega)).mp z; omega))]
      rw [if_neg (fun z => hq (by unfold g_q3; rw [decide_eq_true_eq]; have := (c_sign a2.1 (i := (P (i, l)).2.1) (c := 62) (by omega)).mp z; omega))]
      exact v_Tret ⟨h1, Or.inr ⟨a1, a2, Or.inr ⟨rfl, hd⟩⟩⟩
theorem c_boT {g : Nat → Int32} {rec : Int32 → vS → Option (Int32 × vS)} {b : Int32} {pre : List Int32} {s0 s : vS} {i n : Nat} {u v : Int32} {r : gR} (hr : r.1 = false) (hri : r.2.1 = i) (h : c_Rf g s i) (h0 : v_F c_pd s0 s) (hu : u = 0 ∨ (u = 1 ∧ g_dig (g i) = true)) (hn : 0 < n) : v_T (f_Rd_both_L8 rec b c_k n u v s) (c_P g pre s0 r) := by
  obtain ⟨n, rfl⟩ : ∃ q, n = q + 1 := ⟨n - 1, by omega⟩
  show v_T (f_Rd_both_L8b rec b c_k (f_Rd_both_L8 rec b c_k n) u v s) _
  unfold f_Rd_both_L8b
  refine v_Tif (fun _ => c_k_F hr hri h h0 hu) (fun _ => v_Tif (fun _ => c_k_F hr hri h h0 hu) (fun hz => ?_))
  rcases hu with rfl | ⟨rfl, hd⟩
  · exact absurd rfl hz
  · have hq : ¬ g_q4 (g i) = true := c_digq hd (Or.inr (Or.inr (Or.inr (Or.inl rfl))))
    rw [c_comes_f (b := 38) h (by decide) (fun z => hq (by unfold g_q4; rw [decide_eq_true_eq]; exact z)), v_bi_some, if_pos (by decide)]
    exact c_k_F hr hri h h0 (Or.inr ⟨rfl, hd⟩)
theorem c_boL {g : Nat → Int32} {P : gS → gR} {rec : Int32 → vS → Option (Int32 × vS)} {b : Int32} (hF : c_ok g P (f_Rd_compared rec b)) (hP : g_ok P) (pre : List Int32) (s0 : vS) : ∀ (m n : Nat) (v : Int32) (s : vS) (i : Nat) (l : List (Int32 × Int32)), c_R g s pre (i, l) → v_F c_pd s0 s → 60 ≤ i + m → v.toInt ≤ i → m + 1 < n → v_T (f_Rd_both_L8 rec b c_k n 1 v s) (c_P g pre s0 (g_ch g P g_q4 m (i, l))) := by
  intro m
  induction m with
  | zero =>
    intro n v s i l h h0 hm hv hn
    obtain ⟨n, rfl⟩ : ∃ q, n = q + 1 := ⟨n - 1, by omega⟩
    have hg := c_g_ltr h.1 i (by omega)
    have hq : ¬ g_q4 (g i) = true := by rw [hg]; decide
    rw [g_ch_no hq]
    show v_T (f_Rd_both_L8b rec b c_k (f_Rd_both_L8 rec b c_k n) 1 v s) _
    unfold f_Rd_both_L8b
    refine v_Tif (fun _ => c_k_T h h0) (fun _ => ?_)
    rw [if_neg (by decide), c_comes_f (b := 38) (i := i) (c_R_f h) (by decide) (fun z => hq (by unfold g_q4; rw [decide_eq_true_eq]; exact z)), v_bi_some, if_pos (by decide)]
    exact c_k_T h h0
  | succ m ih =>
    intro n v s i l h h0 hm hv hn
    obtain ⟨n, rfl⟩ : ∃ q, n = q + 1 := ⟨n - 1, by omega⟩
    show v_T (f_Rd_both_L8b rec b c_k (f_Rd_both_L8 rec b c_k n) 1 v s) _
    unfold f_Rd_both_L8b
    by_cases hq : g_q4 (g i) = true
    · have hc := of_decide_eq_true hq
      have hb : g_bin (g i) := g_q4b hq
      have hi : i < 60 := g_lt (c_g_ltr h.1) (by omega)
      rw [if_neg (by omega), if_neg (by decide), c_comes_t (b := 38) (i := i) (c_R_f h) (by decide) hc, v_bi_some, if_neg (by decide)]
      refine c_step hF hP h h0 hi (q := (g i, 0)) (by rw [g_en_bin hb, show g i = 38 from Int32.toInt_inj.mp hc]; rfl) (fun t a1 a2 a3 a4 => ?_) (fun u t a1 a2 a3 a4 => ?_)
      · rw [g_ch_t hq a1]
        exact ih _ _ t _ _ a3 a4 (by omega) (by rw [v_inc (by omega)]; omega) (by omega)
      · rw [g_ch_f hq a1]
        exact c_boT a1 rfl a2 a4 a3 (by omega)
    · rw [g_ch_no hq]
      refine v_Tif (fun _ => c_k_T h h0) (fun _ => ?_)
      rw [if_neg (by decide), c_comes_f (b := 38) (i := i) (c_R_f h) (by decide) (fun z => hq (by unfold g_q4; rw [decide_eq_true_eq]; exact z)), v_bi_some, if_pos (by decide)]
      exact c_k_T h h0
theorem c_bo {g : Nat → Int32} {P : gS → gR} {rec : Int32 → vS → Option (Int32 × vS)} {b : Int32} (hF : c_ok g P (f_Rd_compared rec b)) (hP : g_ok P) : c_ok g (fun st => g_th (P st) (g_ch g P g_q4 60)) (f_Rd_both rec b) := by
  intro s pre i l h
  unfold f_Rd_both
  refine v_Tbi (hF s pre i l h) ?_
  rintro r t ⟨h1, h2⟩
  show v_T (f_Rd_both_L8 rec b c_k 4096 r 0 t) (c_P g pre s (g_th (P (i, l)) (g_ch g P g_q4 60)))
  rcases h2 with ⟨a1, rfl, a3⟩ | ⟨a1, a2, a3⟩
  · rw [show g_th (P (i, l)) (g_ch g P g_q4 60) = g_ch g P g_q4 60 ((P (i, l)).2.1, (P (i, l)).2.2) from if_pos a1]
    exact c_boL hF hP pre s 60 4096 0 t _ _ a3 h1 (by omega) (by show (0 : Int) ≤ _; omega) (by decide)
  · rw [show g_th (P (i, l)) (g_ch g P g_q4 60) = P (i, l) from if_neg (by rw [a1]; decide)]
    exact c_boT a1 rfl a2 h1 a3 (by decide)
theorem c_eiT {g : Nat → Int32} {rec : Int32 → vS → Option (Int32 × vS)} {b : Int32} {pre : List Int32} {s0 s : vS} {i n : Nat} {u v : Int32} {r : gR} (hr : r.1 = false) (hri : r.2.1 = i) (h : c_Rf g s i) (h0 : v_F c_pd s0 s) (hu : u = 0 ∨ (u = 1 ∧ g_dig (g i) = true)) (hn : 0 < n) : v_T (f_Rd_either_L8 rec b c_k n u v s) (c_P g pre s0 r) := by
  obtain ⟨n, rfl⟩ : ∃ q, n = q + 1 := ⟨n - 1, by omega⟩
  show v_T (f_Rd_either_L8b rec b c_k (f_Rd_either_L8 rec b c_k n) u v s) _
  unfold f_Rd_either_L8b
  refine v_Tif (fun _ => c_k_F hr hri h h0 hu) (fun _ => v_Tif (fun _ => c_k_F hr hri h h0 hu) (fun hz => ?_))
  rcases hu with rfl | ⟨rfl, hd⟩
  · exact absurd rfl hz
  · have hq : ¬ g_q5 (g i) = true := c_digq hd (Or.inr (Or.inr (Or.inr (Or.inr rfl))))
    rw [c_comes_f (b := 124) h (by decide) (fun z => hq (by unfold g_q5; rw [decide_eq_true_eq]; exact z)), v_bi_some, if_pos (by decide)]
    exact c_k_F hr hri h h0 (Or.inr ⟨rfl, hd⟩)
theorem c_eiL {g : Nat → Int32} {P : gS → gR} {rec : Int32 → vS → Option (Int32 × vS)} {b : Int32} (hF : c_ok g P (f_Rd_both rec b)) (hP : g_ok P) (pre : List Int32) (s0 : vS) : ∀ (m n : Nat) (v : Int32) (s : vS) (i : Nat) (l : List (Int32 × Int32)), c_R g s pre (i, l) → v_F c_pd s0 s → 60 ≤ i + m → v.toInt ≤ i → m + 1 < n → v_T (f_Rd_either_L8 rec b c_k n 1 v s) (c_P g pre s0 (g_ch g P g_q5 m (i, l))) := by
  intro m
  induction m with
  | zero =>
    intro n v s i l h h0 hm hv hn
    obtain ⟨n, rfl⟩ : ∃ q, n = q + 1 := ⟨n - 1, by omega⟩
    have hg := c_g_ltr h.1 i (by omega)
    have hq : ¬ g_q5 (g i) = true := by rw [hg]; decide
    rw [g_ch_no hq]
    show v_T (f_Rd_either_L8b rec b c_k (f_Rd_either_L8 rec b c_k n) 1 v s) _
    unfold f_Rd_either_L8b
    refine v_Tif (fun _ => c_k_T h h0) (fun _ => ?_)
    rw [if_neg (by decide), c_comes_f (b := 124) (i := i) (c_R_f h) (by decide) (fun z => hq (by unfold g_q5; rw [decide_eq_true_eq]; exact z)), v_bi_some, if_pos (by decide)]
    exact c_k_T h h0
  | succ m ih =>
    intro n v s i l h h0 hm hv hn
    obtain ⟨n, rfl⟩ : ∃ q, n = q + 1 := ⟨n - 1, by omega⟩
    show v_T (f_Rd_either_L8b rec b c_k (f_Rd_either_L8 rec b c_k n) 1 v s) _
    unfold f_Rd_either_L8b
    by_cases hq : g_q5 (g i) = true
    · have hc := of_decide_eq_true hq
      have hb : g_bin (g i) := g_q5b hq
      have hi : i < 60 := g_lt (c_g_ltr h.1) (by omega)
      rw [if_neg (by omega), if_neg (by decide), c_comes_t (b := 124) (i := i) (c_R_f h) (by decide) hc, v_bi_some, if_neg (by decide)]
      refine c_step hF hP h h0 hi (q := (g i, 0)) (by rw [g_en_bin hb, show g i = 124 from Int32.toInt_inj.mp hc]; rfl) (fun t a1 a2 a3 a4 => ?_) (fun u t a1 a2 a3 a4 => ?_)
      · rw [g_ch_t hq a1]
        exact ih _ _ t _ _ a3 a4 (by omega) (by rw [v_inc (by omega)]; omega) (by omega)
      · rw [g_ch_f hq a1]
        exact c_eiT a1 rfl a2 a4 a3 (by omega)
    · rw [g_ch_no hq]
      refine v_Tif (fun _ => c_k_T h h0) (fun _ => ?_)
      rw [if_neg (by decide), c_comes_f (b := 124) (i := i) (c_R_f h) (by decide) (fun z => hq (by unfold g_q5; rw [decide_eq_true_eq]; exact z)), v_bi_some, if_pos (by decide)]
      exact c_k_T h h0
theorem c_ei {g : Nat → Int32} {P : gS → gR} {rec : Int32 → vS → Option (Int32 × vS)} {b : Int32} (hF : c_ok g P (f_Rd_both rec b)) (hP : g_ok P) : c_ok g (fun st => g_th (P st) (g_ch g P g_q5 60)) (f_Rd_either rec b) := by
  intro s pre i l h
  unfold f_Rd_either
  refine v_Tbi (hF s pre i l h) ?_
  rintro r t ⟨h1, h2⟩
  show v_T (f_Rd_either_L8 rec b c_k 4096 r 0 t) (c_P g pre s (g_th (P (i, l)) (g_ch g P g_q5 60)))
  rcases h2 with ⟨a1, rfl, a3⟩ | ⟨a1, a2, a3⟩
  · rw [show g_th (P (i, l)) (g_ch g P g_q5 60) = g_ch g P g_q5 60 ((P (i, l)).2.1, (P (i, l)).2.2) from if_pos a1]
    exact c_eiL hF hP pre s 60 4096 0 t _ _ a3 h1 (by omega) (by show (0 : Int) ≤ _; omega) (by decide)
  · rw [show g_th (P (i, l)) (g_ch g P g_q5 60) = P (i, l) from if_neg (by rw [a1]; decide)]
    exact c_eiT a1 rfl a2 h1 a3 (by decide)
theorem c_isDigit {x : Int32} {s : vS} : f_Rd_isDigit x s = some (if g_dig x = true then 1 else 0, s) := by
  unfold f_Rd_isDigit
  by_cases h : g_dig x = true
  · have := g_dig_sp h
    rw [if_neg (by omega), if_neg (by omega), if_pos h]
  · rw [if_neg h]
    by_cases h1 : x.toInt < 48
    · rw [if_pos h1]
    · rw [if_neg h1, if_pos (by
        by_cases h2 : 57 < x.toInt
        · exact h2
        · exact absurd (g_dig_i ⟨by omega, by omega⟩) h)]
theorem c_nameOf {x : Int32} {s : vS} : f_Rd_nameOf x s = some (g_name x, s) := by
  unfold f_Rd_nameOf g_name
  repeat' first
    | rfl
    | split
theorem c_numL {g : Nat → Int32} {s0 : vS} {pre : List Int32} {l : List (Int32 × Int32)} {k : Int32 → vS → Option (Unit × vS)} {Q : Unit → vS → Prop} : ∀ (m n : Nat) (v w : Int32) (s : vS) (i : Nat), w.toInt + m = 4 → m ≤ 4 → c_R g s pre (i, l) → v_F c_pd s0 s → m < n → (∀ t, c_R g t pre ((g_num g m i v).1, l) → v_F c_pd s0 t → v_T (k (g_num g m i v).2 t) Q) → v_T (f_Rd_number_L4 k n v w s) Q := by
  intro m
  induction m with
  | zero =>
    intro n v w s i hm _ h h0 hn hk
    obtain ⟨n, rfl⟩ : ∃ q, n = q + 1 := ⟨n - 1, by omega⟩
    show v_T (f_Rd_number_L4b k (f_Rd_number_L4 k n) v w s) _
    unfold f_Rd_number_L4b
    rw [if_pos (by omega)]
    exact hk s h h0
  | succ m ih =>
    intro n v w s i hm hm4 h h0 hn hk
    obtain ⟨n, rfl⟩ : ∃ q, n = q + 1 := ⟨n - 1, by omega⟩
    show v_T (f_Rd_number_L4b k (f_Rd_number_L4 k n) v w s) _
    unfold f_Rd_number_L4b
    rw [if_neg (by omega), c_look (i := i) (c_R_f h), v_bi_some, c_isDigit, v_bi_some]
    have hd : g_dig (c_let s i) = g_dig (g i) := by rw [h.1 i, g_dig_ab]
    rw [hd]
    have e : g_num g (m + 1) i v = if g_dig (g i) = true then g_num g m (i + 1) (v * 10 + g i - 48) else (i, v) := rfl
    by_cases hc : g_dig (g i) = true
    · rw [if_pos hc, if_neg (by decide), c_look (i := i) (c_R_f h), v_bi_some]
      have hs := g_dig_sp hc
      have hi : i < 60 := g_lt (c_g_ltr h.1) (by omega)
      obtain ⟨h1, h2⟩ := c_adv h hi
      rw [c_raw h.1 (by omega)]
      rw [e, if_pos hc] at hk
      exact v_Tlet (ih n _ _ _ (i + 1) (by rw [v_inc (by omega)]; omega) (by omega) h1 (v_F_tr h0 h2) (by omega) hk)
    · rw [if_neg hc, if_pos (by decide)]
      rw [e, if_neg hc] at hk
      exact hk s h h0
theorem c_num {g : Nat → Int32} {s : vS} {pre : List Int32} {i : Nat} {l : List (Int32 × Int32)} (h : c_R g s pre (i, l)) (hd : g_dig (g i) = true) : v_T (f_Rd_number s) (fun _ t => v_F c_pd s t ∧ c_R g t pre ((g_num g 4 i 0).1, l ++ [(1, (g_num g 4 i 0).2)])) := by
  unfold f_Rd_number
  refine c_numL (g := g) (s0 := s) (pre := pre) (l := l) 4 4096 0 0 s i (by decide) (by decide) h v_F_rf (by decide) (fun t h1 h2 => ?_)
  have hi60 : i ≤ 60 := h.2.2.1
  have hgt : i < (g_num g 4 i 0).1 := g_num_gt (c_g_ltr h.1) hi60 hd
  have hl := h.2.2.2.2.2
  dsimp only at hl
  refine v_Tbi (c_add (q := (1, (g_num g 4 i 0).2)) h1 (by omega)) ?_
  rintro _ u ⟨h3, h4⟩
  exact v_Tret ⟨v_F_tr h2 h3, h4⟩
theorem c_opb {g : Nat → Int32} {n : Nat} {po pe : gS → gR} {rec : Int32 → vS → Option (Int32 × vS)} {b : Int32} (hb : b.toInt = 6 - (n : Int)) (hn6 : n ≤ 6) (ho : n ≠ 0 → c_ok g po (rec (b + 1))) (he : n ≠ 0 → c_ok g pe (f_Rd_either rec (b + 1))) (hgo : n ≠ 0 → g_ok po) (hge : n ≠ 0 → g_ok pe) : c_ok g (g_op g n po pe) (f_Rd_operandb rec b) := by
  intro s pre i l h
  have hf := c_R_f h
  have hl := h.2.2.2.2.2
  have hi60 := h.2.2.1
  dsimp only at hl hi60
  have hnm : g_name (c_let s i) = g_name (g i) := by rw [h.1 i, g_name_ab]
  have hdd : g_dig (c_let s i) = g_dig (g i) := by rw [h.1 i, g_dig_ab]
  unfold f_Rd_operandb g_op
  rw [c_look (i := i) hf, v_bi_some, c_nameOf, v_bi_some, hnm]
  try dsimp only
  by_cases h1 : (g_name (g i)).toInt < 0
  · rw [if_pos h1, if_pos h1, c_isDigit, v_bi_some, hdd]
    by_cases hd : g_dig (g i) = true
    · have hs := g_dig_sp hd
      rw [if_pos hd, if_neg (by decide), if_neg (by omega), if_neg (by omega), if_pos hd]
      refine v_Tbi (c_num h hd) ?_
      rintro _ t ⟨h2, h3⟩
      by_cases h4 : g_dig (g (g_num g 4 i 0).1) = true
      · rw [if_pos h4]
        exact v_Tret ⟨h2, Or.inr ⟨rfl, (show c_Rf g t (g_num g 4 i 0).1 from c_R_f h3), Or.inr ⟨rfl, h4⟩⟩⟩
      · rw [if_neg h4]
        exact v_Tret ⟨h2, Or.inl ⟨rfl, rfl, h3⟩⟩
    · rw [if_neg hd, if_pos (by decide)]
      have c40 := c_sign h.1 (i := i) (c := 40) (by omega)
      have c33 := c_sign h.1 (i := i) (c := 33) (by omega)
      have c45 := c_sign h.1 (i := i) (c := 45) (by omega)
      by_cases hz : n = 0
      · rw [if_pos (by omega)]
        by_cases h5 : (g i).toInt = 33 ∨ (g i).toInt = 45
        · rw [if_pos h5, if_pos hz]
          exact v_Tret ⟨v_F_rf, Or.inr ⟨rfl, hf, Or.inl rfl⟩⟩
        · rw [if_neg h5]
          by_cases h6 : (g i).toInt = 40
          · rw [if_pos h6, if_pos hz]
            exact v_Tret ⟨v_F_rf, Or.inr ⟨rfl, hf, Or.inl rfl⟩⟩
          · rw [if_neg h6, if_neg hd]
            exact v_Tret ⟨v_F_rf, Or.inr ⟨rfl, hf, Or.inl rfl⟩⟩
      · rw [if_neg (by omega)]
        by_cases h6 : (g i).toInt = 40
        · have hi : i < 60 := g_lt (c_g_ltr h.1) (by omega)
          obtain ⟨h7, h8⟩ := c_adv h hi
          rw [if_pos (c40.mpr h6), if_neg (by omega), if_pos h6, if_neg hz]
          refine v_Tlet ?_
          rw [if_pos (c40.mpr h6)]
          refine v_Tbi (he hz _ pre (i + 1) l h7) ?_
          rintro r t ⟨h9, h10⟩
          rcases h10 with ⟨a1, rfl, a3⟩ | ⟨a1, a2, a3⟩
          · rw [show g_th (pe (i + 1, l)) (fun t => if (g t.1).toInt = 41 then ((true, (t.1 + 1, t.2)) : gR) else (false, t)) = (if (g (pe (i + 1, l)).2.1).toInt = 41 then ((true, ((pe (i + 1, l)).2.1 + 1, (pe (i + 1, l)).2.2)) : gR) else (false, (pe (i + 1, l)).2)) from if_pos a1, if_neg (by decide)]
            generalize (pe (i + 1, l)).2 = st at a3 ⊢
            obtain ⟨j, m⟩ := st
            try dsimp only
            by_cases h11 : (g j).toInt = 41
            · have hj : j < 60 := g_lt (c_g_ltr a3.1) (by omega)
              obtain ⟨h12, h13⟩ := c_adv a3 hj
              rw [if_pos h11, c_comes_t (b := 41) (i := j) (c_R_f a3) (by decide) h11, v_bi_some, if_neg (by decide)]
              exact v_Tret ⟨v_F_tr h8 (v_F_tr h9 h13), Or.inl ⟨rfl, rfl, h12⟩⟩
            · rw [if_neg h11, c_comes_f (b := 41) (i := j) (c_R_f a3) (by decide) h11, v_bi_some, if_pos (by decide)]
              exact v_Tret ⟨v_F_tr h8 h9, Or.inr ⟨rfl, c_R_f a3, Or.inl rfl⟩⟩
          · rw [show g_th (pe (i + 1, l)) (fun t => if (g t.1).toInt = 41 then ((true, (t.1 + 1, t.2)) : gR) else (false, t)) = pe (i + 1, l) from if_neg (by rw [a1]; decide)]
            rcases a3 with rfl | ⟨rfl, hdg⟩
            · rw [if_pos (by decide)]
              exact v_Tret ⟨v_F_tr h8 h9, Or.inr ⟨a1, a2, Or.inl rfl⟩⟩
            · have hs := g_dig_sp hdg
              rw [if_neg (by decide), c_comes_f (b := 41) a2 (by decide) (fun z => by have z : _ = (41 : Int) := z; omega), v_bi_some, if_pos (by decide)]
              exact v_Tret ⟨v_F_tr h8 h9, Or.inr ⟨a1, a2, Or.inl rfl⟩⟩
        · rw [if_neg (fun z => h6 (c40.mp z))]
          by_cases h5 : (g i).toInt = 33
          · have hi : i < 60 := g_lt (c_g_ltr h.1) (by omega)
            rw [if_pos (c33.mpr h5), if_pos (Or.inl h5), if_neg hz]
            refine v_Tlet ?_
            rw [if_neg (fun z => h6 (c40.mp z))]
            obtain ⟨h7, h8⟩ := c_adv h hi
            refine v_Tbi (ho hz _ pre (i + 1) l h7) ?_
            rintro r t ⟨h9, h10⟩
            rw [if_pos (c33.mpr h5)]
            have hgo2 := hgo hz (i + 1) l (by omega)
            rcases h10 with ⟨a1, rfl, a3⟩ | ⟨a1, a2, a3⟩
            · rw [show g_th (po (i + 1, l)) (fun t => ((true, (t.1, t.2 ++ [(if (g i).toInt = 33 then 3 else 4, 0)])) : gR)) = (true, ((po (i + 1, l)).2.1, (po (i + 1, l)).2.2 ++ [(3, 0)])) from (if_pos a1).trans (by rw [if_pos h5])]
              obtain ⟨b4, d, b5, b6, -⟩ := hgo2.2.2 a1
              refine v_Tbi (c_add (i := (po (i + 1, l)).2.1) (l := (po (i + 1, l)).2.2) (q := (3, 0)) a3 (by rw [b5, List.length_append]; omega)) ?_
              rintro _ u ⟨c1, c2⟩
              exact c_k_T c2 (v_F_tr h8 (v_F_tr h9 c1))
            · rw [show g_th (po (i + 1, l)) (fun t => ((true, (t.1, t.2 ++ [(if (g i).toInt = 33 then 3 else 4, 0)])) : gR)) = po (i + 1, l) from if_neg (by rw [a1]; decide)]
              refine v_Tbi (c_addf a2) ?_
              rintro _ u ⟨c1, c2⟩
              exact c_k_F a1 rfl c2 (v_F_tr h8 (v_F_tr h9 c1)) a3
          · rw [if_neg (fun z => h5 (c33.mp z))]
            by_cases h6b : (g i).toInt = 45
            · have hi : i < 60 := g_lt (c_g_ltr h.1) (by omega)
              rw [if_pos (c45.mpr h6b), if_pos (Or.inr h6b), if_neg hz]
              refine v_Tlet ?_
              rw [if_neg (fun z => h6 (c40.mp z))]
              obtain ⟨h7, h8⟩ := c_adv h hi
              refine v_Tbi (ho hz _ pre (i + 1) l h7) ?_
              rintro r t ⟨h9, h10⟩
              rw [if_neg (fun z => h5 (c33.mp z))]
              have hgo2 := hgo hz (i + 1) l (by omega)
              rcases h10 with ⟨a1, rfl, a3⟩ | ⟨a1, a2, a3⟩
              · rw [show g_th (po (i + 1, l)) (fun t => ((true, (t.1, t.2 ++ [(if (g i).toInt = 33 then 3 else 4, 0)])) : gR)) = (true, ((po (i + 1, l)).2.1, (po (i + 1, l)).2.2 ++ [(4, 0)])) from (if_pos a1).trans (by rw [if_neg h5])]
                obtain ⟨b4, d, b5, b6, -⟩ := hgo2.2.2 a1
                refine v_Tbi (c_add (i := (po (i + 1, l)).2.1) (l := (po (i + 1, l)).2.2) (q := (4, 0)) a3 (by rw [b5, List.length_append]; omega)) ?_
                rintro _ u ⟨c1, c2⟩
                exact c_k_T c2 (v_F_tr h8 (v_F_tr h9 c1))
              · rw [show g_th (po (i + 1, l)) (fun t => ((true, (t.1, t.2 ++ [(if (g i).toInt = 33 then 3 else 4, 0)])) : gR)) = po (i + 1, l) from if_neg (by rw [a1]; decide)]
                refine v_Tbi (c_addf a2) ?_
                rintro _ u ⟨c1, c2⟩
                exact c_k_F a1 rfl c2 (v_F_tr h8 (v_F_tr h9 c1)) a3
            · rw [if_neg (fun z => h6b (c45.mp z)), if_neg (by omega), if_neg h6, if_neg hd]
              exact v_Tret ⟨v_F_rf, Or.inr ⟨rfl, hf, Or.inl rfl⟩⟩
  · rw [if_neg h1, if_neg h1]
    have hi : i < 60 := g_lt (c_g_ltr h.1) (by have := g_name_ne h1; omega)
    obtain ⟨h7, h8⟩ := c_adv h hi
    refine v_Tlet (v_Tbi (c_add (q := (2, g_name (g i))) h7 (by omega)) ?_)
    rintro _ u ⟨c1, c2⟩
    exact v_Tret ⟨v_F_tr h8 c1, Or.inl ⟨rfl, rfl, c2⟩⟩
theorem c_eiE {g : Nat → Int32} (hg : g_ltr g) {P : gS → gR} {rec : Int32 → vS → Option (Int32 × vS)} {b : Int32} (hF : c_ok g P (rec b)) (hP : g_ok P) : c_ok g (g_ei g P) (f_Rd_either rec b) :=
  c_ei (c_bo (c_cm (c_su (c_pr hF hP) (g_pr_ok hg hP)) (g_su_ok hg hP)) (g_cm_ok hg hP)) (g_bo_ok hg hP)
theorem c_operand {g : Nat → Int32} (hg : g_ltr g) : ∀ (n f : Nat) (b : Int32), b.toInt = 6 - (n : Int) → n ≤ 6 → n < f → c_ok g (g_O g n) (f_Rd_operand f b) := by
  intro n
  induction n with
  | zero =>
    intro f b hb h6 hf
    obtain ⟨f, rfl⟩ : ∃ q, f = q + 1 := ⟨f - 1, by omega⟩
    exact c_opb (rec := f_Rd_operand f) hb h6 (fun h => absurd rfl h) (fun h => absurd rfl h) (fun h => absurd rfl h) (fun h => absurd rfl h)
  | succ n ih =>
    intro f b hb h6 hf
    obtain ⟨f, rfl⟩ : ∃ q, f = q + 1 := ⟨f - 1, by omega⟩
    have hb1 : (b + 1).toInt = 6 - (n : Int) := by rw [v_inc (by omega)]; omega
    have h1 := ih f (b + 1) hb1 (by omega) (by omega)
    exact c_opb (rec := f_Rd_operand f) hb h6 (fun _ => h1) (fun _ => c_eiE hg h1 (g_O_ok hg n)) (fun _ => g_O_ok hg n) (fun _ => g_ei_ok hg (g_O_ok hg n))
theorem c_E {g : Nat → Int32} (hg : g_ltr g) : c_ok g (g_E g) (f_Rd_either (f_Rd_operand 64) 0) := c_eiE hg (c_operand hg 6 64 0 (by decide) (by decide) (by decide)) (g_O_ok hg 6)
def c_W (g : Nat → Int32) (s : vS) (cs : List Int32) (i : Nat) : Prop := c_g g s ∧ (s.1 3 3).toInt = i ∧ i ≤ 60 ∧ (s.1 4 2).toInt = cs.length ∧ g_row (fun j => s.1 5 j) 0 cs
theorem c_R_W {g : Nat → Int32} {s : vS} {pre : List Int32} {i : Nat} {l : List (Int32 × Int32)} (h : c_R g s pre (i, l)) : c_W g s (pre ++ l.map g_en) i := by
  obtain ⟨h1, h2, h3, h4, h5, h6⟩ := h
  refine ⟨h1, h2, h3, ?_, h5⟩
  rw [h4, List.length_append, List.length_map]
  try dsimp only
  omega
theorem c_W_R {g : Nat → Int32} {s : vS} {cs : List Int32} {i : Nat} (h : c_W g s cs i) (hb : cs.length ≤ i) : c_R g s cs (i, []) := by
  obtain ⟨h1, h2, h3, h4, h5⟩ := h
  refine ⟨h1, h2, h3, ?_, ?_, ?_⟩
  · rw [h4]
    show _ = (cs.length : Int) + ((0 : Nat) : Int)
    omega
  · show g_row (fun j => s.1 5 j) 0 (cs ++ [])
    rw [List.append_nil]
    exact h5
  · show cs.length + 0 ≤ i
    omega
theorem c_W_f {g : Nat → Int32} {s : vS} {cs : List Int32} {i : Nat} (h : c_W g s cs i) : c_Rf g s i := ⟨h.1, h.2.1, h.2.2.1⟩
theorem c_addw {g : Nat → Int32} {s : vS} {cs : List Int32} {i : Nat} (h : c_W g s cs i) (w : Int32) (hi : cs.length < 61) : v_T (f_Tx_add 4 w s) (fun _ t => v_F c_pd s t ∧ c_W g t (cs ++ [w]) i) := by
  obtain ⟨h1, h2, h3, h4, h5⟩ := h
  unfold f_Tx_add
  rw [if_neg (by omega), if_neg (by omega), if_pos ⟨by omega, by omega⟩]
  have e : (s.1 4 2).toNatClampNeg = cs.length := by rw [v_nc]; omega
  refine v_Tlet (v_Tlet (v_Tret ?_))
  rw [e]
  have hf : v_F c_pd s (v_w1 (v_w1 s 5 cs.length w) 4 2 ((v_w1 s 5 cs.length w).1 4 2 + 1)) := v_F_w1 (v_F_w1 v_F_rf (Or.inr (Or.inr rfl))) (Or.inr (Or.inl ⟨rfl, rfl⟩))
  have e4 : (v_w1 s 5 cs.length w).1 4 2 = s.1 4 2 := by rw [v_w1_1, if_neg (by omega)]
  refine ⟨hf, c_g_F h1 hf, ?_, h3, ?_, ?_⟩
  · rw [v_w1_1, if_neg (by omega), v_w1_1, if_neg (by omega)]
    exact h2
  · rw [v_w1_1, if_pos ⟨rfl, rfl⟩, e4, v_inc (by omega), List.length_append]
    show _ = ((cs.length + 1 : Nat) : Int)
    omega
  · refine g_row_add h5 ?_ (fun j hj _ => ?_)
    · try dsimp only
      rw [Nat.zero_add, v_w1_1, if_neg (by omega), v_w1_1, if_pos ⟨rfl, rfl⟩]
    · try dsimp only
      rw [v_w1_1, if_neg (by omega), v_w1_1, if_neg (by omega)]
theorem c_advw {g : Nat → Int32} {s : vS} {cs : List Int32} {i : Nat} (h : c_W g s cs i) (hi : i < 60) : c_W g (v_w1 s 3 3 (s.1 3 3 + 1)) cs (i + 1) ∧ v_F c_pd s (v_w1 s 3 3 (s.1 3 3 + 1)) := by
  obtain ⟨h1, h2, h3, h4, h5⟩ := h
  have hf : v_F c_pd s (v_w1 s 3 3 (s.1 3 3 + 1)) := v_F_w1 v_F_rf (Or.inl ⟨rfl, rfl⟩)
  refine ⟨⟨c_g_F h1 hf, ?_, by omega, ?_, ?_⟩, hf⟩
  · rw [v_w1_1, if_pos ⟨rfl, rfl⟩, v_inc (by omega)]
    omega
  · rw [v_w1_1, if_neg (by omega)]
    exact h4
  · refine g_row_eq h5 (fun j _ _ => ?_)
    try dsimp only
    rw [v_w1_1, if_neg (by omega)]
theorem c_aimf {g : Nat → Int32} {s : vS} {i : Nat} (h : c_Rf g s i) {b : Int32} : v_T (f_Tx_aim 4 b s) (fun _ t => v_F c_pd s t ∧ c_Rf g t i) := by
  obtain ⟨h1, h2, h3⟩ := h
  unfold f_Tx_aim
  refine v_Tif (fun _ => v_Tret ⟨v_F_rf, h1, h2, h3⟩) (fun _ => v_Tif (fun _ => v_Tret ⟨v_F_rf, h1, h2, h3⟩) (fun _ => v_Tck ⟨by omega, by omega⟩ (v_Tlet (v_Tret ?_))))
  have hf : v_F c_pd s (v_w1 s 5 b.toNatClampNeg (30000 + s.1 4 2)) := v_F_w1 v_F_rf (Or.inr (Or.inr rfl))
  refine ⟨hf, c_g_F h1 hf, ?_, h3⟩
  rw [v_w1_1, if_neg (by omega)]
  exact h2
theorem c_aim {g : Nat → Int32} {s : vS} {cs ds : List Int32} {y : Int32} {i : Nat} (h : c_W g s (cs ++ y :: ds) i) {b : Int32} (hb : b.toInt = cs.length) (hl : cs.length < 61) : v_T (f_Tx_aim 4 b s) (fun _ t => v_F c_pd s t ∧ c_W g t (cs ++ (30000 + s.1 4 2) :: ds) i) := by
  obtain ⟨h1, h2, h3, h4, h5⟩ := h
  unfold f_Tx_aim
  rw [if_neg (by omega), if_neg (by omega), if_pos ⟨by omega, by omega⟩]
  have e : b.toNatClampNeg = cs.length := by rw [v_nc]; omega
  refine v_Tlet (v_Tret ?_)
  rw [e]
  have hf : v_F c_pd s (v_w1 s 5 cs.length (30000 + s.1 4 2)) := v_F_w1 v_F_rf (Or.inr (Or.inr rfl))
  refine ⟨hf, c_g_F h1 hf, ?_, h3, ?_, ?_⟩
  · rw [v_w1_1, if_neg (by omega)]
    exact h2
  · rw [v_w1_1, if_neg (by omega), h4, List.length_append, List.length_append]
    rfl
  · intro j x hx
    try dsimp only
    rw [Nat.zero_add, v_w1_1]
    by_cases hj : j = cs.length
    · rw [if_pos ⟨rfl, hj⟩]
      rw [hj, List.getElem?_append_right (Nat.le_refl _), Nat.sub_self] at hx
      exact Option.some.inj hx
    · rw [if_neg (fun q => hj q.2)]
      have h6 := h5 j x (by
        by_cases hj2 : j < cs.length
        · rw [List.getElem?_append_left hj2] at hx ⊢
          exact hx
        · rw [List.getElem?_append_right (by omega)] at hx ⊢
          obtain ⟨k, hk⟩ : ∃ k, j - cs.length = k + 1 := ⟨j - cs.length - 1, by omega⟩
          rw [hk] at hx ⊢
          exact hx)
      dsimp only at h6
      rw [Nat.zero_add] at h6
      exact h6
def c_LiP (g : Nat → Int32) (pre : List Int32) (s : vS) (r : Bool × (Nat × gL)) (x : Int32) (t : vS) : Prop := v_F c_pd s t ∧ ((r.1 = true ∧ x = 1 ∧ c_W g t (pre ++ g_cl pre.length r.2.2) r.2.1) ∨ (r.1 = false ∧ c_Rf g t r.2.1 ∧ (x = 0 ∨ (x = 1 ∧ g_dig (g r.2.1) = true))))
theorem c_line {g : Nat → Int32} (hg : g_ltr g) {s : vS} {pre : List Int32} {i : Nat} (h : c_R g s pre (i, [])) : v_T (f_Rd_line s) (c_LiP g pre s (g_li g i)) := by
  have hi60 : i ≤ 60 := h.2.2.1
  unfold f_Rd_line g_li
  refine v_Tbi (c_E hg s pre i [] h) ?_
  rintro r t ⟨h1, h2⟩
  have hok := g_E_ok hg i [] hi60
  rcases h2 with ⟨a1, rfl, a3⟩ | ⟨a1, a2, a3⟩
  · have hne := g_E_ne hg hi60 a1
    have hj60 := hok.2.1
    rw [if_pos a1, if_neg (by decide)]
    generalize (g_E g (i, [])).2 = st at a3 hne hj60 ⊢
    obtain ⟨j, l⟩ := st
    dsimp only at hne hj60 ⊢
    have hb := a3.2.2.2.2.2
    dsimp only at hb
    by_cases hq : (g j).toInt = 63
    · rw [if_pos hq, c_comes_t (b := 63) (i := j) (c_R_f a3) (by decide) hq, v_bi_some, if_neg (by decide)]
      have hj : j < 60 := g_lt hg (by omega)
      obtain ⟨h3, h4⟩ := c_advw (c_R_W a3) hj
      unfold f_Tx_length
      rw [v_bi_some]
      have hlen := h3.2.2.2.1
      refine v_Tbi (c_addw h3 30000 (by rw [List.length_append, List.length_map]; omega)) ?_
      rintro _ u ⟨h5, h6⟩
      have h7 := c_W_R h6 (by rw [List.length_append, List.length_append, List.length_map]; show pre.length + l.length + 1 ≤ j + 1; omega)
      refine v_Tbi (c_E hg u _ (j + 1) [] h7) ?_
      rintro x w ⟨h8, h9⟩
      have hF := v_F_tr h1 (v_F_tr h4 (v_F_tr h5 h8))
      have hok2 := g_E_ok hg (j + 1) [] (by omega)
      rcases h9 with ⟨b1, rfl, b3⟩ | ⟨b1, b2, b3⟩
      · rw [if_neg (by decide), b1]
        obtain ⟨-, d, e1, e2, -⟩ := hok2.2.2 b1
        have hj2 := hok2.2.1
        generalize (g_E g (j + 1, [])).2 = st at b3 e1 e2 hj2 ⊢
        obtain ⟨j2, l2⟩ := st
        dsimp only at e1 e2 hj2 ⊢
        rw [List.nil_append] at e1
        have hb2 := b3.2.2.2.2.2
        dsimp only at hb2
        rw [List.length_append, List.length_append, List.length_map] at hb2
        have hb3 : pre.length + l.length + 1 + l2.length ≤ j2 := hb2
        refine v_Tbi (c_addw (c_R_W b3) 40000 (by rw [List.length_append, List.length_append, List.length_append, List.length_map, List.length_map]; show pre.length + l.length + 1 + l2.length < 61; omega)) ?_
        rintro _ y ⟨h10, h11⟩
        have hlen2 := h11.2.2.2.1
        have h12 : c_W g y ((pre ++ l.map g_en) ++ 30000 :: (l2.map g_en ++ [40000])) j2 := by
          have e : (pre ++ l.map g_en) ++ 30000 :: (l2.map g_en ++ [40000]) = pre ++ l.map g_en ++ [30000] ++ l2.map g_en ++ [40000] := by simp
          rw [e]
          exact h11
        refine v_Tbi (c_aim h12 hlen (by rw [List.length_append, List.length_map]; omega)) ?_
        rintro _ z ⟨h13, h14⟩
        refine v_Tret ⟨v_F_tr hF (v_F_tr h10 h13), Or.inl ⟨rfl, rfl, ?_⟩⟩
        have e2 : y.1 4 2 = Int32.ofNat (pre.length + l.length + l2.length + 2) := by
          rw [v_of (x := y.1 4 2) (by rw [hlen2]; omega), hlen2]
          simp only [List.length_append, List.length_map, List.length_cons, List.length_nil]
          congr 1
          omega
        try dsimp only
        unfold g_cl
        try dsimp only
        rw [if_neg hne, ← List.append_assoc, ← e2]
        exact h14
      · have hF2 := hF
        rcases b3 with rfl | ⟨rfl, hd⟩
        · rw [if_pos (by decide)]
          exact v_Tret ⟨hF, Or.inr ⟨b1, b2, Or.inl rfl⟩⟩
        · rw [if_neg (by decide)]
          refine v_Tbi (c_addf b2) ?_
          rintro _ y ⟨h10, h11⟩
          refine v_Tbi (c_aimf h11) ?_
          rintro _ z ⟨h12, h13⟩
          exact v_Tret ⟨v_F_tr hF (v_F_tr h10 h12), Or.inr ⟨b1, h13, Or.inr ⟨rfl, hd⟩⟩⟩
    · rw [if_neg hq, c_comes_f (b := 63) (i := j) (c_R_f a3) (by decide) hq, v_bi_some, if_pos (by decide)]
      refine v_Tbi (c_addw (c_R_W a3) 40000 (by rw [List.length_append, List.length_map]; omega)) ?_
      rintro _ u ⟨h5, h6⟩
      refine v_Tret ⟨v_F_tr h1 h5, Or.inl ⟨rfl, rfl, ?_⟩⟩
      unfold g_cl
      try dsimp only
      rw [if_pos rfl, ← List.append_assoc]
      exact h6
  · rw [if_neg (show ¬ (g_E g (i, [])).1 = true by rw [a1]; decide)]
    rcases a3 with rfl | ⟨rfl, hd⟩
    · rw [if_pos (by decide)]
      exact v_Tret ⟨h1, Or.inr ⟨rfl, a2, Or.inl rfl⟩⟩
    · have hs := g_dig_sp hd
      rw [if_neg (by decide), c_comes_f (b := 63) a2 (by decide) (fun z => by have z : _ = (63 : Int) := z; omega), v_bi_some, if_pos (by decide)]
      refine v_Tbi (c_addf a2) ?_
      rintro _ u ⟨h5, h6⟩
      exact v_Tret ⟨v_F_tr h1 h5, Or.inr ⟨rfl, h6, Or.inr ⟨rfl, hd⟩⟩⟩
def c_LP (g : Nat → Int32) (s : vS) (r : Bool × (Nat × List gL)) (x : Int32) (t : vS) : Prop := v_F c_pd s t ∧ ((r.1 = true ∧ x = 1 ∧ c_W g t (g_cls r.2.2) r.2.1) ∨ (r.1 = false ∧ x = 0 ∧ c_Rf g t r.2.1))
theorem c_cl_len {g : Nat → Int32} (hg : g_ltr g) {i : Nat} (hi : i ≤ 60) (a1 : (g_li g i).1 = true) (b : Nat) : (g_cl b (g_li g i).2.2).length ≤ (g_li g i).2.1 - i + 1 := by
  have hok := g_E_ok hg i [] hi
  unfold g_li at a1 ⊢
  by_cases h1 : (g_E g (i, [])).1 = true
  · rw [if_pos h1] at a1 ⊢
    obtain ⟨h2, d, h3, h4, -⟩ := hok.2.2 h1
    rw [List.nil_append] at h3
    by_cases h5 : (g (g_E g (i, [])).2.1).toInt = 63
    · rw [if_pos h5] at a1 ⊢
      have hj : (g_E g (i, [])).2.1 < 60 := g_lt hg (by omega)
      have hok2 := g_E_ok hg ((g_E g (i, [])).2.1 + 1) [] (by omega)
      obtain ⟨h6, e, h7, h8, -⟩ := hok2.2.2 a1
      rw [List.nil_append] at h7
      refine Nat.le_trans g_cl_len ?_
      try dsimp only
      rw [h3, h7]
      omega
    · rw [if_neg h5]
      unfold g_cl
      try dsimp only
      rw [if_pos rfl, List.length_append, List.length_map, h3]
      show d.length + 1 ≤ _
      omega
  · rw [if_neg h1] at a1
    cases a1
theorem c_len_of {g : Nat → Int32} (hg : g_ltr g) {i : Nat} {acc : List gL} (hi : i ≤ 60) (a1 : (g_li g i).1 = true) (hb : (g_cls acc).length + ([] : List (Int32 × Int32)).length ≤ i) : (g_cls (acc ++ [(g_li g i).2.2])).length ≤ (g_li g i).2.1 + 1 := by
  have h1 := c_cl_len hg hi a1 (g_cls acc).length
  have h2 := (g_li_ok hg hi).2.2 a1
  have h3 : (g_cls acc).length ≤ i := hb
  rw [g_cls_snoc, List.length_append]
  omega
theorem c_linesL {g : Nat → Int32} (hg : g_ltr g) {s0 : vS} {mny : Nat} (hm0 : (s0.1 3 2).toInt = mny) : ∀ (m n : Nat) (v : Int32) (s : vS) (i : Nat) (acc : List gL), c_R g s (g_cls acc) (i, []) → v_F c_pd s0 s → 61 ≤ i + m → 0 ≤ v.toInt → 2 * v.toInt ≤ i → m < n → v_T (f_Rd_lines_L2 (fun s1 => some (0, s1)) n v s) (c_LP g s0 (g_ls g mny m i acc)) := by
  intro m
  induction m with
  | zero =>
    intro n v s i acc h h0 hm hv0 hv hn
    have := h.2.2.1
    dsimp only at this
    omega
  | succ m ih =>
    intro n v s i acc h h0 hm hv0 hv hn
    obtain ⟨n, rfl⟩ : ∃ q, n = q + 1 := ⟨n - 1, by omega⟩
    have hi60 : i ≤ 60 := h.2.2.1
    show v_T (f_Rd_lines_L2b (fun s1 => some (0, s1)) (f_Rd_lines_L2 (fun s1 => some (0, s1)) n) v s) _
    unfold f_Rd_lines_L2b
    rw [if_neg (by omega)]
    refine v_Tbi (c_line hg h) ?_
    rintro r t ⟨h1, h2⟩
    have hF := v_F_tr h0 h1
    have hmt : (t.1 3 2).toInt = mny := by rw [(hF 3 2 (by unfold c_pd; omega)).1]; exact hm0
    have hok := g_li_ok hg hi60
    have hb := h.2.2.2.2.2
    dsimp only at hb
    have e : g_ls g mny (m + 1) i acc = if (g_li g i).1 = true then (if (g (g_li g i).2.1).toInt = 59 then g_ls g mny m ((g_li g i).2.1 + 1) (acc ++ [(g_li g i).2.2]) else if mny ≤ (g_li g i).2.1 then (true, ((g_li g i).2.1, acc ++ [(g_li g i).2.2])) else (false, ((g_li g i).2.1, acc))) else (false, ((g_li g i).2.1, acc)) := rfl
    rw [e]
    rcases h2 with ⟨a1, rfl, a3⟩ | ⟨a1, a2, a3⟩
    · rw [if_pos a1, if_neg (by decide)]
      have hj := hok.2.2 a1
      have hpl := a3.2.1
      rw [← g_cls_snoc] at a3
      by_cases hq : (g (g_li g i).2.1).toInt = 59
      · rw [if_pos hq]
        have hj6 : (g_li g i).2.1 < 60 := g_lt hg (by omega)
        have hlt : (t.1 3 3).toInt < (t.1 3 2).toInt := by
          rw [hpl, hmt]
          have h5 := a3.1 (g_li g i).2.1
          unfold c_let at h5
          by_cases h6 : (t.1 3 2).toInt ≤ ((g_li g i).2.1 : Int) ∨ 60 ≤ (g_li g i).2.1
          · rw [if_pos h6] at h5
            rw [h5] at hq
            exact absurd hq (by decide)
          · omega
        rw [if_pos hlt, c_comes_t (b := 59) (c_W_f a3) (by decide) hq, v_bi_some, if_neg (by decide)]
        obtain ⟨h5, h6⟩ := c_advw a3 hj6
        refine ih n (v + 1) _ ((g_li g i).2.1 + 1) (acc ++ [(g_li g i).2.2]) (c_W_R h5 ?_) (v_F_tr hF h6) (by omega) (by rw [v_inc (by omega)]; omega) (by rw [v_inc (by omega)]; omega) (by omega)
        exact c_len_of hg hi60 a1 hb
      · rw [if_neg hq]
        by_cases hl : mny ≤ (g_li g i).2.1
        · rw [if_pos hl, if_neg (by omega)]
          exact v_Tret ⟨hF, Or.inl ⟨rfl, rfl, a3⟩⟩
        · rw [if_neg hl, if_pos (by omega), c_comes_f (b := 59) (c_W_f a3) (by decide) hq, v_bi_some, if_pos (by decide)]
          exact v_Tret ⟨hF, Or.inr ⟨rfl, rfl, c_W_f a3⟩⟩
    · rw [if_neg (show ¬ (g_li g i).1 = true by rw [a1]; decide)]
      rcases a3 with rfl | ⟨rfl, hd⟩
      · rw [if_pos (by decide)]
        exact v_Tret ⟨hF, Or.inr ⟨rfl, rfl, a2⟩⟩
      · have hs := g_dig_sp hd
        have hlt : (t.1 3 3).toInt < (t.1 3 2).toInt := by
          rw [a2.2.1]
          have h5 := a2.1 (g_li g i).2.1
          unfold c_let at h5
          by_cases h6 : (t.1 3 2).toInt ≤ ((g_li g i).2.1 : Int) ∨ 60 ≤ (g_li g i).2.1
          · rw [if_pos h6] at h5
            rw [h5] at hs
            exact absurd hs (by decide)
          · omega
        rw [if_neg (by decide), if_pos hlt, c_comes_f (b := 59) a2 (by decide) (fun z => by have z : _ = (59 : Int) := z; omega), v_bi_some, if_pos (by decide)]
        exact v_Tret ⟨hF, Or.inr ⟨rfl, rfl, a2⟩⟩
theorem v_clip2 {N c : Int32} (h0 : 0 ≤ c.toInt) (hN : c.toInt ≤ N.toInt) : (if (0 : Int32) < (if N < c then N else c) then (if N < c then N else c) else 0) = c := by
  have h1 : ¬ N < c := fun q => by
    rw [Int32.lt_iff_toInt_lt] at q
    omega
  rw [if_neg h1]
  by_cases h2 : (0 : Int32) < c
  · rw [if_pos h2]
  · rw [if_neg h2]
    rw [Int32.lt_iff_toInt_lt] at h2
    have h3 : (0 : Int32).toInt = 0 := rfl
    apply Int32.toInt_inj.mp
    omega
def c_RP (g : Nat → Int32) (r : Bool × (Nat × List gL)) (x : Int32) (t : vS) : Prop := (r.1 = true ∧ x = -1 ∧ c_W g t (g_cls r.2.2) r.2.1) ∨ (r.1 = false ∧ x.toInt = r.2.1 ∧ r.2.1 ≤ 60)
theorem c_read {b : Nat} (hb : b = 1 ∨ b = 2) {c : Int32} {s : vS} (hc0 : 0 ≤ c.toInt) (hc : c.toInt ≤ 60) (hcb : c.toInt ≤ v_ln b) {g : Nat → Int32} (hg : ∀ j : Nat, g j = g_ab (if c.toInt ≤ (j : Int) then -1 else s.1 b j)) : v_T (f_Rd_read b c s) (fun x t => v_fr s t ∧ c_RP g (g_rd g c.toInt.toNat) x t) := by
  have hN : ∃ N : Int32, (if (60 : Int32) < Int32.ofNat (v_ln b) then 60 else Int32.ofNat (v_ln b)) = N ∧ c.toInt ≤ N.toInt := by
    rcases hb with rfl | rfl
    · exact ⟨60, rfl, hc⟩
    · exact ⟨3, rfl, hcb⟩
  obtain ⟨N, e1, e2⟩ := hN
  unfold f_Rd_read
  rw [e1, v_clip2 hc0 e2]
  refine v_Tlet ?_
  have hx : (v_w1 s 3 2 c).1 3 2 = c := v_w1_1.trans (if_pos ⟨rfl, rfl⟩)
  rw [hx]
  refine v_Tck ⟨by decide, by decide, hc0, (show (0 : Int) + c.toInt ≤ _ by omega), (show (0 : Int) + c.toInt ≤ _ by omega)⟩ (v_Tlet (v_Tlet ?_))
  have hf : v_fr s (v_w1 (v_cp1 (v_w1 s 3 2 c) b 0 7 0 c.toNatClampNeg) 3 3 0) := v_fr_w1 (v_fr_cp1 (v_fr_w1 v_fr_rf (by unfold v_sc; omega)) (fun j => by unfold v_sc; omega)) (by unfold v_sc; omega)
  refine v_Tbi (P := fun _ t => t = v_w1 (v_w1 (v_cp1 (v_w1 s 3 2 c) b 0 7 0 c.toNatClampNeg) 3 3 0) 4 2 0) (v_Tlet (v_Tret rfl)) ?_
  rintro _ t rfl
  have hf2 : v_fr s (v_w1 (v_w1 (v_cp1 (v_w1 s 3 2 c) b 0 7 0 c.toNatClampNeg) 3 3 0) 4 2 0) := v_fr_w1 hf (by unfold v_sc; omega)
  have hm : (v_w1 (v_w1 (v_cp1 (v_w1 s 3 2 c) b 0 7 0 c.toNatClampNeg) 3 3 0) 4 2 0).1 3 2 = c := by
    rw [v_w1_1, if_neg (by omega), v_w1_1, if_neg (by omega)]
    show (if (3 : Nat) = 7 ∧ 0 ≤ 2 ∧ 2 < 0 + c.toNatClampNeg then (v_w1 s 3 2 c).1 b (0 + (2 - 0)) else (v_w1 s 3 2 c).1 3 2) = c
    rw [if_neg (by omega)]
    exact hx
  have hcg : c_g g (v_w1 (v_w1 (v_cp1 (v_w1 s 3 2 c) b 0 7 0 c.toNatClampNeg) 3 3 0) 4 2 0) := fun j => by
    rw [hg j]
    unfold c_let
    rw [hm]
    by_cases h1 : c.toInt ≤ (j : Int)
    · rw [if_pos h1, if_pos (Or.inl h1)]
    · rw [if_neg h1, if_neg (by omega), v_w1_1, if_neg (by omega), v_w1_1, if_neg (by omega)]
      show _ = g_ab (if (7 : Nat) = 7 ∧ 0 ≤ j ∧ j < 0 + c.toNatClampNeg then (v_w1 s 3 2 c).1 b (0 + (j - 0)) else (v_w1 s 3 2 c).1 7 j)
      have e : c.toNatClampNeg = c.toInt.toNat := rfl
      rw [if_pos ⟨rfl, Nat.zero_le _, by rw [e]; omega⟩, Nat.zero_add, Nat.sub_zero, v_w1_1, if_neg (by omega)]
  have hR : c_R g (v_w1 (v_w1 (v_cp1 (v_w1 s 3 2 c) b 0 7 0 c.toNatClampNeg) 3 3 0) 4 2 0) (g_cls []) (0, []) := by
    refine ⟨hcg, ?_, by decide, ?_, g_row_nil, Nat.le_refl _⟩
    · rw [v_w1_1, if_neg (by omega), v_w1_1, if_pos ⟨rfl, rfl⟩]
      rfl
    · rw [v_w1_1, if_pos ⟨rfl, rfl⟩]
      rfl
  generalize v_w1 (v_w1 (v_cp1 (v_w1 s 3 2 c) b 0 7 0 c.toNatClampNeg) 3 3 0) 4 2 0 = u at hf2 hm hR ⊢
  unfold f_Rd_lines
  refine v_Tbi (c_linesL (c_g_ltr hR.1) (s0 := u) (mny := c.toInt.toNat) (by rw [hm]; omega) 61 4096 0 u 0 [] hR v_F_rf (by decide) (by decide) (by decide) (by decide)) ?_
  rintro x t ⟨h1, h2⟩
  have hF := v_fr_tr hf2 (v_F_fr h1 c_pd_sc)
  rcases h2 with ⟨a1, rfl, a3⟩ | ⟨a1, rfl, a3⟩
  · rw [if_neg (by decide)]
    exact v_Tret ⟨hF, Or.inl ⟨a1, rfl, a3⟩⟩
  · rw [if_pos (by decide)]
    exact v_Tret ⟨hF, Or.inr ⟨a1, a3.2.1, a3.2.2⟩⟩

