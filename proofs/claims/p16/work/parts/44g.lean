/-! the class's reader reads as the grammar says -/
def v_F (P : Nat → Nat → Prop) (s t : vS) : Prop := ∀ a j, ¬ P a j → t.1 a j = s.1 a j ∧ t.2 a j = s.2 a j
theorem v_F_rf {P : Nat → Nat → Prop} {s : vS} : v_F P s s := fun _ _ _ => ⟨rfl, rfl⟩
theorem v_F_tr {P : Nat → Nat → Prop} {s t u : vS} (h1 : v_F P s t) (h2 : v_F P t u) : v_F P s u := fun a j h => ⟨(h2 a j h).1.trans (h1 a j h).1, (h2 a j h).2.trans (h1 a j h).2⟩
theorem v_F_w1 {P : Nat → Nat → Prop} {s t : vS} {a i : Nat} {x : Int32} (h : v_F P s t) (hs : P a i) : v_F P s (v_w1 t a i x) := fun b j hb => ⟨by
  rw [v_w1_1, if_neg (fun q => hb (by rw [q.1, q.2]; exact hs))]
  exact (h b j hb).1, (h b j hb).2⟩
theorem v_F_w2 {P : Nat → Nat → Prop} {s t : vS} {a i : Nat} {x : Int64} (h : v_F P s t) (hs : P a i) : v_F P s (v_w2 t a i x) := fun b j hb => ⟨(h b j hb).1, by
  rw [v_w2_2, if_neg (fun q => hb (by rw [q.1, q.2]; exact hs))]
  exact (h b j hb).2⟩
theorem v_F_cp1 {P : Nat → Nat → Prop} {s t : vS} {a sp b dp n : Nat} (h : v_F P s t) (hs : ∀ j, dp ≤ j → j < dp + n → P b j) : v_F P s (v_cp1 t a sp b dp n) := fun c j hc => ⟨by
  show (if c = b ∧ dp ≤ j ∧ j < dp + n then t.1 a (sp + (j - dp)) else t.1 c j) = _
  rw [if_neg (fun q => hc (by rw [q.1]; exact hs j q.2.1 q.2.2))]
  exact (h c j hc).1, (h c j hc).2⟩
theorem v_F_im {P Q : Nat → Nat → Prop} {s t : vS} (h : v_F P s t) (hq : ∀ a j, P a j → Q a j) : v_F Q s t := fun a j hb => h a j (fun p => hb (hq a j p))
theorem v_F_fr {P : Nat → Nat → Prop} {s t : vS} (h : v_F P s t) (hq : ∀ a j, P a j → v_sc a j) : v_fr s t := fun a j hb => h a j (fun p => hb (hq a j p))
def g_en (q : Int32 × Int32) : Int32 := if q.1.toInt = 1 then q.2 else if q.1.toInt = 2 then 10000 + q.2 else if q.1.toInt = 3 then 20033 else if q.1.toInt = 4 then 20095 else 20000 + q.1
theorem g_en_bin {c v : Int32} (h : g_bin c) : g_en (c, v) = 20000 + c := by
  obtain ⟨h1, h2⟩ := h
  unfold g_en
  try dsimp only
  rw [if_neg (by omega), if_neg (by omega), if_neg (by omega), if_neg (by omega)]
theorem g_ab_eq {x : Int32} {c : Int} (h : 0 ≤ c ∧ c < 128) : x.toInt = c ↔ (g_ab x).toInt = c := by
  unfold g_ab
  by_cases hx : 0 ≤ x.toInt ∧ x.toInt < 128
  · rw [if_pos hx]
  · rw [if_neg hx]
    have h0 : (-1 : Int32).toInt = -1 := rfl
    omega
theorem g_ab_id {x : Int32} (h : 0 ≤ (g_ab x).toInt) : g_ab x = x := by
  unfold g_ab at h ⊢
  by_cases hx : 0 ≤ x.toInt ∧ x.toInt < 128
  · rw [if_pos hx]
  · rw [if_neg hx] at h
    have h0 : (-1 : Int32).toInt = -1 := rfl
    omega
theorem g_name_ab {x : Int32} : g_name (g_ab x) = g_name x := by
  unfold g_name
  have h1 := g_ab_eq (x := x) (c := 100) (by omega)
  have h2 := g_ab_eq (x := x) (c := 110) (by omega)
  have h3 := g_ab_eq (x := x) (c := 116) (by omega)
  have h4 := g_ab_eq (x := x) (c := 120) (by omega)
  have h5 := g_ab_eq (x := x) (c := 121) (by omega)
  have h6 := g_ab_eq (x := x) (c := 122) (by omega)
  simp only [← h1, ← h2, ← h3, ← h4, ← h5, ← h6]
theorem g_dig_ab {x : Int32} : g_dig (g_ab x) = g_dig x := by
  unfold g_ab
  by_cases hx : 0 ≤ x.toInt ∧ x.toInt < 128
  · rw [if_pos hx]
  · rw [if_neg hx]
    have h0 : g_dig (-1) = false := by decide
    rw [h0]
    cases hd : g_dig x with
    | false => rfl
    | true =>
      have := g_dig_sp hd
      omega
/-- behind a sign: a part, then the sign's step -/
theorem g_ch_no {g : Nat → Int32} {P : gS → gR} {q : Int32 → Bool} {i : Nat} {l : List (Int32 × Int32)} (h : ¬ q (g i) = true) (k : Nat) : g_ch g P q k (i, l) = (true, (i, l)) := by
  cases k with
  | zero => rfl
  | succ k =>
    show (if q (g i) = true then g_th (P (i + 1, l)) (fun t => g_ch g P q k (t.1, t.2 ++ [(g i, 0)])) else (true, (i, l))) = _
    rw [if_neg h]
theorem g_ch_t {g : Nat → Int32} {P : gS → gR} {q : Int32 → Bool} {i k : Nat} {l : List (Int32 × Int32)} (h : q (g i) = true) (hr : (P (i + 1, l)).1 = true) : g_ch g P q (k + 1) (i, l) = g_ch g P q k ((P (i + 1, l)).2.1, (P (i + 1, l)).2.2 ++ [(g i, 0)]) := by
  show (if q (g i) = true then g_th (P (i + 1, l)) (fun t => g_ch g P q k (t.1, t.2 ++ [(g i, 0)])) else (true, (i, l))) = _
  rw [if_pos h]
  exact if_pos hr
theorem g_ch_f {g : Nat → Int32} {P : gS → gR} {q : Int32 → Bool} {i k : Nat} {l : List (Int32 × Int32)} (h : q (g i) = true) (hr : (P (i + 1, l)).1 = false) : g_ch g P q (k + 1) (i, l) = P (i + 1, l) := by
  show (if q (g i) = true then g_th (P (i + 1, l)) (fun t => g_ch g P q k (t.1, t.2 ++ [(g i, 0)])) else (true, (i, l))) = _
  rw [if_pos h]
  exact if_neg (by rw [hr]; decide)
/-! lines -/
abbrev gL : Type := List (Int32 × Int32) × List (Int32 × Int32)
def g_li (g : Nat → Int32) (i : Nat) : Bool × (Nat × gL) := if (g_E g (i, [])).1 = true then (if (g (g_E g (i, [])).2.1).toInt = 63 then ((g_E g ((g_E g (i, [])).2.1 + 1, [])).1, ((g_E g ((g_E g (i, [])).2.1 + 1, [])).2.1, ((g_E g (i, [])).2.2, (g_E g ((g_E g (i, [])).2.1 + 1, [])).2.2))) else (true, ((g_E g (i, [])).2.1, ([], (g_E g (i, [])).2.2)))) else (false, ((g_E g (i, [])).2.1, ([], [])))
def g_ls (g : Nat → Int32) (mny : Nat) : Nat → Nat → List gL → Bool × (Nat × List gL)
  | 0, i, acc => (false, (i, acc))
  | k + 1, i, acc => if (g_li g i).1 = true then (if (g (g_li g i).2.1).toInt = 59 then g_ls g mny k ((g_li g i).2.1 + 1) (acc ++ [(g_li g i).2.2]) else if mny ≤ (g_li g i).2.1 then (true, ((g_li g i).2.1, acc ++ [(g_li g i).2.2])) else (false, ((g_li g i).2.1, acc))) else (false, ((g_li g i).2.1, acc))
def g_rd (g : Nat → Int32) (mny : Nat) : Bool × (Nat × List gL) := g_ls g mny 61 0 []
/-- the class's steps of a line, from place b on -/
def g_cl (b : Nat) (ln : gL) : List Int32 := if ln.1 = [] then ln.2.map g_en ++ [40000] else ln.1.map g_en ++ (30000 + Int32.ofNat (b + ln.1.length + ln.2.length + 2)) :: (ln.2.map g_en ++ [40000])
def g_cls (l : List gL) : List Int32 := l.foldl (fun pre ln => pre ++ g_cl pre.length ln) []
theorem g_cls_snoc {l : List gL} {x : gL} : g_cls (l ++ [x]) = g_cls l ++ g_cl (g_cls l).length x := by
  unfold g_cls
  rw [List.foldl_append]
  rfl
theorem g_E_ne {g : Nat → Int32} (hg : g_ltr g) {i : Nat} (hi : i ≤ 60) (h : (g_E g (i, [])).1 = true) : ¬ (g_E g (i, [])).2.2 = [] := by
  obtain ⟨-, d, h1, -, h3⟩ := (g_E_ok hg i [] hi).2.2 h
  rw [h1, List.nil_append]
  intro h4
  rw [h4] at h3
  have h5 := h3 0
  cases h5
theorem g_li_ok {g : Nat → Int32} (hg : g_ltr g) {i : Nat} (hi : i ≤ 60) : i ≤ (g_li g i).2.1 ∧ (g_li g i).2.1 ≤ 60 ∧ ((g_li g i).1 = true → i < (g_li g i).2.1) := by
  have hok := g_E_ok hg i [] hi
  unfold g_li
  by_cases h1 : (g_E g (i, [])).1 = true
  · rw [if_pos h1]
    obtain ⟨h2, -⟩ := hok.2.2 h1
    by_cases h3 : (g (g_E g (i, [])).2.1).toInt = 63
    · rw [if_pos h3]
      have hj : (g_E g (i, [])).2.1 < 60 := g_lt hg (by omega)
      have hok2 := g_E_ok hg ((g_E g (i, [])).2.1 + 1) [] (by omega)
      exact ⟨by have := hok2.1; dsimp only; omega, hok2.2.1, fun _ => by have := hok2.1; dsimp only; omega⟩
    · rw [if_neg h3]
      exact ⟨hok.1, hok.2.1, fun _ => h2⟩
  · rw [if_neg h1]
    exact ⟨hok.1, hok.2.1, fun h => by cases h⟩
theorem g_cl_len {b : Nat} {ln : gL} : (g_cl b ln).length ≤ ln.1.length + ln.2.length + 2 := by
  unfold g_cl
  by_cases h : ln.1 = []
  · rw [if_pos h, List.length_append, List.length_map]
    show ln.2.length + 1 ≤ _
    omega
  · rw [if_neg h, List.length_append, List.length_cons, List.length_append, List.length_map, List.length_map]
    show ln.1.length + (ln.2.length + 1 + 1) ≤ _
    omega
