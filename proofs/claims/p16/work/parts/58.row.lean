/-! row: what both answer -/
theorem z_isShelf (b : Int32) (s : vS) : f_Ol_isShelf b s = some (v_b (0 ≤ b.toInt ∧ b.toInt ≤ 5), s) := by
  unfold f_Ol_isShelf
  by_cases h1 : b.toInt < 0
  · rw [if_pos h1, v_b_neg (by omega)]
  · rw [if_neg h1]
    by_cases h2 : 6 ≤ b.toInt
    · rw [if_pos h2, v_b_neg (by omega)]
    · rw [if_neg h2, v_b_pos (by omega)]
theorem z_isSort (b : Int32) (s : vS) : f_Sh_isSort b s = some (v_b (0 ≤ b.toInt ∧ b.toInt ≤ 4), s) := by
  unfold f_Sh_isSort
  by_cases h1 : b.toInt < 0
  · rw [if_pos h1, v_b_neg (by omega)]
  · rw [if_neg h1]
    by_cases h2 : 4 < b.toInt
    · rw [if_pos h2, v_b_neg (by omega)]
    · rw [if_neg h2, v_b_pos (by omega)]
theorem z_shelfAt (b : Int32) (s : vS) (h : 0 ≤ b.toInt ∧ b.toInt ≤ 5) : f_Ol_shelfAt b s = some (139 + 2 * b.toNatClampNeg, s) := by
  unfold f_Ol_shelfAt
  have hv : v_in b 6 := ⟨h.1, by omega⟩
  rw [if_neg (by omega), if_neg (by omega), if_pos hv, if_pos hv]
theorem z_in (b c d : Int32) (s : vS) : f_Md_in b c d s = some (v_b (c.toInt ≤ b.toInt ∧ b.toInt ≤ d.toInt), s) := by
  unfold f_Md_in
  by_cases h1 : b.toInt < c.toInt
  · rw [if_pos h1, v_b_neg (by omega)]
  · rw [if_neg h1]
    by_cases h2 : d.toInt < b.toInt
    · rw [if_pos h2, v_b_neg (by omega)]
    · rw [if_neg h2, v_b_pos (by omega)]
theorem z_MisShelf (b : Int32) (s : vS) : f_Md_isShelf b s = some (v_b (0 ≤ b.toInt ∧ b.toInt ≤ 5), s) := by
  unfold f_Md_isShelf
  rw [z_in, v_bi_some, if_pos v_b01]
  rfl
theorem z_takeRow_L (p : Nat) (k : vS → Option (Unit × vS)) : ∀ (m i n : Nat) (s : vS), i + m = 60 → m < n → f_Sh_takeRow_L12 p k n (Int32.ofNat i) s = k (s.1, fun b j => if b = p + 1 ∧ i ≤ j ∧ j < 60 then 0 else s.2 b j) := by
  intro m
  induction m with
  | zero =>
    intro i n s hi hn
    obtain ⟨n, rfl⟩ : ∃ q, n = q + 1 := ⟨n - 1, by omega⟩
    obtain rfl : i = 60 := by omega
    show f_Sh_takeRow_L12b p k (f_Sh_takeRow_L12 p k n) (Int32.ofNat 60) s = _
    unfold f_Sh_takeRow_L12b
    rw [if_pos (by decide)]
    refine congrArg k (v_st (fun b j => rfl) (fun b j => ?_))
    rw [if_neg (by omega)]
  | succ m ih =>
    intro i n s hi hn
    obtain ⟨n, rfl⟩ : ∃ q, n = q + 1 := ⟨n - 1, by omega⟩
    have e := v_oi (n := i) (by omega)
    show f_Sh_takeRow_L12b p k (f_Sh_takeRow_L12 p k n) (Int32.ofNat i) s = _
    unfold f_Sh_takeRow_L12b
    rw [if_neg (by omega), if_pos (show v_in (Int32.ofNat i) 60 from ⟨by omega, by omega⟩)]
    show f_Sh_takeRow_L12 p k n (Int32.ofNat i + 1) (v_w2 s (p + 1) (Int32.toNatClampNeg (Int32.ofNat i)) 0) = _
    rw [v_on1, ih (i + 1) n _ (by omega) (by omega), v_oc (by omega)]
    refine congrArg k (congrArg (Prod.mk s.1) (funext fun b => funext fun j => ?_))
    show (if b = p + 1 ∧ i + 1 ≤ j ∧ j < 60 then (0 : Int64) else if b = p + 1 ∧ j = i then 0 else s.2 b j) = if b = p + 1 ∧ i ≤ j ∧ j < 60 then 0 else s.2 b j
    by_cases h1 : b = p + 1 ∧ i + 1 ≤ j ∧ j < 60
    · rw [if_pos h1, if_pos (by omega)]
    · rw [if_neg h1]
      by_cases h2 : b = p + 1 ∧ j = i
      · rw [if_pos h2, if_pos (by omega)]
      · rw [if_neg h2, if_neg (by omega)]
theorem z_Mrow_L (p : Int32) (q : Nat) (hp : ((60 : Int32) * p + (60 : Int32)).toInt = 60 * q + 60) (hq : q < 6) (k : vS → Option (Int32 × vS)) : ∀ (m i n : Nat) (s : vS), i + m = 60 * q + 60 → m < n → f_Md_row_L54 p k n (Int32.ofNat i) s = k (s.1, fun b j => if b = 183 ∧ i ≤ j ∧ j < 60 * q + 60 then 0 else s.2 b j) := by
  intro m
  induction m with
  | zero =>
    intro i n s hi hn
    obtain ⟨n, rfl⟩ : ∃ q, n = q + 1 := ⟨n - 1, by omega⟩
    have e := v_oi (n := i) (by omega)
    show f_Md_row_L54b p k (f_Md_row_L54 p k n) (Int32.ofNat i) s = _
    unfold f_Md_row_L54b
    rw [if_pos (by omega)]
    refine congrArg k (v_st (fun b j => rfl) (fun b j => ?_))
    rw [if_neg (by omega)]
  | succ m ih =>
    intro i n s hi hn
    obtain ⟨n, rfl⟩ : ∃ q, n = q + 1 := ⟨n - 1, by omega⟩
    have e := v_oi (n := i) (by omega)
    show f_Md_row_L54b p k (f_Md_row_L54 p k n) (Int32.ofNat i) s = _
    unfold f_Md_row_L54b
    rw [if_neg (by omega), if_pos (show v_in (Int32.ofNat i) 360 from ⟨by omega, by omega⟩)]
    show f_Md_row_L54 p k n (Int32.ofNat i + 1) (v_w2 s 183 (Int32.toNatClampNeg (Int32.ofNat i)) 0) = _
    rw [v_on1, ih (i + 1) n _ (by omega) (by omega), v_oc (by omega)]
    refine congrArg k (congrArg (Prod.mk s.1) (funext fun b => funext fun j => ?_))
    show (if b = 183 ∧ i + 1 ≤ j ∧ j < 60 * q + 60 then (0 : Int64) else if b = 183 ∧ j = i then 0 else s.2 b j) = if b = 183 ∧ i ≤ j ∧ j < 60 * q + 60 then 0 else s.2 b j
    by_cases h1 : b = 183 ∧ i + 1 ≤ j ∧ j < 60 * q + 60
    · rw [if_pos h1, if_pos (by omega)]
    · rw [if_neg h1]
      by_cases h2 : b = 183 ∧ j = i
      · rw [if_pos h2, if_pos (by omega)]
      · rw [if_neg h2, if_neg (by omega)]
/-- what 'row' answers -/
def z_rowA (b c d : Int32) : Int32 := if 0 ≤ b.toInt ∧ b.toInt ≤ 5 then (if 0 ≤ c.toInt ∧ c.toInt ≤ 4 then (if d.toInt ≤ 60 then (if 0 ≤ d.toInt then 1 else (-14)) else (-1)) else (-1)) else (-1)
def z_clr (s : vS) (a i n : Nat) : vS := (s.1, fun b j => if b = a ∧ i ≤ j ∧ j < n then 0 else s.2 b j)
theorem v_let_eq {β : Type} {e : vS} {k : vS → Option β} : v_let e k = k e := rfl
theorem z_takeRow1 (a : Nat) (b c : Int32) (s : vS) : f_Sh_takeRow a b c s = f_Sh_takeRow_L12 a (fun s3 => some ((), s3)) 4096 0 (v_w1 (v_w1 s a 0 b) a 2 c) := by
  unfold f_Sh_takeRow
  rw [v_let_eq, v_let_eq]
theorem z_takeRow2 (a : Nat) (s : vS) (n : Nat) (hn : 60 < n) : f_Sh_takeRow_L12 a (fun s3 => some ((), s3)) n 0 s = some ((), z_clr s (a + 1) 0 60) := z_takeRow_L a (fun s3 => some ((), s3)) 60 0 n s rfl hn
theorem z_takeRow (a : Nat) (b c : Int32) (s : vS) : f_Sh_takeRow a b c s = some ((), z_clr (v_w1 (v_w1 s a 0 b) a 2 c) (a + 1) 0 60) := by
  rw [z_takeRow1, z_takeRow2 _ _ _ (by decide)]
theorem z_Ol_row (b c d : Int32) (s : vS) : f_Ol_row b c d s = some (z_rowA b c d, if z_rowA b c d = 1 then z_clr (v_w1 (v_w1 s (139 + 2 * b.toNatClampNeg) 0 c) (139 + 2 * b.toNatClampNeg) 2 d) (139 + 2 * b.toNatClampNeg + 1) 0 60 else s) := by
  unfold f_Ol_row z_rowA
  rw [z_isShelf, v_bi_some, v_bif]
  by_cases h1 : 0 ≤ b.toInt ∧ b.toInt ≤ 5
  · rw [if_pos h1, if_pos h1, z_isSort, v_bi_some, v_bif]
    by_cases h2 : 0 ≤ c.toInt ∧ c.toInt ≤ 4
    · rw [if_pos h2, if_pos h2]
      by_cases h3 : d.toInt ≤ 60
      · rw [if_pos h3, if_pos h3]
        by_cases h4 : 0 ≤ d.toInt
        · rw [if_pos h4, if_pos h4, z_shelfAt _ _ h1, v_bi_some, if_pos (v_shelves (v_ii h1.1 (by omega))).2, z_takeRow, v_bi_some, if_pos rfl]
        · rw [if_neg h4, if_neg h4, if_neg (by decide)]
      · rw [if_neg h3, if_neg h3, if_neg (by decide)]
    · rw [if_neg h2, if_neg h2, if_neg (by decide)]
  · rw [if_neg h1, if_neg h1, if_neg (by decide)]
theorem z_60 {p : Int32} (h1 : 0 ≤ p.toInt) (h2 : p.toInt ≤ 5) : (60 : Int32) * p = Int32.ofNat (60 * p.toNatClampNeg) ∧ ((60 : Int32) * p + (60 : Int32)).toInt = 60 * p.toNatClampNeg + 60 ∧ p.toNatClampNeg < 6 := by
  rcases s_rg_0_5 h1 h2 with rfl | rfl | rfl | rfl | rfl | rfl <;> exact ⟨rfl, rfl, by decide⟩
theorem z_Md_row (b c d : Int32) (s : vS) : f_Md_row b c d s = some (z_rowA b c d, if z_rowA b c d = 1 then z_clr (v_w1 (v_w1 s 181 b.toNatClampNeg ((-2) - c)) 182 b.toNatClampNeg d) 183 (60 * b.toNatClampNeg) (60 * b.toNatClampNeg + 60) else s) := by
  unfold f_Md_row z_rowA
  rw [z_MisShelf, v_bi_some, v_bif]
  by_cases h1 : 0 ≤ b.toInt ∧ b.toInt ≤ 5
  · rw [if_pos h1, if_pos h1, z_in, v_bi_some, v_bif]
    by_cases h2 : 0 ≤ c.toInt ∧ c.toInt ≤ 4
    · rw [if_pos h2, if_pos (show (0 : Int32).toInt ≤ c.toInt ∧ c.toInt ≤ (4 : Int32).toInt from h2)]
      by_cases h3 : d.toInt ≤ 60
      · rw [if_pos h3, if_pos h3]
        by_cases h4 : 0 ≤ d.toInt
        · have hv : v_in b 6 := ⟨h1.1, by omega⟩
          obtain ⟨e1, e2, e3⟩ := z_60 h1.1 h1.2
          rw [if_pos h4, if_pos h4, if_pos hv, if_pos rfl]
          show (if v_in b 6 then f_Md_row_L54 b (fun s11 => some (1, s11)) 4096 ((60 : Int32) * b) (v_w1 (v_w1 s 181 b.toNatClampNeg ((-2) - c)) 182 b.toNatClampNeg d) else none) = _
          rw [if_pos hv, e1]
          exact z_Mrow_L b b.toNatClampNeg e2 e3 (fun s11 => some (1, s11)) 60 (60 * b.toNatClampNeg) 4096 _ rfl (by decide)
        · rw [if_neg h4, if_neg h4, if_neg (by decide)]
      · rw [if_neg h3, if_neg h3, if_neg (by decide)]
    · rw [if_neg h2, if_neg (show ¬ ((0 : Int32).toInt ≤ c.toInt ∧ c.toInt ≤ (4 : Int32).toInt) from h2), if_neg (by decide)]
  · rw [if_neg h1, if_neg h1, if_neg (by decide)]
