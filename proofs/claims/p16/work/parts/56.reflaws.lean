/-! the reference: laws from a row -/
theorem i64_add {x y : Int64} (h1 : -2 ^ 63 ≤ x.toInt + y.toInt) (h2 : x.toInt + y.toInt < 2 ^ 63) : (x + y).toInt = x.toInt + y.toInt := by
  rw [Int64.toInt_add]; exact Int.bmod_eq_of_le (by omega) (by omega)
theorem i64_of_i32 {x : Int32} : x.toInt64.toInt = x.toInt := Int32.toInt_toInt64 x
def g_C (b c d : Nat) : Nat → Int32 := fun j => if j = 0 then Int32.ofNat (120 + b) else if j = 1 then Int32.ofNat (60 + c) else if j = 2 then Int32.ofNat (48 + d) else -1
set_option maxRecDepth 100000 in
theorem g_C0 : (List.range 90).all (fun q => (g_rd (g_C (q / 30) (q / 10 % 3) (q % 10)) 3).1) = true := by decide +kernel
theorem g_C_ok {b c d : Nat} (hb : b < 3) (hc : c < 3) (hd : d < 10) : (g_rd (g_C b c d) 3).1 = true := by
  have h := List.all_eq_true.mp g_C0 (30 * b + 10 * c + d) (List.mem_range.mpr (by omega))
  rw [show (30 * b + 10 * c + d) / 30 = b by omega, show (30 * b + 10 * c + d) / 10 % 3 = c by omega, show (30 * b + 10 * c + d) % 10 = d by omega] at h
  exact h
theorem m_wL9 {s0 : vS} {p1 p2 p3 p4 : Int32} {k : vS → Option (Unit × vS)} {Q : Unit → vS → Prop} (hk : ∀ t, v_RI t → v_F m_A s0 t → t.1 151 14 = s0.1 151 14 → v_T (k t) Q) : ∀ (m n : Nat) (v : Int32) (s : vS), v.toInt + m = 3 → 0 ≤ v.toInt → v_RI s → v_F m_A s0 s → s.1 151 14 = s0.1 151 14 → m < n → v_T (f_Md_writeText_L9 p1 p2 p3 p4 k n v s) Q := by
  intro m
  induction m with
  | zero =>
    intro n v s hm hv hs h0 hl hn
    obtain ⟨n, rfl⟩ : ∃ q, n = q + 1 := ⟨n - 1, by omega⟩
    show v_T (f_Md_writeText_L9b p1 p2 p3 p4 k (f_Md_writeText_L9 p1 p2 p3 p4 k n) v s) _
    unfold f_Md_writeText_L9b
    rw [if_pos (by omega)]
    exact hk s hs h0 hl
  | succ m ih =>
    intro n v s hm hv hs h0 hl hn
    obtain ⟨n, rfl⟩ : ∃ q, n = q + 1 := ⟨n - 1, by omega⟩
    show v_T (f_Md_writeText_L9b p1 p2 p3 p4 k (f_Md_writeText_L9 p1 p2 p3 p4 k n) v s) _
    unfold f_Md_writeText_L9b
    have e1 := v_inc (x := v) (by omega)
    have h60 : v_in v 60 := ⟨hv, by omega⟩
    rw [if_neg (by omega)]
    exact v_Tck h60 (v_Tck h60 (v_PAw h0 (v_RI_n hs (by unfold m_N; omega)) (fun a1 b1 => ih n _ _ (by omega) (by omega) a1 b1 (by rw [v_w1_1, if_neg (by omega)]; exact hl) (by omega))))
theorem m_wL102 {s0 : vS} {p4 : Int32} {k : vS → Option (Unit × vS)} {Q : Unit → vS → Prop} (hk : ∀ t, v_RI t → v_F m_A s0 t → (∀ a j, a ≠ 152 → t.1 a j = s0.1 a j) → v_T (k t) Q) : ∀ (m n : Nat) (v : Int32) (s : vS), v.toInt + m = 3 → 0 ≤ v.toInt → v_RI s → v_F m_A s0 s → (∀ a j, a ≠ 152 → s.1 a j = s0.1 a j) → m < n → v_T (f_Md_writeText_L102 p4 k n v s) Q := by
  intro m
  induction m with
  | zero =>
    intro n v s hm hv hs h0 hl hn
    obtain ⟨n, rfl⟩ : ∃ q, n = q + 1 := ⟨n - 1, by omega⟩
    show v_T (f_Md_writeText_L102b p4 k (f_Md_writeText_L102 p4 k n) v s) _
    unfold f_Md_writeText_L102b
    rw [if_pos (by omega)]
    exact hk s hs h0 hl
  | succ m ih =>
    intro n v s hm hv hs h0 hl hn
    obtain ⟨n, rfl⟩ : ∃ q, n = q + 1 := ⟨n - 1, by omega⟩
    show v_T (f_Md_writeText_L102b p4 k (f_Md_writeText_L102 p4 k n) v s) _
    unfold f_Md_writeText_L102b
    have e1 := v_inc (x := v) (by omega)
    have h60 : v_in v 60 := ⟨hv, by omega⟩
    rw [if_neg (by omega)]
    exact v_Tck h60 (v_Tck h60 (v_PAw h0 (v_RI_n hs (by unfold m_N; omega)) (fun a1 b1 => ih n _ _ (by omega) (by omega) a1 b1 (fun a j ha => by rw [v_w1_1, if_neg (by omega)]; exact hl a j ha) (by omega))))
/-- the comparison is written on the tape, read into the next law's place, the tape is as it was -/
theorem m_wt {s0 s : vS} (h : v_RI s) (h0 : v_F m_A s0 s) (hl : s.1 151 14 = s0.1 151 14) (hl9 : (s.1 151 14).toInt ≤ 9) {b c d K w : Int32} (hb : 0 ≤ b.toInt ∧ b.toInt ≤ 2) (hc : 0 ≤ c.toInt ∧ c.toInt ≤ 2) (hd : 0 ≤ d.toInt ∧ d.toInt ≤ 9) (hK : K.toInt = 60 + c.toInt) (hw : 0 ≤ w.toInt ∧ w.toInt ≤ 60) (h152 : s.1 152 0 = (120 : Int32) + b) : v_T (v_let (v_w1 s 152 1 (vp_nar .byte K)) (fun s4 => (v_let (v_w1 s4 152 2 (vp_nar .byte (Int8.toInt32 (Int32.toInt8 ((48 : Int32) + d))))) (fun s5 => (v_let (v_w1 s5 151 2 3) (fun s6 => (v_bi (f_Md_readText (s6.1 151 14) s6) (fun _ s7 => (f_Md_writeText_L102 w (fun s8 => (v_let (v_w1 s8 151 2 w) (fun s9 => (some ((), s9))))) 4096 0 s7))))))))) (fun _ t => v_RI t ∧ v_F m_A s0 t ∧ t.1 151 14 = s0.1 151 14 ∧ ∃ acc, m_text t (s0.1 151 14).toInt.toNat acc) := by
  have e120 : ((120 : Int32) + b).toInt = 120 + b.toInt := i32_add (x := 120) (show -2 ^ 31 ≤ (120 : Int) + b.toInt by omega) (show (120 : Int) + b.toInt < 2 ^ 31 by omega)
  have e48 : ((48 : Int32) + d).toInt = 48 + d.toInt := i32_add (x := 48) (show -2 ^ 31 ≤ (48 : Int) + d.toInt by omega) (show (48 : Int) + d.toInt < 2 ^ 31 by omega)
  rw [m_by2 (b := K) ⟨by omega, by omega⟩, m_by (b := (48 : Int32) + d) ⟨by omega, by omega⟩]
  refine v_PAw h0 (v_RI_n h (by unfold m_N; omega)) (fun a1 b1 => ?_)
  refine v_PAw b1 (v_RI_n a1 (by unfold m_N; omega)) (fun a2 b2 => ?_)
  refine v_PAw b2 (v_RI_o a2 (Or.inl rfl) (fun _ => by decide) (fun q => by omega) (fun q => by omega) (fun q => by omega)) (fun a3 b3 => ?_)
  have hl3 : (v_w1 (v_w1 (v_w1 s 152 1 K) 152 2 ((48 : Int32) + d)) 151 2 3).1 151 14 = s0.1 151 14 := by
    rw [v_w1_1, if_neg (by omega), v_w1_1, if_neg (by omega), v_w1_1, if_neg (by omega)]
    exact hl
  have ht3 : (v_w1 (v_w1 (v_w1 s 152 1 K) 152 2 ((48 : Int32) + d)) 151 2 3).1 151 2 = 3 := by rw [v_w1_1, if_pos ⟨rfl, rfl⟩]
  have hg : m_g (g_C b.toInt.toNat c.toInt.toNat d.toInt.toNat) (v_w1 (v_w1 (v_w1 s 152 1 K) 152 2 ((48 : Int32) + d)) 151 2 3) := by
    refine ⟨by rw [ht3]; decide, fun j => ?_⟩
    unfold m_let g_C
    rw [ht3]
    have e3 : (3 : Int32).toInt = 3 := rfl
    rw [e3]
    have hab : ∀ {x : Int32}, 0 ≤ x.toInt → x.toInt < 128 → g_ab x = x := fun h1 h2 => if_pos ⟨h1, h2⟩
    by_cases j0 : j = 0
    · subst j0
      rw [if_pos rfl, if_neg (by omega), v_w1_1, if_neg (by omega), v_w1_1, if_neg (by omega), v_w1_1, if_neg (by omega), h152, hab (by omega) (by omega)]
      apply Int32.toInt_inj.mp
      rw [v_oi (by omega), e120]
      omega
    · rw [if_neg j0]
      by_cases j1 : j = 1
      · subst j1
        rw [if_pos rfl, if_neg (by omega), v_w1_1, if_neg (by omega), v_w1_1, if_neg (by omega), v_w1_1, if_pos ⟨rfl, rfl⟩, hab (by omega) (by omega)]
        apply Int32.toInt_inj.mp
        rw [v_oi (by omega), hK]
        omega
      · rw [if_neg j1]
        by_cases j2 : j = 2
        · subst j2
          rw [if_pos rfl, if_neg (by omega), v_w1_1, if_neg (by omega), v_w1_1, if_pos ⟨rfl, rfl⟩, hab (by omega) (by omega)]
          apply Int32.toInt_inj.mp
          rw [v_oi (by omega), e48]
          omega
        · rw [if_neg j2, if_pos (by omega)]
          decide
  generalize v_w1 (v_w1 (v_w1 s 152 1 K) 152 2 ((48 : Int32) + d)) 151 2 3 = s3 at a3 b3 hl3 ht3 hg ⊢
  refine v_Tbi (m_next a3 (by rw [hl3, ← hl]; exact hl9) hg) ?_
  rintro x t ⟨c1, c2, c3, c4, c5, c6⟩
  have hok : (g_rd (g_C b.toInt.toNat c.toInt.toNat d.toInt.toNat) (s3.1 151 2).toInt.toNat).1 = true := by
    rw [ht3]
    exact g_C_ok (by omega) (by omega) (by omega)
  have htx : ∃ acc, m_text t (s0.1 151 14).toInt.toNat acc := by
    rcases c6.2.2 with ⟨_, _, z⟩ | ⟨z, _⟩
    · rw [hl3] at z
      exact ⟨_, z⟩
    · rw [hok] at z
      cases z
  obtain ⟨acc, hta⟩ := htx
  have b4 := v_F_tr b3 c2
  refine m_wL102 (s0 := t) (fun u hu hfu hsame => ?_) 3 4096 0 t (by decide) (by decide) c1 v_F_rf (fun _ _ _ => rfl) (by decide)
  have b5 := v_F_tr b4 hfu
  refine v_PAw b5 (v_RI_o hu (Or.inl rfl) (fun _ => hw) (fun q => by omega) (fun q => by omega) (fun q => by omega)) (fun a6 b6 => v_Tret ⟨a6, b6, ?_, acc, ?_⟩)
  · rw [v_w1_1, if_neg (by omega), hsame 151 14 (by decide), c3]
    exact hl3
  · exact m_text_eq hta (by rw [v_w1_1, if_neg (by omega), hsame 155 _ (by decide)]) (fun j _ _ => ⟨by rw [v_w1_1, if_neg (by omega), hsame 153 _ (by decide)], by rw [v_w1_1, if_neg (by omega), hsame 154 _ (by decide)]⟩) (fun j _ _ => ⟨by rw [v_w1_1, if_neg (by omega), hsame 156 _ (by decide)], by rw [v_w1_1, if_neg (by omega), hsame 157 _ (by decide)]⟩)
theorem m_writeText {s : vS} (h : v_RI s) (hl9 : (s.1 151 14).toInt ≤ 9) {b c d : Int32} (hb : 0 ≤ b.toInt ∧ b.toInt ≤ 2) (hc : 0 ≤ c.toInt ∧ c.toInt ≤ 2) (hd : 0 ≤ d.toInt ∧ d.toInt ≤ 9) : v_T (f_Md_writeText b c d s) (fun _ t => v_RI t ∧ v_F m_A s t ∧ t.1 151 14 = s.1 151 14 ∧ ∃ acc, m_text t (s.1 151 14).toInt.toNat acc) := by
  have e120 : ((120 : Int32) + b).toInt = 120 + b.toInt := i32_add (x := 120) (show -2 ^ 31 ≤ (120 : Int) + b.toInt by omega) (show (120 : Int) + b.toInt < 2 ^ 31 by omega)
  unfold f_Md_writeText
  refine m_wL9 (s0 := s) (fun t ht hft hlt => ?_) 3 4096 0 s (by decide) (by decide) h v_F_rf rfl (by decide)
  rw [m_by (b := (120 : Int32) + b) ⟨by omega, by omega⟩]
  refine v_PAw hft (v_RI_n ht (by unfold m_N; omega)) (fun a1 b1 => ?_)
  have hl1 : (v_w1 t 152 0 ((120 : Int32) + b)).1 151 14 = s.1 151 14 := by rw [v_w1_1, if_neg (by omega)]; exact hlt
  have h152 : (v_w1 t 152 0 ((120 : Int32) + b)).1 152 0 = (120 : Int32) + b := by rw [v_w1_1, if_pos ⟨rfl, rfl⟩]
  refine v_Tif (fun c0 => ?_) (fun c0 => v_Tif (fun c1 => ?_) (fun c1 => ?_))
  · exact m_wt a1 b1 hl1 (by rw [hl1]; exact hl9) hb hc hd (by rw [c0]; rfl) h.2.1 h152
  · exact m_wt a1 b1 hl1 (by rw [hl1]; exact hl9) hb hc hd (by rw [c1]; rfl) h.2.1 h152
  · exact m_wt a1 b1 hl1 (by rw [hl1]; exact hl9) hb hc hd (by rw [show c.toInt = 2 by omega]; rfl) h.2.1 h152
theorem m_isLawRow (e : Int32) (s : vS) (he : 0 ≤ e.toInt ∧ e.toInt ≤ 354) : v_T (f_Md_isLawRow e s) (fun r t => t = s ∧ (r.toInt = 0 ∨ ((0 ≤ (Int64.toInt32 (s.2 183 (Int32.toNatClampNeg (e + (3 : Int32))))).toInt ∧ (Int64.toInt32 (s.2 183 (Int32.toNatClampNeg (e + (3 : Int32))))).toInt ≤ 2) ∧ (0 ≤ (Int64.toInt32 (s.2 183 (Int32.toNatClampNeg (e + (4 : Int32))))).toInt ∧ (Int64.toInt32 (s.2 183 (Int32.toNatClampNeg (e + (4 : Int32))))).toInt ≤ 2) ∧ (0 ≤ (Int64.toInt32 (s.2 183 (Int32.toNatClampNeg (e + (5 : Int32))))).toInt ∧ (Int64.toInt32 (s.2 183 (Int32.toNatClampNeg (e + (5 : Int32))))).toInt ≤ 9)))) := by
  have e1 : (e + (1 : Int32)).toInt = e.toInt + 1 := i32_add (y := 1) (show -2 ^ 31 ≤ e.toInt + 1 by omega) (show e.toInt + 1 < 2 ^ 31 by omega)
  have e2 : (e + (2 : Int32)).toInt = e.toInt + 2 := i32_add (y := 2) (show -2 ^ 31 ≤ e.toInt + 2 by omega) (show e.toInt + 2 < 2 ^ 31 by omega)
  have e3 : (e + (3 : Int32)).toInt = e.toInt + 3 := i32_add (y := 3) (show -2 ^ 31 ≤ e.toInt + 3 by omega) (show e.toInt + 3 < 2 ^ 31 by omega)
  have e4 : (e + (4 : Int32)).toInt = e.toInt + 4 := i32_add (y := 4) (show -2 ^ 31 ≤ e.toInt + 4 by omega) (show e.toInt + 4 < 2 ^ 31 by omega)
  have e5 : (e + (5 : Int32)).toInt = e.toInt + 5 := i32_add (y := 5) (show -2 ^ 31 ≤ e.toInt + 5 by omega) (show e.toInt + 5 < 2 ^ 31 by omega)
  unfold f_Md_isLawRow
  refine v_Tck ⟨by omega, by omega⟩ (v_Tin (fun _ => ?_) (fun _ => v_Tret ⟨rfl, Or.inl rfl⟩))
  refine v_Tck ⟨by omega, by omega⟩ (v_Tin (fun _ => ?_) (fun _ => v_Tret ⟨rfl, Or.inl rfl⟩))
  refine v_Tck ⟨by omega, by omega⟩ (v_Tin (fun _ => ?_) (fun _ => v_Tret ⟨rfl, Or.inl rfl⟩))
  refine v_Tck ⟨by omega, by omega⟩ (v_Tin (fun h3 => ?_) (fun _ => v_Tret ⟨rfl, Or.inl rfl⟩))
  refine v_Tck ⟨by omega, by omega⟩ (v_Tin (fun h4 => ?_) (fun _ => v_Tret ⟨rfl, Or.inl rfl⟩))
  refine v_Tck ⟨by omega, by omega⟩ (v_Tin (fun h5 => ?_) (fun _ => v_Tret ⟨rfl, Or.inl rfl⟩))
  exact v_Tret ⟨rfl, Or.inr ⟨h3, h4, h5⟩⟩
theorem v_l2i {x : Int64} (h : -2147483648 ≤ x.toInt ∧ x.toInt < 2147483648) : (Int64.toInt32 x).toInt = x.toInt := by
  rw [Int64.toInt_toInt32]; exact Int.bmod_eq_of_le (by omega) (by omega)
theorem m_lwL {s0 : vS} {b c d : Int32} (hb : 0 ≤ b.toInt ∧ b.toInt ≤ 5) (hd : d.toInt ≤ 10) {k1 : Int32 → vS → Option (Int32 × vS)} {k2 : vS → Option (Int32 × vS)} {Q : Int32 → vS → Prop} (hk1 : ∀ x t, v_RI t → v_F m_A s0 t → v_T (k1 x t) Q) (hk2 : ∀ t, v_RI t → v_F m_A s0 t → v_T (k2 t) Q) (hQ : ∀ x t, v_RI t → v_F m_A s0 t → Q x t) : ∀ (m n : Nat) (v : Int32) (s : vS), v.toInt + m = 10 → 0 ≤ v.toInt → v_RI s → v_F m_A s0 s → m < n → v_T (f_Md_laws_L58 b c d k1 k2 n v s) Q := by
  intro m
  induction m with
  | zero =>
    intro n v s hm hv hs h0 hn
    obtain ⟨n, rfl⟩ : ∃ q, n = q + 1 := ⟨n - 1, by omega⟩
    show v_T (f_Md_laws_L58b b c d k1 k2 (f_Md_laws_L58 b c d k1 k2 n) v s) _
    unfold f_Md_laws_L58b
    rw [if_pos (by omega)]
    exact hk2 s hs h0
  | succ m ih =>
    intro n v s hm hv hs h0 hn
    obtain ⟨n, rfl⟩ : ∃ q, n = q + 1 := ⟨n - 1, by omega⟩
    show v_T (f_Md_laws_L58b b c d k1 k2 (f_Md_laws_L58 b c d k1 k2 n) v s) _
    unfold f_Md_laws_L58b
    have e1 := v_inc (x := v) (by omega)
    have hbi : v_in b 6 := ⟨hb.1, by omega⟩
    have hz := hs.1.2.1 b.toNatClampNeg (by rw [v_nc]; omega)
    have hc1 := Int32.le_toInt c
    have hc2 := Int32.toInt_lt c
    have e6 : ((6 : Int32) * v).toInt = 6 * v.toInt := i32_mul (x := 6) (show -2 ^ 31 ≤ (6 : Int) * v.toInt by omega) (show (6 : Int) * v.toInt < 2 ^ 31 by omega)
    have eA : ((Int32.toInt64 c) + (Int32.toInt64 ((6 : Int32) * v))).toInt = c.toInt + 6 * v.toInt := by
      rw [i64_add (by rw [i64_of_i32, i64_of_i32]; omega) (by rw [i64_of_i32, i64_of_i32]; omega), i64_of_i32, i64_of_i32, e6]
    have eB : (((Int32.toInt64 c) + (Int32.toInt64 ((6 : Int32) * v))) + (5 : Int64)).toInt = c.toInt + 6 * v.toInt + 5 := by
      have e5 : (5 : Int64).toInt = 5 := rfl
      rw [i64_add (by rw [eA, e5]; omega) (by rw [eA, e5]; omega), eA, e5]
    generalize hA : (Int32.toInt64 c) + (Int32.toInt64 ((6 : Int32) * v)) = A at eA eB ⊢
    refine v_Tif (fun _ => hk2 s hs h0) (fun _ => v_Tif (fun _ => hk1 _ s hs h0) (fun hneg => v_Tck hbi (v_Tif (fun _ => hk1 _ s hs h0) (fun hpos => v_Tif (fun _ => hk1 _ s hs h0) (fun hl10 => ?_)))))
    have hA0 : 0 ≤ A.toInt := by
      by_cases hx : A.toInt < 0
      · refine absurd ?_ hneg
        have h1 : lg_cmp A 0 < 0 := (lg_cmp_lt A 0).mpr (by rw [Int64.lt_iff_toInt_lt]; exact hx)
        rw [Int32.lt_iff_toInt_lt] at h1
        exact h1
      · omega
    have hA5 : A.toInt + 5 < (s.1 182 b.toNatClampNeg).toInt := by
      by_cases hx : (s.1 182 b.toNatClampNeg).toInt ≤ A.toInt + 5
      · refine absurd ?_ hpos
        have h1 : 0 ≤ lg_cmp (A + 5) (Int32.toInt64 (s.1 182 b.toNatClampNeg)) := (lg_cmp_ge _ _).mpr (by rw [Int64.le_iff_toInt_le, i64_of_i32, eB]; omega)
        rw [Int32.le_iff_toInt_le] at h1
        exact h1
      · omega
    have eI : (Int64.toInt32 A).toInt = A.toInt := v_l2i ⟨by omega, by omega⟩
    have eE := (m_60b hb (c := Int64.toInt32 A) ⟨by omega, by omega⟩).2
    generalize hE : ((60 : Int32) * b) + (Int64.toInt32 A) = E at eE ⊢
    have hE2 : 0 ≤ E.toInt ∧ E.toInt ≤ 354 := ⟨by omega, by omega⟩
    have e_1 : (E + (1 : Int32)).toInt = E.toInt + 1 := i32_add (y := 1) (show -2 ^ 31 ≤ E.toInt + 1 by omega) (show E.toInt + 1 < 2 ^ 31 by omega)
    have e_2 : (E + (2 : Int32)).toInt = E.toInt + 2 := i32_add (y := 2) (show -2 ^ 31 ≤ E.toInt + 2 by omega) (show E.toInt + 2 < 2 ^ 31 by omega)
    have e_3 : (E + (3 : Int32)).toInt = E.toInt + 3 := i32_add (y := 3) (show -2 ^ 31 ≤ E.toInt + 3 by omega) (show E.toInt + 3 < 2 ^ 31 by omega)
    have e_4 : (E + (4 : Int32)).toInt = E.toInt + 4 := i32_add (y := 4) (show -2 ^ 31 ≤ E.toInt + 4 by omega) (show E.toInt + 4 < 2 ^ 31 by omega)
    have e_5 : (E + (5 : Int32)).toInt = E.toInt + 5 := i32_add (y := 5) (show -2 ^ 31 ≤ E.toInt + 5 by omega) (show E.toInt + 5 < 2 ^ 31 by omega)
    refine v_Tbi (m_isLawRow E s hE2) ?_
    rintro r _ ⟨rfl, hr⟩
    refine v_Tif (fun _ => v_Tret (hQ _ _ hs h0)) (fun hr0 => ?_)
    obtain ⟨r3, r4, r5⟩ := hr.resolve_left hr0
    refine v_Tck ⟨by omega, by omega⟩ (v_Tck ⟨by omega, by omega⟩ (v_Tck ⟨by omega, by omega⟩ ?_))
    have hl := hs.1.1
    refine v_Tbi (m_writeText hs (by omega) r3 r4 r5) ?_
    rintro _ t ⟨t1, t2, t3, acc, t4⟩
    refine v_Tck ⟨by omega, by omega⟩ (v_Tck ⟨by omega, by omega⟩ (v_Tck ⟨by omega, by omega⟩ ?_))
    refine v_Tbi (m_addLaw _ _ _ t t1 (by rw [t3]; omega) (by rw [t3]; exact t4)) ?_
    rintro _ u ⟨u1, u2, _⟩
    exact ih n _ u (by omega) (by omega) u1 (v_F_tr h0 (v_F_tr t2 u2)) (by omega)
theorem m_laws (b c d : Int32) (s : vS) (h : v_RI s) : v_T (f_Md_laws b c d s) (fun _ t => v_RI t ∧ v_F m_A s t) := by
  unfold f_Md_laws
  have hret : ∀ x : Int32, v_T (some (x, s)) (fun (_ : Int32) t => v_RI t ∧ v_F m_A s t) := fun x => v_Tret ⟨h, v_F_rf⟩
  refine v_TisShelf (fun hb => ?_) (fun _ => hret _)
  have hbi : v_in b 6 := ⟨hb.1, by omega⟩
  refine v_Tin (fun hd => ?_) (fun _ => hret _)
  have hd : 1 ≤ d.toInt ∧ d.toInt ≤ 10 := hd
  have hgo : v_T (f_Md_laws_L58 b c d (fun w9 s10 => (some (w9, s10))) (fun s11 => (some (d, s11))) 4096 0 s) (fun (_ : Int32) t => v_RI t ∧ v_F m_A s t) := m_lwL hb hd.2 (fun x t h1 h2 => v_Tret ⟨h1, h2⟩) (fun t h1 h2 => v_Tret ⟨h1, h2⟩) (fun x t h1 h2 => ⟨h1, h2⟩) 10 4096 0 s (by decide) (by decide) h v_F_rf (by decide)
  repeat' first
    | with_reducible exact hret _
    | exact hgo
    | ((with_reducible refine v_Tck ?_ ?_); (focus exact hbi))
    | with_reducible refine v_Tif (fun _ => ?_) (fun _ => ?_)
