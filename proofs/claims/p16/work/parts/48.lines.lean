/-! the reference's lines, its texts -/
def m_cat (acc : List gL) : List (Int32 × Int32) := (acc.map (fun ln => ln.1 ++ ln.2)).flatten
def m_en (b : Nat) : List gL → List (Int × Int)
  | [] => []
  | ln :: r => ((b : Int) + ln.1.length, (b : Int) + ln.1.length + ln.2.length) :: m_en (b + ln.1.length + ln.2.length) r
theorem m_cat_snoc {acc : List gL} {ln : gL} : m_cat (acc ++ [ln]) = m_cat acc ++ (ln.1 ++ ln.2) := by
  unfold m_cat
  rw [List.map_append, List.flatten_append]
  simp
theorem m_en_len : ∀ (acc : List gL) (b : Nat), (m_en b acc).length = acc.length
  | [], b => rfl
  | ln :: r, b => by
    show (m_en _ r).length + 1 = r.length + 1
    rw [m_en_len r]
theorem m_en_snoc {ln : gL} : ∀ (acc : List gL) (b : Nat), m_en b (acc ++ [ln]) = m_en b acc ++ [((b : Int) + (m_cat acc).length + ln.1.length, (b : Int) + (m_cat acc).length + ln.1.length + ln.2.length)]
  | [], b => by
    show [_] = [_]
    have e : (m_cat []).length = 0 := rfl
    rw [e]
    simp
  | x :: r, b => by
    show _ :: m_en _ (r ++ [ln]) = _ :: (m_en _ r ++ _)
    rw [m_en_snoc r]
    have e : (m_cat (x :: r)).length = x.1.length + x.2.length + (m_cat r).length := by
      unfold m_cat
      simp [List.length_append, Nat.add_assoc]
    rw [e]
    congr 3
    simp only [Prod.mk.injEq]
    constructor
    · omega
    · omega
def m_pl (a j : Nat) : Prop := m_pd a j ∨ (a = 155 ∧ j = 10) ∨ ((a = 156 ∨ a = 157) ∧ 610 ≤ j)
theorem m_pd_pl : ∀ a j, m_pd a j → m_pl a j := fun a j h => Or.inl h
def m_ends (s : vS) : Nat → Int × Int := fun j => ((s.1 156 j).toInt, (s.1 157 j).toInt)
def m_T (g : Nat → Int32) (s : vS) (acc : List gL) (i : Nat) : Prop := m_R g s (m_cat acc) (i, []) 0 ∧ (s.1 155 10).toInt = acc.length ∧ g_row (m_ends s) 610 (m_en 0 acc) ∧ (m_cat acc).length ≤ i ∧ acc.length ≤ i
theorem m_R_pre {g : Nat → Int32} {s : vS} {pre : List (Int32 × Int32)} {i o : Nat} {l : List (Int32 × Int32)} (h : m_R g s pre (i, l) o) : m_R g s (pre ++ l) (i, []) o := by
  obtain ⟨h1, h2, h3, h4, h5, h6, h7⟩ := h
  refine ⟨h1, h2, h3, h4, h5, ?_, ?_⟩
  · rw [h6, List.length_append]
    show _ = (((pre.length + l.length : Nat) : Int)) + ((0 : Nat) : Int)
    try dsimp only
    omega
  · rw [List.append_nil]
    exact h7
theorem m_R_out {g : Nat → Int32} {s : vS} {pre : List (Int32 × Int32)} {st : gS} {o : Nat} (h : m_R g s pre st o) {a j : Nat} {x : Int32} (ha : 155 ≤ a ∧ a ≤ 157) : m_R g (v_w1 s a j x) pre st o := by
  obtain ⟨h1, h2, h3, h4, h5, h6, h7⟩ := h
  refine ⟨⟨?_, fun k => ?_⟩, ?_, h3, ?_, ?_, ?_, g_row_eq h7 (fun k _ _ => ?_)⟩
  · rw [v_w1_1, if_neg (by omega)]
    exact h1.1
  · rw [h1.2 k]
    unfold m_let
    rw [show (v_w1 s a j x).1 151 2 = s.1 151 2 from v_w1_1.trans (if_neg (by omega)), show (v_w1 s a j x).1 152 k = s.1 152 k from v_w1_1.trans (if_neg (by omega))]
  · rw [v_w1_1, if_neg (by omega)]
    exact h2
  · rw [v_w1_1, if_neg (by omega)]
    exact h4
  · rw [v_w1_1, if_neg (by omega)]
    exact h5
  · rw [v_w1_1, if_neg (by omega)]
    exact h6
  · try dsimp only
    rw [v_w1_1, if_neg (by omega), v_w1_1, if_neg (by omega)]
theorem m_Rf_out {g : Nat → Int32} {s : vS} {i i0 L0 : Nat} (h : m_Rf g s i i0 L0) {a j : Nat} {x : Int32} (ha : 155 ≤ a ∧ a ≤ 157) : m_Rf g (v_w1 s a j x) i i0 L0 := by
  obtain ⟨h1, h2, h3, h4, h5, h6⟩ := h
  refine ⟨⟨?_, fun k => ?_⟩, ?_, h3, ?_, ?_, ?_⟩
  · rw [v_w1_1, if_neg (by omega)]
    exact h1.1
  · rw [h1.2 k]
    unfold m_let
    rw [show (v_w1 s a j x).1 151 2 = s.1 151 2 from v_w1_1.trans (if_neg (by omega)), show (v_w1 s a j x).1 152 k = s.1 152 k from v_w1_1.trans (if_neg (by omega))]
  · rw [v_w1_1, if_neg (by omega)]
    exact h2
  · rw [v_w1_1, if_neg (by omega)]
    exact h4
  · rw [v_w1_1, if_neg (by omega)]
    exact h5
  · rw [v_w1_1, if_neg (by omega)]
    exact h6
set_option maxRecDepth 100000 in
theorem m_sh0 : (List.range 200).all (fun j => decide (vp_nar .short (Int16.toInt32 (Int32.toInt16 (Int32.ofNat j))) = Int32.ofNat j) && decide (vp_nar .short (Int32.ofNat j) = Int32.ofNat j)) = true := by decide +kernel
theorem m_sh {b : Int32} (h : 0 ≤ b.toInt ∧ b.toInt < 200) : vp_nar .short (Int16.toInt32 (Int32.toInt16 b)) = b ∧ vp_nar .short b = b := by
  have h1 := List.all_eq_true.mp m_sh0 b.toInt.toNat (List.mem_range.mpr (by omega))
  rw [Bool.and_eq_true, decide_eq_true_eq, decide_eq_true_eq, ← v_of h.1] at h1
  exact h1
set_option maxRecDepth 100000 in
theorem m_by1 : (List.range 128).all (fun j => decide (vp_nar .byte (Int32.ofNat j) = Int32.ofNat j)) = true := by decide +kernel
theorem m_by2 {b : Int32} (h : 0 ≤ b.toInt ∧ b.toInt < 128) : vp_nar .byte b = b := by
  have h1 := List.all_eq_true.mp m_by1 b.toInt.toNat (List.mem_range.mpr (by omega))
  rw [decide_eq_true_eq, ← v_of h.1] at h1
  exact h1
theorem m_610 {x : Int32} (h : 0 ≤ x.toInt ∧ x.toInt ≤ 200) : ((610 : Int32) + x).toInt = 610 + x.toInt := i32_add (x := 610) (show -2 ^ 31 ≤ (610 : Int) + x.toInt by omega) (show (610 : Int) + x.toInt < 2 ^ 31 by omega)
def m_LiQ (g : Nat → Int32) (acc : List gL) (s : vS) (r : Bool × (Nat × gL)) (t : vS) : Prop := v_F m_pl s t ∧ ((r.1 = true ∧ m_T g t (acc ++ [r.2.2]) r.2.1) ∨ (r.1 = false ∧ m_Rf g t r.2.1 0 0))
/-- a line's end is written, the lines are one more -/
theorem m_lend {g : Nat → Int32} {s0 s : vS} {acc : List gL} {ln : gL} {j : Nat} {k : Int32} (hk : k.toInt = acc.length) (h0 : v_F m_pl s0 s) (hR : m_R g s (m_cat acc) (j, ln.1 ++ ln.2) 0) (hE : g_row (m_ends s) 610 (m_en 0 acc)) (hB : (s.1 156 (610 + acc.length)).toInt = (m_cat acc).length + ln.1.length) (hl : (m_cat acc).length + (ln.1.length + ln.2.length) ≤ j) (ha : acc.length + 1 ≤ j) (hm : (s.1 155 10).toInt = acc.length) : v_T (if v_in ((610 : Int32) + k) 671 then (v_let (v_w1 s 157 (Int32.toNatClampNeg ((610 : Int32) + k)) (vp_nar .short (Int16.toInt32 (Int32.toInt16 (s.1 151 6))))) (fun s6 => (v_let (v_w1 s6 155 10 ((s6.1 155 10) + (1 : Int32))) (fun s7 => (some ((), s7)))))) else none) (fun _ t => v_F m_pl s0 t ∧ m_T g t (acc ++ [ln]) j) := by
  have hj60 : j ≤ 60 := hR.2.2.1
  have e1 := m_610 (x := k) ⟨by omega, by omega⟩
  have e2 : ((610 : Int32) + k).toNatClampNeg = 610 + acc.length := by rw [v_nc, e1]; omega
  have hlaid := hR.2.2.2.2.2.1
  dsimp only at hlaid
  rw [List.length_append] at hlaid
  have e3 := (m_sh (b := s.1 151 6) ⟨by omega, by omega⟩).1
  rw [if_pos ⟨by omega, by omega⟩, e2, e3]
  refine v_Tlet (v_Tlet (v_Tret ⟨v_F_w1 (v_F_w1 h0 (by unfold m_pl; omega)) (by unfold m_pl; omega), ?_, ?_, ?_, ?_, ?_⟩))
  · have h1 := m_R_out (a := 155) (j := 10) (x := (v_w1 s 157 (610 + acc.length) (s.1 151 6)).1 155 10 + 1) (m_R_out (a := 157) (j := 610 + acc.length) (x := s.1 151 6) hR (by omega)) (by omega)
    rw [m_cat_snoc]
    exact m_R_pre h1
  · rw [v_w1_1, if_pos ⟨rfl, rfl⟩, v_w1_1, if_neg (by omega), v_inc (by omega), List.length_append]
    show _ = ((acc.length + 1 : Nat) : Int)
    omega
  · rw [m_en_snoc]
    refine g_row_add hE ?_ (fun q hq _ => ?_)
    · rw [m_en_len]
      unfold m_ends
      rw [v_w1_1, if_neg (by omega), v_w1_1, if_neg (by omega), v_w1_1, if_neg (by omega), v_w1_1, if_pos ⟨rfl, rfl⟩, hB, hlaid]
      congr 1
      · omega
      · omega
    · rw [m_en_len] at hq
      unfold m_ends
      rw [v_w1_1, if_neg (by omega), v_w1_1, if_neg (by omega), v_w1_1, if_neg (by omega), v_w1_1, if_neg (by omega)]
  · rw [m_cat_snoc, List.length_append, List.length_append]
    exact hl
  · rw [List.length_append]
    exact ha
theorem m_lendf {g : Nat → Int32} {s0 s : vS} {i i0 L0 : Nat} {k : Int32} (hk : 0 ≤ k.toInt ∧ k.toInt ≤ 60) (h0 : v_F m_pl s0 s) (hR : m_Rf g s i i0 L0) (hL : L0 ≤ i0) : v_T (if v_in ((610 : Int32) + k) 671 then (v_let (v_w1 s 157 (Int32.toNatClampNeg ((610 : Int32) + k)) (vp_nar .short (Int16.toInt32 (Int32.toInt16 (s.1 151 6))))) (fun s6 => (v_let (v_w1 s6 155 10 ((s6.1 155 10) + (1 : Int32))) (fun s7 => (some ((), s7)))))) else none) (fun _ t => v_F m_pl s0 t ∧ m_Rf g t i 0 0) := by
  have e1 := m_610 (x := k) ⟨by omega, by omega⟩
  have e2 : ((610 : Int32) + k).toNatClampNeg = 610 + k.toInt.toNat := by rw [v_nc, e1]; omega
  rw [if_pos ⟨by omega, by omega⟩, e2]
  refine v_Tlet (v_Tlet (v_Tret ⟨v_F_w1 (v_F_w1 h0 (by unfold m_pl; omega)) (by unfold m_pl; omega), ?_⟩))
  exact m_Rf_up (m_Rf_out (a := 155) (m_Rf_out (a := 157) hR (by omega)) (by omega)) (by omega)
theorem m_line {g : Nat → Int32} (hg : g_ltr g) {s : vS} {acc : List gL} {i : Nat} (h : m_T g s acc i) : v_T (f_Md_line s) (fun _ t => m_LiQ g acc s (g_li g i) t) := by
  obtain ⟨hR, hm, hE, hc, ha⟩ := h
  have hi60 : i ≤ 60 := hR.2.2.1
  have e1 := m_610 (x := s.1 155 10) ⟨by omega, by omega⟩
  have e2 : ((610 : Int32) + s.1 155 10).toNatClampNeg = 610 + acc.length := by rw [v_nc, e1]; omega
  have hlaid := hR.2.2.2.2.2.1
  dsimp only at hlaid
  have hlaid2 : (s.1 151 6).toInt = (m_cat acc).length := by rw [hlaid]; rfl
  have hok := g_E_ok hg i [] hi60
  unfold f_Md_line g_li
  rw [if_pos (show v_in ((610 : Int32) + s.1 155 10) 671 from ⟨by omega, by omega⟩), (m_sh (b := s.1 151 6) ⟨by omega, by omega⟩).1]
  refine v_Tlet ?_
  rw [e2]
  have hR1 : m_R g (v_w1 s 156 (610 + acc.length) (s.1 151 6)) (m_cat acc) (i, []) 0 := m_R_out hR (by omega)
  have hF1 : v_F m_pl s (v_w1 s 156 (610 + acc.length) (s.1 151 6)) := v_F_w1 v_F_rf (by unfold m_pl; omega)
  have hB1 : ((v_w1 s 156 (610 + acc.length) (s.1 151 6)).1 156 (610 + acc.length)).toInt = (m_cat acc).length := by rw [v_w1_1, if_pos ⟨rfl, rfl⟩]; exact hlaid2
  have hE1 : g_row (m_ends (v_w1 s 156 (610 + acc.length) (s.1 151 6))) 610 (m_en 0 acc) := g_row_eq hE (fun q _ hq => by
    rw [m_en_len] at hq
    unfold m_ends
    rw [v_w1_1, if_neg (by omega), v_w1_1, if_neg (by omega)])
  have hm1 : ((v_w1 s 156 (610 + acc.length) (s.1 151 6)).1 155 10).toInt = acc.length := by rw [v_w1_1, if_neg (by omega)]; exact hm
  generalize v_w1 s 156 (610 + acc.length) (s.1 151 6) = s1 at hR1 hF1 hB1 hE1 hm1 ⊢
  refine v_Tbi (m_E hg s1 (m_cat acc) i [] hR1 hc) ?_
  rintro _ t ⟨h1, h2⟩
  have hF2 := v_F_tr hF1 (v_F_im h1 m_pd_pl)
  have hk1 : ∀ u, v_F m_pd s1 u → (u.1 156 (610 + acc.length)).toInt = (m_cat acc).length ∧ g_row (m_ends u) 610 (m_en 0 acc) ∧ (u.1 155 10).toInt = acc.length := fun u hu => ⟨by rw [(hu 156 _ (by unfold m_pd; omega)).1]; exact hB1, g_row_eq hE1 (fun q _ _ => by
    unfold m_ends
    rw [(hu 156 _ (by unfold m_pd; omega)).1, (hu 157 _ (by unfold m_pd; omega)).1]), by rw [(hu 155 _ (by unfold m_pd; omega)).1]; exact hm1⟩
  rcases h2 with ⟨a1, a3⟩ | ⟨a1, a3⟩
  · obtain ⟨b1, d, b2, b3, -⟩ := hok.2.2 a1
    have hj60 := hok.2.1
    rw [if_pos a1]
    generalize (g_E g (i, [])).2 = st at a3 b1 b2 b3 hj60 ⊢
    obtain ⟨j, l⟩ := st
    dsimp only at b1 b2 b3 hj60 ⊢
    rw [List.nil_append] at b2
    subst b2
    rw [if_neg (by have := a3.2.2.2.1; omega), m_look (i := j) (m_R_f a3), v_bi_some]
    by_cases hq : (g j).toInt = 63
    · have hj : j < 60 := g_lt hg (by omega)
      rw [if_pos ((m_sign a3.1 (by omega)).mpr hq), if_pos hq]
      obtain ⟨c1, c2⟩ := m_adv a3 hj
      have hl1 := c1.2.2.2.2.2.1
      dsimp only at hl1
      refine v_Tlet ?_
      have hF3 := v_F_tr hF2 (v_F_im c2 m_pd_pl)
      have hk2 := hk1 _ (v_F_tr h1 c2)
      generalize v_w1 t 151 3 (t.1 151 3 + 1) = u at c1 hl1 hF3 hk2 ⊢
      rw [if_pos (show v_in ((610 : Int32) + s.1 155 10) 671 from ⟨by omega, by omega⟩), (m_sh (b := u.1 151 6) ⟨by omega, by omega⟩).1]
      refine v_Tlet ?_
      have hR2 : m_R g (v_w1 u 156 (610 + acc.length) (u.1 151 6)) (m_cat acc ++ l) (j + 1, []) 0 := m_R_pre (m_R_out c1 (by omega))
      have hF4 : v_F m_pl s (v_w1 u 156 (610 + acc.length) (u.1 151 6)) := v_F_w1 hF3 (by unfold m_pl; omega)
      have hB2 : ((v_w1 u 156 (610 + acc.length) (u.1 151 6)).1 156 (610 + acc.length)).toInt = (m_cat acc).length + l.length := by rw [v_w1_1, if_pos ⟨rfl, rfl⟩]; exact hl1
      have hE2 : g_row (m_ends (v_w1 u 156 (610 + acc.length) (u.1 151 6))) 610 (m_en 0 acc) := g_row_eq hk2.2.1 (fun q _ hq => by
        rw [m_en_len] at hq
        unfold m_ends
        rw [v_w1_1, if_neg (by omega), v_w1_1, if_neg (by omega)])
      have hm2 : ((v_w1 u 156 (610 + acc.length) (u.1 151 6)).1 155 10).toInt = acc.length := by rw [v_w1_1, if_neg (by omega)]; exact hk2.2.2
      generalize v_w1 u 156 (610 + acc.length) (u.1 151 6) = s2 at hR2 hF4 hB2 hE2 hm2 ⊢
      refine v_Tbi (m_E hg s2 (m_cat acc ++ l) (j + 1) [] hR2 (by rw [List.length_append]; show (m_cat acc).length + l.length + 0 ≤ j + 1; omega)) ?_
      rintro _ w ⟨h3, h4⟩
      have hok2 := g_E_ok hg (j + 1) [] (by omega)
      have hF5 := v_F_tr hF4 (v_F_im h3 m_pd_pl)
      rcases h4 with ⟨d1, d3⟩ | ⟨d1, d3⟩
      · obtain ⟨e3, e, e4, e5, -⟩ := hok2.2.2 d1
        have hj2 := hok2.2.1
        rw [d1]
        generalize (g_E g (j + 1, [])).2 = st at d3 e3 e4 e5 hj2 ⊢
        obtain ⟨j2, l2⟩ := st
        dsimp only at e3 e4 e5 hj2 ⊢
        rw [List.nil_append] at e4
        subst e4
        have hRw : m_R g w (m_cat acc) (j2, l ++ l2) 0 := by
          obtain ⟨x1, x2, x3, x4, x5, x6, x7⟩ := d3
          refine ⟨x1, x2, x3, x4, x5, ?_, ?_⟩
          · rw [x6, List.length_append, List.length_append]
            try dsimp only
            omega
          · dsimp only at x7 ⊢
            rw [← List.append_assoc]
            exact x7
        rw [← e2]
        refine v_Tm (m_lend (g := g) (s0 := s) (acc := acc) (ln := (l, l2)) (j := j2) (k := s.1 155 10) hm hF5 hRw (g_row_eq hE2 (fun q _ _ => by
          unfold m_ends
          rw [(h3 156 _ (by unfold m_pd; omega)).1, (h3 157 _ (by unfold m_pd; omega)).1])) (by rw [(h3 156 _ (by unfold m_pd; omega)).1]; exact hB2) (by dsimp only; omega) (by omega) (by rw [(h3 155 _ (by unfold m_pd; omega)).1]; exact hm2)) ?_
        rintro _ y ⟨y1, y2⟩
        exact ⟨y1, Or.inl ⟨rfl, y2⟩⟩
      · rw [← e2]
        refine v_Tm (m_lendf (g := g) (s0 := s) (k := s.1 155 10) ⟨by omega, by omega⟩ hF5 d3 (by rw [List.length_append]; show (m_cat acc).length + l.length + 0 ≤ j + 1; omega)) ?_
        rintro _ y ⟨y1, y2⟩
        exact ⟨y1, Or.inr ⟨d1, y2⟩⟩
    · rw [if_neg (fun z => hq ((m_sign a3.1 (by omega)).mp z)), if_neg hq]
      have hk2 := hk1 t h1
      rw [← e2]
      refine v_Tm (m_lend (g := g) (s0 := s) (acc := acc) (ln := ([], l)) (j := j) (k := s.1 155 10) hm hF2 a3 hk2.2.1 (by rw [hk2.1]; show _ = ((m_cat acc).length : Int) + ((0 : Nat) : Int); omega) (by show (m_cat acc).length + (0 + l.length) ≤ j; omega) (by omega) hk2.2.2) ?_
      rintro _ y ⟨y1, y2⟩
      exact ⟨y1, Or.inl ⟨rfl, y2⟩⟩
  · rw [if_neg (show ¬ (g_E g (i, [])).1 = true by rw [a1]; decide), if_pos (show 0 ≤ (t.1 151 4).toInt by rw [a3.2.2.2.1]; omega), ← e2]
    refine v_Tm (m_lendf (g := g) (s0 := s) (k := s.1 155 10) ⟨by omega, by omega⟩ hF2 a3 hc) ?_
    rintro _ y ⟨y1, y2⟩
    exact ⟨y1, Or.inr ⟨rfl, y2⟩⟩
def g_wl (ln : gL) : Prop := (ln.1 = [] ∨ ∀ n, r_run ln.1 n = some (n + 1)) ∧ ∀ n, r_run ln.2 n = some (n + 1)
theorem g_li_wl {g : Nat → Int32} (hg : g_ltr g) {i : Nat} (hi : i ≤ 60) (h : (g_li g i).1 = true) : g_wl (g_li g i).2.2 := by
  have hok := g_E_ok hg i [] hi
  unfold g_li at h ⊢
  by_cases h1 : (g_E g (i, [])).1 = true
  · rw [if_pos h1] at h ⊢
    obtain ⟨-, d, h2, -, h3⟩ := hok.2.2 h1
    rw [List.nil_append] at h2
    by_cases h4 : (g (g_E g (i, [])).2.1).toInt = 63
    · rw [if_pos h4] at h ⊢
      have hj : (g_E g (i, [])).2.1 < 60 := g_lt hg (by omega)
      obtain ⟨-, e, h5, -, h6⟩ := (g_E_ok hg ((g_E g (i, [])).2.1 + 1) [] (by omega)).2.2 h
      rw [List.nil_append] at h5
      exact ⟨Or.inr (by dsimp only; rw [h2]; exact h3), by dsimp only; rw [h5]; exact h6⟩
    · rw [if_neg h4]
      exact ⟨Or.inl rfl, by dsimp only; rw [h2]; exact h3⟩
  · rw [if_neg h1] at h
    cases h
theorem g_ls_wl {g : Nat → Int32} (hg : g_ltr g) {mny : Nat} : ∀ (k i : Nat) (acc : List gL), i ≤ 60 → (∀ ln, ln ∈ acc → g_wl ln) → (g_ls g mny k i acc).1 = true → ∀ ln, ln ∈ (g_ls g mny k i acc).2.2 → g_wl ln
  | 0, i, acc, _, _, h => by cases h
  | k + 1, i, acc, hi, ha, h => by
    have e : g_ls g mny (k + 1) i acc = if (g_li g i).1 = true then (if (g (g_li g i).2.1).toInt = 59 then g_ls g mny k ((g_li g i).2.1 + 1) (acc ++ [(g_li g i).2.2]) else if mny ≤ (g_li g i).2.1 then (true, ((g_li g i).2.1, acc ++ [(g_li g i).2.2])) else (false, ((g_li g i).2.1, acc))) else (false, ((g_li g i).2.1, acc)) := rfl
    rw [e] at h ⊢
    by_cases h1 : (g_li g i).1 = true
    · rw [if_pos h1] at h ⊢
      have ha2 : ∀ ln, ln ∈ acc ++ [(g_li g i).2.2] → g_wl ln := fun ln hl => by
        rcases List.mem_append.mp hl with q | q
        · exact ha ln q
        · rw [List.mem_singleton.mp q]
          exact g_li_wl hg hi h1
      by_cases h2 : (g (g_li g i).2.1).toInt = 59
      · rw [if_pos h2] at h ⊢
        have hj : (g_li g i).2.1 < 60 := g_lt hg (by omega)
        exact g_ls_wl hg k _ _ (by omega) ha2 h
      · rw [if_neg h2] at h ⊢
        by_cases h3 : mny ≤ (g_li g i).2.1
        · rw [if_pos h3] at h ⊢
          exact ha2
        · rw [if_neg h3] at h
          cases h
    · rw [if_neg h1] at h
      cases h
theorem g_rd_wl {g : Nat → Int32} (hg : g_ltr g) {mny : Nat} (h : (g_rd g mny).1 = true) : ∀ ln, ln ∈ (g_rd g mny).2.2 → g_wl ln := g_ls_wl hg 61 0 [] (by decide) (fun ln hl => by cases hl) h
def g_all (l : List (Int32 × Int32)) : Prop := ∀ q, q ∈ l → 0 ≤ q.1.toInt ∧ q.1.toInt < 128
theorem r_st_all {q : Int32 × Int32} {d e : Nat} (h : r_st q d = some e) : 0 ≤ q.1.toInt ∧ q.1.toInt < 128 := by
  unfold r_st at h
  by_cases h1 : q.1.toInt = 1
  · omega
  rw [if_neg h1] at h
  by_cases h2 : q.1.toInt = 2
  · omega
  rw [if_neg h2] at h
  by_cases h3 : q.1.toInt = 3 ∨ q.1.toInt = 4
  · omega
  rw [if_neg h3] at h
  by_cases h4 : 2 ≤ d ∧ 5 ≤ q.1.toInt ∧ q.1.toInt < 127
  · omega
  · rw [if_neg h4] at h
    cases h
theorem r_run_all : ∀ (l : List (Int32 × Int32)) (d e : Nat), r_run l d = some e → g_all l
  | [], d, e, _ => fun q hq => by cases hq
  | x :: l, d, e, h => fun q hq => by
    have h : (r_st x d).bind (fun e => r_run l e) = some e := h
    cases hx : r_st x d with
    | none => rw [hx] at h; cases h
    | some y =>
      rw [hx] at h
      rcases List.mem_cons.mp hq with z | z
      · rw [z]
        exact r_st_all hx
      · exact r_run_all l y e h q z
theorem g_wl_all {acc : List gL} (h : ∀ ln, ln ∈ acc → g_wl ln) : g_all (m_cat acc) := by
  intro q hq
  unfold m_cat at hq
  obtain ⟨x, hx, hqx⟩ := List.mem_flatten.mp hq
  obtain ⟨ln, hl, rfl⟩ := List.mem_map.mp hx
  obtain ⟨h1, h2⟩ := h ln hl
  rcases List.mem_append.mp hqx with z | z
  · rcases h1 with h1 | h1
    · rw [h1] at z
      cases z
    · exact r_run_all _ 0 _ (h1 0) q z
  · exact r_run_all _ 0 _ (h2 0) q z
theorem m_Tadv {g : Nat → Int32} {s : vS} {acc : List gL} {i : Nat} (h : m_T g s acc i) (hi : i < 60) : m_T g (v_w1 s 151 3 (s.1 151 3 + 1)) acc (i + 1) ∧ v_F m_pl s (v_w1 s 151 3 (s.1 151 3 + 1)) := by
  obtain ⟨h1, h2, h3, h4, h5⟩ := h
  obtain ⟨h6, h7⟩ := m_adv h1 hi
  refine ⟨⟨h6, ?_, g_row_eq h3 (fun q _ _ => ?_), by omega, by omega⟩, v_F_im h7 m_pd_pl⟩
  · rw [v_w1_1, if_neg (by omega)]
    exact h2
  · unfold m_ends
    rw [v_w1_1, if_neg (by omega), v_w1_1, if_neg (by omega)]
theorem m_lsL {g : Nat → Int32} (hg : g_ltr g) {mny : Nat} {s0 : vS} (hmny : (s0.1 151 2).toInt = mny) {b : Int32} {k : vS → Option (Int32 × vS)} {Q : Int32 → vS → Prop} : ∀ (m n : Nat) (s : vS) (i : Nat) (acc : List gL), m_T g s acc i → v_F m_pl s0 s → 61 ≤ i + m → m < n → (∀ t, (g_ls g mny m i acc).1 = true → m_T g t (g_ls g mny m i acc).2.2 (g_ls g mny m i acc).2.1 → mny ≤ (g_ls g mny m i acc).2.1 → v_F m_pl s0 t → v_T (k t) Q) → (∀ t, (g_ls g mny m i acc).1 = false → m_Rf g t (g_ls g mny m i acc).2.1 0 0 → v_F m_pl s0 t → v_T (k t) Q) → (∀ t acc2, (g_ls g mny m i acc).1 = false → m_T g t acc2 (g_ls g mny m i acc).2.1 → (g_ls g mny m i acc).2.1 < mny → v_F m_pl s0 t → v_T (k t) Q) → v_T (v_bi (f_Md_line s) (fun _ s6 => f_Md_readText_L32 b k n s6)) Q := by
  intro m
  induction m with
  | zero =>
    intro n s i acc h h0 hm
    have : i ≤ 60 := h.1.2.2.1
    omega
  | succ m ih =>
    intro n s i acc h h0 hm hn hA hB hC
    obtain ⟨n, rfl⟩ : ∃ q, n = q + 1 := ⟨n - 1, by omega⟩
    have hi60 : i ≤ 60 := h.1.2.2.1
    refine v_Tbi (m_line hg h) ?_
    rintro _ t ⟨h1, h2⟩
    have hF := v_F_tr h0 h1
    show v_T (f_Md_readText_L32b b k (f_Md_readText_L32 b k n) t) _
    unfold f_Md_readText_L32b
    have hok := g_li_ok hg hi60
    have e : g_ls g mny (m + 1) i acc = if (g_li g i).1 = true then (if (g (g_li g i).2.1).toInt = 59 then g_ls g mny m ((g_li g i).2.1 + 1) (acc ++ [(g_li g i).2.2]) else if mny ≤ (g_li g i).2.1 then (true, ((g_li g i).2.1, acc ++ [(g_li g i).2.2])) else (false, ((g_li g i).2.1, acc))) else (false, ((g_li g i).2.1, acc)) := rfl
    rw [e] at hA hB hC
    rcases h2 with ⟨a1, a3⟩ | ⟨a1, a3⟩
    · rw [if_pos a1] at hA hB hC
      have hj := hok.2.2 a1
      rw [if_neg (by have := a3.1.2.2.2.1; omega), m_look (i := (g_li g i).2.1) (m_R_f a3.1), v_bi_some]
      by_cases hq : (g (g_li g i).2.1).toInt = 59
      · rw [if_pos hq] at hA hB hC
        have hj6 : (g_li g i).2.1 < 60 := g_lt hg (by omega)
        rw [if_pos ((m_sign a3.1.1 (by omega)).mpr hq)]
        obtain ⟨h5, h6⟩ := m_Tadv a3 hj6
        exact v_Tlet (ih n _ _ _ h5 (v_F_tr hF h6) (by omega) (by omega) hA hB hC)
      · rw [if_neg hq] at hA hB hC
        rw [if_neg (fun z => hq ((m_sign a3.1.1 (by omega)).mp z))]
        by_cases hl : mny ≤ (g_li g i).2.1
        · rw [if_pos hl] at hA
          exact hA t rfl a3 hl hF
        · rw [if_neg hl] at hC
          exact hC t _ rfl a3 (by dsimp only; omega) hF
    · rw [if_neg (fun z => by rw [a1] at z; cases z)] at hA hB hC
      rw [if_pos (by rw [a3.2.2.2.1]; omega)]
      exact hB t rfl a3 hF
def m_pr2 (s : vS) : Nat → Int32 × Int32 := fun j => (s.1 153 j, s.1 154 j)
def m_px (p a j : Nat) : Prop := m_pl a j ∨ (a = 151 ∧ j = 2) ∨ (a = 155 ∧ j = p) ∨ ((a = 153 ∨ a = 154) ∧ 130 * p ≤ j ∧ j < 130 * p + 130) ∨ ((a = 156 ∨ a = 157) ∧ 61 * p ≤ j ∧ j < 61 * p + 61)
def m_text (s : vS) (p : Nat) (acc : List gL) : Prop := (s.1 155 p).toInt = acc.length ∧ acc.length ≤ 61 ∧ (m_cat acc).length ≤ 130 ∧ g_row (m_pr2 s) (130 * p) (m_cat acc) ∧ g_row (m_ends s) (61 * p) (m_en 0 acc) ∧ ∀ ln, ln ∈ acc → g_wl ln
theorem m_130 {b v : Int32} {p : Nat} (hb : b.toInt = p) (hp : p ≤ 10) (hv : 0 ≤ v.toInt ∧ v.toInt ≤ 200) : ((130 : Int32) * b + v).toInt = 130 * (p : Int) + v.toInt := by
  have e1 : ((130 : Int32) * b).toInt = 130 * b.toInt := i32_mul (x := 130) (show -2 ^ 31 ≤ (130 : Int) * b.toInt by omega) (show (130 : Int) * b.toInt < 2 ^ 31 by omega)
  rw [i32_add (by omega) (by omega), e1, hb]
theorem m_61 {b v : Int32} {p : Nat} (hb : b.toInt = p) (hp : p ≤ 10) (hv : 0 ≤ v.toInt ∧ v.toInt ≤ 200) : ((61 : Int32) * b + v).toInt = 61 * (p : Int) + v.toInt := by
  have e1 : ((61 : Int32) * b).toInt = 61 * b.toInt := i32_mul (x := 61) (show -2 ^ 31 ≤ (61 : Int) * b.toInt by omega) (show (61 : Int) * b.toInt < 2 ^ 31 by omega)
  rw [i32_add (by omega) (by omega), e1, hb]
theorem g_row_at {β : Type} {f : Nat → β} {b : Nat} {l : List β} (h : g_row f b l) {j : Nat} (hj : j < l.length) : f (b + j) = l[j] := h j _ (List.getElem?_eq_getElem hj)
theorem g_row_take {β : Type} {f f' : Nat → β} {b : Nat} {l : List β} {v : Nat} (h : g_row f b (l.take v)) (hv : v < l.length) (h1 : f' (b + v) = l[v]) (h2 : ∀ j, b ≤ j → j < b + v → f' j = f j) : g_row f' b (l.take (v + 1)) := by
  have e : (l.take v).length = v := by rw [List.length_take]; omega
  rw [List.take_succ, List.getElem?_eq_getElem hv]
  exact g_row_add h (by rw [e]; exact h1) (fun j hj hb => h2 j hb (by rw [e] at hj; exact hj))
theorem m_cp106 {b : Int32} {p : Nat} (hb : b.toInt = p) (hp : p ≤ 9) {l : List (Int32 × Int32)} (hl : l.length ≤ 130) (hall : g_all l) {k : vS → Option (Int32 × vS)} {Q : Int32 → vS → Prop} {s0 : vS} (hk : ∀ t, v_F (m_px p) s0 t → g_row (m_pr2 t) (130 * p) l → (∀ a j, ¬ (a = 153 ∨ a = 154) → t.1 a j = s0.1 a j) → v_T (k t) Q) : ∀ (m n : Nat) (v : Int32) (s : vS), v.toInt + m = l.length → 0 ≤ v.toInt → (s.1 151 6).toInt = l.length → g_row (m_pr2 s) 1300 l → g_row (m_pr2 s) (130 * p) (l.take v.toInt.toNat) → v_F (m_px p) s0 s → (∀ a j, ¬ (a = 153 ∨ a = 154) → s.1 a j = s0.1 a j) → m < n → v_T (f_Md_readText_L106 b k n v s) Q := by
  intro m
  induction m with
  | zero =>
    intro n v s hm hv hN h1 h2 h0 h3 hn
    obtain ⟨n, rfl⟩ : ∃ q, n = q + 1 := ⟨n - 1, by omega⟩
    show v_T (f_Md_readText_L106b b k (f_Md_readText_L106 b k n) v s) _
    unfold f_Md_readText_L106b
    rw [if_pos (by omega)]
    rw [List.take_of_length_le (by omega)] at h2
    exact hk s h0 h2 h3
  | succ m ih =>
    intro n v s hm hv hN h1 h2 h0 h3 hn
    obtain ⟨n, rfl⟩ : ∃ q, n = q + 1 := ⟨n - 1, by omega⟩
    show v_T (f_Md_readText_L106b b k (f_Md_readText_L106 b k n) v s) _
    unfold f_Md_readText_L106b
    have e1 := m_1300 (x := v) ⟨by omega, by omega⟩
    have e2 := m_130 (v := v) hb (by omega) ⟨by omega, by omega⟩
    have e3 : ((1300 : Int32) + v).toNatClampNeg = 1300 + v.toInt.toNat := by rw [v_nc, e1]; omega
    have e4 : ((130 : Int32) * b + v).toNatClampNeg = 130 * p + v.toInt.toNat := by rw [v_nc, e2]; omega
    have hv1 : v_in ((1300 : Int32) + v) 1430 := ⟨by omega, by omega⟩
    have hv2 : v_in ((130 : Int32) * b + v) 1430 := ⟨by omega, by omega⟩
    have hlt : v.toInt.toNat < l.length := by omega
    have hx := g_row_at h1 hlt
    have hx1 : s.1 153 (1300 + v.toInt.toNat) = (l[v.toInt.toNat]).1 := congrArg (fun q => q.1) hx
    have hx2 : s.1 154 (1300 + v.toInt.toNat) = (l[v.toInt.toNat]).2 := congrArg (fun q => q.2) hx
    have hby := hall _ (List.getElem_mem hlt)
    rw [if_neg (by omega), if_pos hv1, if_pos hv2, e3, e4, hx1, m_by2 hby]
    refine v_Tlet ?_
    rw [if_pos hv1, if_pos hv2]
    refine v_Tlet ?_
    have e5 : (v_w1 s 153 (130 * p + v.toInt.toNat) (l[v.toInt.toNat]).1).1 154 (1300 + v.toInt.toNat) = (l[v.toInt.toNat]).2 := by rw [v_w1_1, if_neg (by omega)]; exact hx2
    rw [e5]
    have hv' : (v + 1).toInt = v.toInt + 1 := v_inc (by omega)
    have hvn : (v + 1).toInt.toNat = v.toInt.toNat + 1 := by omega
    refine ih n (v + 1) _ (by omega) (by omega) ?_ ?_ ?_ (v_F_w1 (v_F_w1 h0 (by unfold m_px; omega)) (by unfold m_px; omega)) (fun a j ha => ?_) (by omega)
    · rw [v_w1_1, if_neg (by omega), v_w1_1, if_neg (by omega)]
      exact hN
    · refine g_row_eq h1 (fun j hj _ => ?_)
      unfold m_pr2
      rw [v_w1_1, if_neg (by omega), v_w1_1, if_neg (by omega), v_w1_1, if_neg (by omega), v_w1_1, if_neg (by omega)]
    · rw [hvn]
      refine g_row_take h2 hlt ?_ (fun j _ hj => ?_)
      · unfold m_pr2
        rw [v_w1_1, if_neg (by omega), v_w1_1, if_pos ⟨rfl, rfl⟩, v_w1_1, if_pos ⟨rfl, rfl⟩]
      · unfold m_pr2
        rw [v_w1_1, if_neg (by omega), v_w1_1, if_neg (by omega), v_w1_1, if_neg (by omega), v_w1_1, if_neg (by omega)]
    · rw [v_w1_1, if_neg (by omega), v_w1_1, if_neg (by omega)]
      exact h3 a j ha
theorem m_cp179 {b : Int32} {p : Nat} (hb : b.toInt = p) (hp : p ≤ 9) {l : List (Int × Int)} (hl : l.length ≤ 61) (hall : ∀ q, q ∈ l → (0 ≤ q.1 ∧ q.1 < 200) ∧ 0 ≤ q.2 ∧ q.2 < 200) {k : vS → Option (Int32 × vS)} {Q : Int32 → vS → Prop} {s0 : vS} (hk : ∀ t, v_F (m_px p) s0 t → g_row (m_ends t) (61 * p) l → (∀ a j, ¬ (a = 156 ∨ a = 157) → t.1 a j = s0.1 a j) → v_T (k t) Q) : ∀ (m n : Nat) (v : Int32) (s : vS), v.toInt + m = l.length → 0 ≤ v.toInt → (s.1 155 p).toInt = l.length → g_row (m_ends s) 610 l → g_row (m_ends s) (61 * p) (l.take v.toInt.toNat) → v_F (m_px p) s0 s → (∀ a j, ¬ (a = 156 ∨ a = 157) → s.1 a j = s0.1 a j) → m < n → v_T (f_Md_readText_L179 b k n v s) Q := by
  have hb0 : b.toNatClampNeg = p := by rw [v_nc, hb]; omega
  have hb1 : v_in b 11 := ⟨by omega, by omega⟩
  intro m
  induction m with
  | zero =>
    intro n v s hm hv hN h1 h2 h0 h3 hn
    obtain ⟨n, rfl⟩ : ∃ q, n = q + 1 := ⟨n - 1, by omega⟩
    show v_T (f_Md_readText_L179b b k (f_Md_readText_L179 b k n) v s) _
    unfold f_Md_readText_L179b
    rw [if_pos hb1, hb0, if_pos (by omega)]
    rw [List.take_of_length_le (by omega)] at h2
    exact hk s h0 h2 h3
  | succ m ih =>
    intro n v s hm hv hN h1 h2 h0 h3 hn
    obtain ⟨n, rfl⟩ : ∃ q, n = q + 1 := ⟨n - 1, by omega⟩
    show v_T (f_Md_readText_L179b b k (f_Md_readText_L179 b k n) v s) _
    unfold f_Md_readText_L179b
    have e1 := m_610 (x := v) ⟨by omega, by omega⟩
    have e2 := m_61 (v := v) hb (by omega) ⟨by omega, by omega⟩
    have e3 : ((610 : Int32) + v).toNatClampNeg = 610 + v.toInt.toNat := by rw [v_nc, e1]; omega
    have e4 : ((61 : Int32) * b + v).toNatClampNeg = 61 * p + v.toInt.toNat := by rw [v_nc, e2]; omega
    have hv1 : v_in ((610 : Int32) + v) 671 := ⟨by omega, by omega⟩
    have hv2 : v_in ((61 : Int32) * b + v) 671 := ⟨by omega, by omega⟩
    have hlt : v.toInt.toNat < l.length := by omega
    have hx := g_row_at h1 hlt
    have hx1 : (s.1 156 (610 + v.toInt.toNat)).toInt = (l[v.toInt.toNat]).1 := congrArg (fun q => q.1) hx
    have hx2 : (s.1 157 (610 + v.toInt.toNat)).toInt = (l[v.toInt.toNat]).2 := congrArg (fun q => q.2) hx
    have hby := hall _ (List.getElem_mem hlt)
    rw [if_pos hb1, hb0, if_neg (by omega), if_pos hv1, if_pos hv2, e3, e4, (m_sh (b := s.1 156 (610 + v.toInt.toNat)) (by rw [hx1]; exact hby.1)).2]
    refine v_Tlet ?_
    rw [if_pos hv1, if_pos hv2]
    have e5 : (v_w1 s 156 (61 * p + v.toInt.toNat) (s.1 156 (610 + v.toInt.toNat))).1 157 (610 + v.toInt.toNat) = s.1 157 (610 + v.toInt.toNat) := by rw [v_w1_1, if_neg (by omega)]
    rw [e5, (m_sh (b := s.1 157 (610 + v.toInt.toNat)) (by rw [hx2]; exact hby.2)).2]
    refine v_Tlet ?_
    have hv' : (v + 1).toInt = v.toInt + 1 := v_inc (by omega)
    have hvn : (v + 1).toInt.toNat = v.toInt.toNat + 1 := by omega
    refine ih n (v + 1) _ (by omega) (by omega) ?_ ?_ ?_ (v_F_w1 (v_F_w1 h0 (by unfold m_px; omega)) (by unfold m_px; omega)) (fun a j ha => ?_) (by omega)
    · rw [v_w1_1, if_neg (by omega), v_w1_1, if_neg (by omega)]
      exact hN
    · refine g_row_eq h1 (fun j hj _ => ?_)
      unfold m_ends
      rw [v_w1_1, if_neg (by omega), v_w1_1, if_neg (by omega), v_w1_1, if_neg (by omega), v_w1_1, if_neg (by omega)]
    · rw [hvn]
      refine g_row_take h2 hlt ?_ (fun j _ hj => ?_)
      · unfold m_ends
        rw [v_w1_1, if_neg (by omega), v_w1_1, if_pos ⟨rfl, rfl⟩, v_w1_1, if_pos ⟨rfl, rfl⟩, hx1, hx2]
      · unfold m_ends
        rw [v_w1_1, if_neg (by omega), v_w1_1, if_neg (by omega), v_w1_1, if_neg (by omega), v_w1_1, if_neg (by omega)]
    · rw [v_w1_1, if_neg (by omega), v_w1_1, if_neg (by omega)]
      exact h3 a j ha
theorem m_en_le : ∀ (acc : List gL) (b : Nat), b + (m_cat acc).length ≤ 130 → ∀ q, q ∈ m_en b acc → (0 ≤ q.1 ∧ q.1 < 200) ∧ 0 ≤ q.2 ∧ q.2 < 200
  | [], b, _, q, hq => by cases hq
  | ln :: r, b, hb, q, hq => by
    have e : (m_cat (ln :: r)).length = ln.1.length + ln.2.length + (m_cat r).length := by
      unfold m_cat
      simp [List.length_append, Nat.add_assoc]
    rw [e] at hb
    rcases List.mem_cons.mp hq with z | z
    · rw [z]
      try dsimp only
      omega
    · exact m_en_le r _ (by omega) q z
def m_RP (g : Nat → Int32) (p : Nat) (r : Bool × (Nat × List gL)) (s : vS) (x : Int32) (t : vS) : Prop := v_F (m_px p) s t ∧ t.1 151 2 = 0 ∧ ((r.1 = true ∧ x = -1 ∧ m_text t p r.2.2) ∨ (r.1 = false ∧ x.toInt = r.2.1 ∧ r.2.1 ≤ 60))
/-- what follows a text that was read without a fault -/
theorem m_keep {g : Nat → Int32} {b : Int32} {p : Nat} (hb : b.toInt = p) (hp : p ≤ 9) {s0 s : vS} {r : Bool × (Nat × List gL)} (hr : r.1 = true) (hwl : ∀ ln, ln ∈ r.2.2 → g_wl ln) (hT : m_T g s r.2.2 r.2.1) (h0 : v_F (m_px p) s0 s) : v_T (v_let (v_w1 s 151 2 0) (fun s9 => (if (s9.1 151 4).toInt < 0 then (f_Md_readText_L106 b (fun s11 => (if v_in b 11 then (v_let (v_w1 s11 155 (Int32.toNatClampNeg b) (s11.1 155 10)) (fun s13 => (f_Md_readText_L179 b (fun s14 => (some ((-1), s14))) 4096 0 s13))) else none)) 4096 0 s9) else (some ((s9.1 151 4), s9))))) (fun x t => m_RP g p r s0 x t) := by
  obtain ⟨hR, hm, hE, hc, ha⟩ := hT
  have h60 := hR.2.2.1
  dsimp only at h60
  have hlaid := hR.2.2.2.2.2.1
  have hlaid2 : (s.1 151 6).toInt = (m_cat r.2.2).length := by rw [hlaid]; rfl
  have hfault := hR.2.2.2.1
  have hrow := hR.2.2.2.2.2.2
  rw [List.append_nil] at hrow
  have hb0 : b.toNatClampNeg = p := by rw [v_nc, hb]; omega
  have hb1 : v_in b 11 := ⟨by omega, by omega⟩
  refine v_Tlet ?_
  rw [if_pos (by rw [v_w1_1, if_neg (by omega)]; exact hfault)]
  have hF1 : v_F (m_px p) s0 (v_w1 s 151 2 0) := v_F_w1 h0 (by unfold m_px; omega)
  have ht0 : (v_w1 s 151 2 0).1 151 2 = 0 := by rw [v_w1_1, if_pos ⟨rfl, rfl⟩]
  have hm1 : ((v_w1 s 151 2 0).1 155 10).toInt = r.2.2.length := by rw [v_w1_1, if_neg (by omega)]; exact hm
  have hl1 : ((v_w1 s 151 2 0).1 151 6).toInt = (m_cat r.2.2).length := by rw [v_w1_1, if_neg (by omega)]; exact hlaid2
  have hr1 : g_row (m_pr2 (v_w1 s 151 2 0)) 1300 (m_cat r.2.2) := g_row_eq hrow (fun j _ _ => by
    unfold m_pr2
    rw [v_w1_1, if_neg (by omega), v_w1_1, if_neg (by omega)])
  have hE1 : g_row (m_ends (v_w1 s 151 2 0)) 610 (m_en 0 r.2.2) := g_row_eq hE (fun j _ _ => by
    unfold m_ends
    rw [v_w1_1, if_neg (by omega), v_w1_1, if_neg (by omega)])
  generalize v_w1 s 151 2 0 = s1 at hF1 ht0 hm1 hl1 hr1 hE1 ⊢
  refine m_cp106 (s0 := s1) hb hp (l := m_cat r.2.2) (by omega) (g_wl_all hwl) (fun t hFt hrt hst => ?_) (m_cat r.2.2).length 4096 0 s1 (by show (0 : Int) + _ = _; omega) (by decide) hl1 hr1 (by show g_row _ _ (List.take 0 _); rw [List.take_zero]; exact g_row_nil) v_F_rf (fun _ _ _ => rfl) (by omega)
  rw [if_pos hb1, hb0]
  have e155 : t.1 155 10 = s1.1 155 10 := hst 155 10 (by omega)
  rw [e155]
  refine v_Tlet ?_
  have hF2 : v_F (m_px p) s0 (v_w1 t 155 p (s1.1 155 10)) := v_F_w1 (v_F_tr hF1 hFt) (by unfold m_px; omega)
  have hm2 : ((v_w1 t 155 p (s1.1 155 10)).1 155 p).toInt = r.2.2.length := by rw [v_w1_1, if_pos ⟨rfl, rfl⟩]; exact hm1
  have ht2 : (v_w1 t 155 p (s1.1 155 10)).1 151 2 = 0 := by rw [v_w1_1, if_neg (by omega), hst 151 2 (by omega)]; exact ht0
  have hr2 : g_row (m_pr2 (v_w1 t 155 p (s1.1 155 10))) (130 * p) (m_cat r.2.2) := g_row_eq hrt (fun j _ _ => by
    unfold m_pr2
    rw [v_w1_1, if_neg (by omega), v_w1_1, if_neg (by omega)])
  have hE2 : g_row (m_ends (v_w1 t 155 p (s1.1 155 10))) 610 (m_en 0 r.2.2) := g_row_eq hE1 (fun j _ _ => by
    unfold m_ends
    rw [v_w1_1, if_neg (by omega), v_w1_1, if_neg (by omega), hst 156 _ (by omega), hst 157 _ (by omega)])
  generalize v_w1 t 155 p (s1.1 155 10) = s2 at hF2 hm2 ht2 hr2 hE2 ⊢
  have hlen : (m_en 0 r.2.2).length = r.2.2.length := m_en_len _ _
  refine m_cp179 (s0 := s2) hb hp (l := m_en 0 r.2.2) (by omega) (m_en_le _ _ (by omega)) (fun u hFu hru hsu => ?_) (m_en 0 r.2.2).length 4096 0 s2 (by show (0 : Int) + _ = _; omega) (by decide) (by rw [hlen]; exact hm2) hE2 (by show g_row _ _ (List.take 0 _); rw [List.take_zero]; exact g_row_nil) v_F_rf (fun _ _ _ => rfl) (by omega)
  refine v_Tret ⟨v_F_tr hF2 hFu, by rw [hsu 151 2 (by omega)]; exact ht2, Or.inl ⟨hr, rfl, ?_, by omega, by omega, ?_, hru, hwl⟩⟩
  · rw [hsu 155 p (by omega)]
    exact hm2
  · refine g_row_eq hr2 (fun j _ _ => ?_)
    unfold m_pr2
    rw [hsu 153 j (by omega), hsu 154 j (by omega)]
theorem m_unkept {g : Nat → Int32} {b : Int32} {p : Nat} {s0 s : vS} {r : Bool × (Nat × List gL)} {K : vS → Option (Int32 × vS)} (hr : r.1 = false) (hT : m_Rf g s r.2.1 0 0) (h0 : v_F (m_px p) s0 s) : v_T (v_let (v_w1 s 151 2 0) (fun s9 => (if (s9.1 151 4).toInt < 0 then K s9 else (some ((s9.1 151 4), s9))))) (fun x t => m_RP g p r s0 x t) := by
  refine v_Tlet ?_
  have e : (v_w1 s 151 2 0).1 151 4 = s.1 151 4 := by rw [v_w1_1, if_neg (by omega)]
  have h4 := hT.2.2.2.1
  rw [e, if_neg (by omega)]
  exact v_Tret ⟨v_F_w1 h0 (by unfold m_px; omega), by rw [v_w1_1, if_pos ⟨rfl, rfl⟩], Or.inr ⟨hr, h4, hT.2.2.1⟩⟩
theorem m_readText {g : Nat → Int32} {b : Int32} {p : Nat} (hb : b.toInt = p) (hp : p ≤ 9) {s : vS} (hg : m_g g s) : v_T (f_Md_readText b s) (fun x t => m_RP g p (g_rd g (s.1 151 2).toInt.toNat) s x t) := by
  have hlt := m_g_ltr hg
  unfold f_Md_readText
  refine v_Tlet (v_Tlet (v_Tlet (v_Tlet (v_Tlet ?_))))
  have hF0 : v_F m_pl s (v_w1 (v_w1 (v_w1 (v_w1 (v_w1 s 151 3 0) 151 4 (-1)) 151 5 0) 151 6 0) 155 10 0) := v_F_w1 (v_F_w1 (v_F_w1 (v_F_w1 (v_F_w1 v_F_rf (by unfold m_pl m_pd; omega)) (by unfold m_pl m_pd; omega)) (by unfold m_pl m_pd; omega)) (by unfold m_pl m_pd; omega)) (by unfold m_pl m_pd; omega)
  have hT : m_T g (v_w1 (v_w1 (v_w1 (v_w1 (v_w1 s 151 3 0) 151 4 (-1)) 151 5 0) 151 6 0) 155 10 0) [] 0 := by
    refine ⟨⟨⟨?_, fun j => ?_⟩, ?_, by decide, ?_, ?_, ?_, ?_⟩, ?_, ?_, Nat.le_refl _, Nat.le_refl _⟩
    · rw [(hF0 151 2 (by unfold m_pl m_pd; omega)).1]
      exact hg.1
    · rw [hg.2 j]
      unfold m_let
      rw [(hF0 151 2 (by unfold m_pl m_pd; omega)).1, (hF0 152 j (by unfold m_pl m_pd; omega)).1]
    · rw [v_w1_1, if_neg (by omega), v_w1_1, if_neg (by omega), v_w1_1, if_neg (by omega), v_w1_1, if_neg (by omega), v_w1_1, if_pos ⟨rfl, rfl⟩]
      rfl
    · rw [v_w1_1, if_neg (by omega), v_w1_1, if_neg (by omega), v_w1_1, if_neg (by omega), v_w1_1, if_pos ⟨rfl, rfl⟩]
      decide
    · rw [v_w1_1, if_neg (by omega), v_w1_1, if_neg (by omega), v_w1_1, if_pos ⟨rfl, rfl⟩]
      rfl
    · rw [v_w1_1, if_neg (by omega), v_w1_1, if_pos ⟨rfl, rfl⟩]
      rfl
    · exact g_row_nil
    · rw [v_w1_1, if_pos ⟨rfl, rfl⟩]
      rfl
    · exact g_row_nil
  generalize v_w1 (v_w1 (v_w1 (v_w1 (v_w1 s 151 3 0) 151 4 (-1)) 151 5 0) 151 6 0) 155 10 0 = s1 at hF0 hT ⊢
  have hpx : ∀ {t : vS}, v_F m_pl s t → v_F (m_px p) s t := fun h => v_F_im h (fun a j q => Or.inl q)
  have hmny : (s1.1 151 2).toInt = ((s.1 151 2).toInt.toNat : Int) := by
    rw [(hF0 151 2 (by unfold m_pl m_pd; omega)).1]
    have := hg.1.1
    omega
  refine m_lsL hlt (s0 := s1) hmny 61 4096 s1 0 [] hT v_F_rf (by decide) (by decide) (fun t a1 a2 a3 a4 => ?_) (fun t a1 a2 a4 => ?_) (fun t acc2 a1 a2 a3 a4 => ?_)
  · have hF := hpx (v_F_tr hF0 a4)
    have h2 : (t.1 151 2).toInt = (s1.1 151 2).toInt := by rw [(a4 151 2 (by unfold m_pl m_pd; omega)).1]
    have h3 := a2.1.2.1
    dsimp only at h3
    rw [if_neg (by have := a2.1.2.2.2.1; omega), if_pos (by omega)]
    exact m_keep (g := g) (r := g_rd g (s.1 151 2).toInt.toNat) hb hp a1 (g_rd_wl hlt a1) a2 hF
  · have hF := hpx (v_F_tr hF0 a4)
    rw [if_pos (by rw [a2.2.2.2.1]; omega)]
    exact m_unkept (r := g_rd g (s.1 151 2).toInt.toNat) (b := b) a1 a2 hF
  · have hF := v_F_tr hF0 a4
    have h2 : (t.1 151 2).toInt = (s1.1 151 2).toInt := by rw [(a4 151 2 (by unfold m_pl m_pd; omega)).1]
    have h3 := a2.1.2.1
    dsimp only at h3
    rw [if_neg (by have := a2.1.2.2.2.1; omega), if_neg (by omega)]
    refine v_Tbi (m_faulty a2.1 (i0 := 0) (L0 := 0) (by have := a2.2.2.2.1; show (m_cat acc2).length + 0 + 0 ≤ _; omega)) ?_
    rintro _ u ⟨b1, b2⟩
    exact m_unkept (r := g_rd g (s.1 151 2).toInt.toNat) (b := b) a1 b2 (hpx (v_F_tr hF (v_F_im b1 m_pd_pl)))
