/-! the reference: the calls that change laws, words, changes -/
def m_N (a j : Nat) : Prop := (a = 151 ∧ j < 40 ∧ ¬ (j = 2 ∨ j = 14 ∨ j = 23 ∨ j = 24 ∨ j = 36)) ∨ a = 152 ∨ (158 ≤ a ∧ a ≤ 166) ∨ (168 ≤ a ∧ a ≤ 178)
theorem m_N_A : ∀ a j, m_N a j → m_A a j := fun a j h => by unfold m_N at h; unfold m_A; omega
theorem v_RI_A {s t : vS} (h : v_RI s) (hf : v_F m_A s t) (a1 : 0 ≤ (t.1 151 14).toInt ∧ (t.1 151 14).toInt ≤ 10) (a3 : ∀ p, p < (t.1 151 14).toInt.toNat → ∃ acc, m_text t p acc) (h2 : 0 ≤ (t.1 151 2).toInt ∧ (t.1 151 2).toInt ≤ 60) (h3 : 0 ≤ (t.1 151 23).toInt ∧ 0 ≤ (t.1 151 24).toInt ∧ (t.1 151 23).toInt + (t.1 151 24).toInt ≤ 40) (h4 : ∀ j, j < 40 → 0 ≤ (t.1 167 j).toInt ∧ (t.1 167 j).toInt ≤ 10) (h5 : 0 ≤ (t.1 151 36).toInt ∧ (t.1 151 36).toInt ≤ 10) : v_RI t := by
  refine ⟨⟨a1, fun j hj => ?_, a3⟩, h2, h3, h4, h5, ?_, fun j hj => ?_⟩
  · rw [(hf 182 j (by unfold m_A; omega)).1]; exact h.1.2.1 j hj
  · rw [(hf 151 42 (by unfold m_A; omega)).1]; exact h.2.2.2.2.2.1
  · rw [(hf 181 j (by unfold m_A; omega)).1]; exact h.2.2.2.2.2.2 j hj
theorem v_RI_N {s t : vS} (h : v_RI s) (hf : v_F m_N s t) : v_RI t := by
  have e1 : t.1 151 14 = s.1 151 14 := (hf 151 14 (by unfold m_N; omega)).1
  obtain ⟨⟨a1, a2, a3⟩, h2, h3, h4, h5, h6, h7⟩ := id h
  refine v_RI_A h (v_F_im hf m_N_A) (by rw [e1]; exact a1) (fun p hp => ?_) ?_ ?_ (fun j hj => ?_) ?_
  · rw [e1] at hp
    obtain ⟨acc, ha⟩ := a3 p hp
    exact ⟨acc, m_text_eq ha (hf 155 p (by unfold m_N; omega)).1 (fun j _ _ => ⟨(hf 153 j (by unfold m_N; omega)).1, (hf 154 j (by unfold m_N; omega)).1⟩) (fun j _ _ => ⟨(hf 156 j (by unfold m_N; omega)).1, (hf 157 j (by unfold m_N; omega)).1⟩)⟩
  · rw [(hf 151 2 (by unfold m_N; omega)).1]; exact h2
  · rw [(hf 151 23 (by unfold m_N; omega)).1, (hf 151 24 (by unfold m_N; omega)).1]; exact h3
  · rw [(hf 167 j (by unfold m_N; omega)).1]; exact h4 j hj
  · rw [(hf 151 36 (by unfold m_N; omega)).1]; exact h5
/-- one place of the reference itself becomes another -/
theorem v_RI_o {s : vS} (h : v_RI s) {j : Nat} {x : Int32} (hj : j = 2 ∨ j = 23 ∨ j = 24 ∨ j = 36) (h2 : j = 2 → 0 ≤ x.toInt ∧ x.toInt ≤ 60) (h23 : j = 23 → 0 ≤ x.toInt ∧ x.toInt + (s.1 151 24).toInt ≤ 40) (h24 : j = 24 → 0 ≤ x.toInt ∧ (s.1 151 23).toInt + x.toInt ≤ 40) (h36 : j = 36 → 0 ≤ x.toInt ∧ x.toInt ≤ 10) : v_RI (v_w1 s 151 j x) ∧ v_F m_A s (v_w1 s 151 j x) := by
  have hf : v_F m_A s (v_w1 s 151 j x) := v_F_w1 v_F_rf (by unfold m_A; omega)
  obtain ⟨⟨a1, a2, a3⟩, b2, b3, b4, b5, b6, b7⟩ := id h
  have e1 : (v_w1 s 151 j x).1 151 14 = s.1 151 14 := by rw [v_w1_1, if_neg (by omega)]
  refine ⟨v_RI_A h hf (by rw [e1]; exact a1) (fun p hp => ?_) ?_ ?_ (fun k hk => ?_) ?_, hf⟩
  · rw [e1] at hp
    obtain ⟨acc, ha⟩ := a3 p hp
    exact ⟨acc, m_text_eq ha (by rw [v_w1_1, if_neg (by omega)]) (fun k _ _ => ⟨by rw [v_w1_1, if_neg (by omega)], by rw [v_w1_1, if_neg (by omega)]⟩) (fun k _ _ => ⟨by rw [v_w1_1, if_neg (by omega)], by rw [v_w1_1, if_neg (by omega)]⟩)⟩
  · rw [v_w1_1]
    by_cases hz : (151 : Nat) = 151 ∧ 2 = j
    · rw [if_pos hz]; exact h2 hz.2.symm
    · rw [if_neg hz]; exact b2
  · rw [v_w1_1, v_w1_1]
    by_cases hz : (151 : Nat) = 151 ∧ 23 = j
    · rw [if_pos hz, if_neg (by omega)]
      have := h23 hz.2.symm
      omega
    · rw [if_neg hz]
      by_cases hy : (151 : Nat) = 151 ∧ 24 = j
      · rw [if_pos hy]
        have := h24 hy.2.symm
        omega
      · rw [if_neg hy]
        exact b3
  · rw [v_w1_1, if_neg (by omega)]; exact b4 k hk
  · rw [v_w1_1]
    by_cases hz : (151 : Nat) = 151 ∧ 36 = j
    · rw [if_pos hz]; exact h36 hz.2.symm
    · rw [if_neg hz]; exact b5
theorem v_RI_n {s : vS} (h : v_RI s) {a j : Nat} {x : Int32} (hn : m_N a j) : v_RI (v_w1 s a j x) ∧ v_F m_A s (v_w1 s a j x) :=
  ⟨v_RI_N h (v_F_w1 v_F_rf hn), v_F_w1 v_F_rf (m_N_A a j hn)⟩
theorem v_RI_c {s : vS} (h : v_RI s) {j : Nat} {x : Int32} (hx : 0 ≤ x.toInt ∧ x.toInt ≤ 10) : v_RI (v_w1 s 167 j x) ∧ v_F m_A s (v_w1 s 167 j x) := by
  have hf : v_F m_A s (v_w1 s 167 j x) := v_F_w1 v_F_rf (by unfold m_A; omega)
  obtain ⟨⟨a1, a2, a3⟩, b2, b3, b4, b5, b6, b7⟩ := id h
  have e1 : (v_w1 s 167 j x).1 151 14 = s.1 151 14 := by rw [v_w1_1, if_neg (by omega)]
  refine ⟨v_RI_A h hf (by rw [e1]; exact a1) (fun p hp => ?_) ?_ ?_ (fun k hk => ?_) ?_, hf⟩
  · rw [e1] at hp
    obtain ⟨acc, ha⟩ := a3 p hp
    exact ⟨acc, m_text_eq ha (by rw [v_w1_1, if_neg (by omega)]) (fun k _ _ => ⟨by rw [v_w1_1, if_neg (by omega)], by rw [v_w1_1, if_neg (by omega)]⟩) (fun k _ _ => ⟨by rw [v_w1_1, if_neg (by omega)], by rw [v_w1_1, if_neg (by omega)]⟩)⟩
  · rw [v_w1_1, if_neg (by omega)]; exact b2
  · rw [v_w1_1, if_neg (by omega), v_w1_1, if_neg (by omega)]; exact b3
  · rw [v_w1_1]
    by_cases hz : (167 : Nat) = 167 ∧ k = j
    · rw [if_pos hz]; exact hx
    · rw [if_neg hz]; exact b4 k hk
  · rw [v_w1_1, if_neg (by omega)]; exact b5
def v_PA (s : vS) {α : Type} : α → vS → Prop := fun _ t => v_RI t ∧ v_F m_A s t
theorem v_PAw {α : Type} {s0 s : vS} {a i : Nat} {x : Int32} {k : vS → Option (α × vS)} {Q : α → vS → Prop} (h : v_F m_A s0 s) (hw : v_RI (v_w1 s a i x) ∧ v_F m_A s (v_w1 s a i x)) (hk : v_RI (v_w1 s a i x) → v_F m_A s0 (v_w1 s a i x) → v_T (k (v_w1 s a i x)) Q) : v_T (v_let (v_w1 s a i x) k) Q := hk hw.1 (v_F_tr h hw.2)
theorem m_feed (b : Int32) (s : vS) (h : v_RI s) : v_T (f_Md_feed b s) (fun _ t => v_RI t ∧ v_F m_A s t) := by
  have h2 := h.2.1
  unfold f_Md_feed
  refine v_Tin (fun _ => ?_) (fun _ => v_Tret ⟨h, v_F_rf⟩)
  refine v_Tif (fun _ => v_Tret ⟨h, v_F_rf⟩) (fun hc => v_Tck ⟨by omega, by omega⟩ ?_)
  refine v_PAw v_F_rf (v_RI_n h (by unfold m_N; omega)) (fun h1 hf => ?_)
  have e : (v_w1 s 152 (Int32.toNatClampNeg (s.1 151 2)) (vp_nar .byte (Int8.toInt32 (Int32.toInt8 b)))).1 151 2 = s.1 151 2 := by rw [v_w1_1, if_neg (by omega)]
  rw [e]
  refine v_PAw hf (v_RI_o h1 (Or.inl rfl) (fun _ => by rw [v_inc (by omega)]; omega) (fun q => by omega) (fun q => by omega) (fun q => by omega)) (fun h3 hf2 => v_Tret ⟨h3, hf2⟩)
theorem m_let_g {s : vS} (h : 0 ≤ (s.1 151 2).toInt ∧ (s.1 151 2).toInt ≤ 60) : m_g (fun j => g_ab (m_let s j)) s := ⟨h, fun _ => rfl⟩
theorem m_px_A {p : Nat} (hp : p ≤ 9) : ∀ a j, m_px p a j → m_A a j := fun a j h => by unfold m_px m_pl m_pd at h; unfold m_A; omega
/-- a text is read into the next law's place -/
theorem m_next {s : vS} (h : v_RI s) (hl : (s.1 151 14).toInt ≤ 9) {g : Nat → Int32} (hg : m_g g s) : v_T (f_Md_readText (s.1 151 14) s) (fun x t => v_RI t ∧ v_F m_A s t ∧ t.1 151 14 = s.1 151 14 ∧ t.1 151 2 = 0 ∧ v_F (m_px (s.1 151 14).toInt.toNat) s t ∧ m_RP g (s.1 151 14).toInt.toNat (g_rd g (s.1 151 2).toInt.toNat) s x t) := by
  obtain ⟨⟨a1, a2, a3⟩, b2, b3, b4, b5, b6, b7⟩ := id h
  refine v_Tm (m_readText (b := s.1 151 14) (p := (s.1 151 14).toInt.toNat) (by omega) (by omega) hg) ?_
  intro x t ht
  have hf := ht.1
  have hfA := v_F_im hf (m_px_A (by omega))
  have e1 : t.1 151 14 = s.1 151 14 := (hf 151 14 (by unfold m_px m_pl m_pd; omega)).1
  refine ⟨v_RI_A h hfA (by rw [e1]; exact a1) (fun p hp => ?_) ?_ ?_ (fun j hj => ?_) ?_, hfA, e1, ht.2.1, hf, ht⟩
  · rw [e1] at hp
    obtain ⟨acc, ha⟩ := a3 p hp
    exact ⟨acc, m_text_eq ha (hf 155 p (by unfold m_px m_pl m_pd; omega)).1 (fun j _ _ => ⟨(hf 153 j (by unfold m_px m_pl m_pd; omega)).1, (hf 154 j (by unfold m_px m_pl m_pd; omega)).1⟩) (fun j _ _ => ⟨(hf 156 j (by unfold m_px m_pl m_pd; omega)).1, (hf 157 j (by unfold m_px m_pl m_pd; omega)).1⟩)⟩
  · rw [ht.2.1]; decide
  · rw [(hf 151 23 (by unfold m_px m_pl m_pd; omega)).1, (hf 151 24 (by unfold m_px m_pl m_pd; omega)).1]; exact b3
  · rw [(hf 167 j (by unfold m_px m_pl m_pd; omega)).1]; exact b4 j hj
  · rw [(hf 151 36 (by unfold m_px m_pl m_pd; omega)).1]; exact b5
/-- a law comes whose text stands -/
theorem m_addLaw (b c d : Int32) (s : vS) (h : v_RI s) (hl : (s.1 151 14).toInt ≤ 9) {acc : List gL} (ht : m_text s (s.1 151 14).toInt.toNat acc) : v_T (f_Md_addLaw b c d s) (fun r t => v_RI t ∧ v_F m_A s t ∧ t.1 151 14 = s.1 151 14 + 1 ∧ (∀ a j, ¬ ((a = 151 ∧ j = 14) ∨ (160 ≤ a ∧ a ≤ 162)) → t.1 a j = s.1 a j ∧ t.2 a j = s.2 a j) ∧ r = s.1 151 14) := by
  obtain ⟨⟨a1, a2, a3⟩, b2, b3, b4, b5, b6, b7⟩ := id h
  have hv : v_in (s.1 151 14) 11 := ⟨by omega, by omega⟩
  unfold f_Md_addLaw
  rw [if_pos hv]
  refine v_Tlet ?_
  have e1 : (v_w1 s 160 (Int32.toNatClampNeg (s.1 151 14)) b).1 151 14 = s.1 151 14 := by rw [v_w1_1, if_neg (by omega)]
  rw [e1, if_pos hv]
  refine v_Tlet ?_
  have e2 : (v_w1 (v_w1 s 160 (Int32.toNatClampNeg (s.1 151 14)) b) 161 (Int32.toNatClampNeg (s.1 151 14)) c).1 151 14 = s.1 151 14 := by rw [v_w1_1, if_neg (by omega)]; exact e1
  rw [e2, if_pos hv]
  refine v_Tlet ?_
  have e3 : (v_w1 (v_w1 (v_w1 s 160 (Int32.toNatClampNeg (s.1 151 14)) b) 161 (Int32.toNatClampNeg (s.1 151 14)) c) 162 (Int32.toNatClampNeg (s.1 151 14)) d).1 151 14 = s.1 151 14 := by rw [v_w1_1, if_neg (by omega)]; exact e2
  have hG : v_F (fun a j => (a = 151 ∧ j = 14) ∨ (160 ≤ a ∧ a ≤ 162)) s (v_w1 (v_w1 (v_w1 s 160 (Int32.toNatClampNeg (s.1 151 14)) b) 161 (Int32.toNatClampNeg (s.1 151 14)) c) 162 (Int32.toNatClampNeg (s.1 151 14)) d) := v_F_w1 (v_F_w1 (v_F_w1 v_F_rf (by omega)) (by omega)) (by omega)
  generalize v_w1 (v_w1 (v_w1 s 160 (Int32.toNatClampNeg (s.1 151 14)) b) 161 (Int32.toNatClampNeg (s.1 151 14)) c) 162 (Int32.toNatClampNeg (s.1 151 14)) d = u at e3 hG ⊢
  rw [e3]
  have hinc : (s.1 151 14 + 1).toInt = (s.1 151 14).toInt + 1 := v_inc (by omega)
  have hG2 : v_F (fun a j => (a = 151 ∧ j = 14) ∨ (160 ≤ a ∧ a ≤ 162)) s (v_w1 u 151 14 (s.1 151 14 + 1)) := v_F_w1 hG (by omega)
  have e4 : (v_w1 u 151 14 (s.1 151 14 + 1)).1 151 14 = s.1 151 14 + 1 := by rw [v_w1_1, if_pos ⟨rfl, rfl⟩]
  refine v_Tlet (v_Tret ?_)
  generalize v_w1 u 151 14 (s.1 151 14 + 1) = w at hG2 e4 ⊢
  have hfA : v_F m_A s w := v_F_im hG2 (fun a j q => by unfold m_A; omega)
  refine ⟨v_RI_A h hfA (by rw [e4]; omega) (fun p hp => ?_) ?_ ?_ (fun j hj => ?_) ?_, hfA, e4, hG2, ?_⟩
  · have hx : ∃ acc, m_text s p acc := by
      rw [e4] at hp
      by_cases hpe : p = (s.1 151 14).toInt.toNat
      · rw [hpe]
        exact ⟨acc, ht⟩
      · exact a3 p (by omega)
    obtain ⟨acc2, ha⟩ := hx
    exact ⟨acc2, m_text_eq ha (hG2 155 p (by omega)).1 (fun j _ _ => ⟨(hG2 153 j (by omega)).1, (hG2 154 j (by omega)).1⟩) (fun j _ _ => ⟨(hG2 156 j (by omega)).1, (hG2 157 j (by omega)).1⟩)⟩
  · rw [(hG2 151 2 (by omega)).1]; exact b2
  · rw [(hG2 151 23 (by omega)).1, (hG2 151 24 (by omega)).1]; exact b3
  · rw [(hG2 167 j (by omega)).1]; exact b4 j hj
  · rw [(hG2 151 36 (by omega)).1]; exact b5
  · rw [e4]
    apply Int32.toInt_inj.mp
    rw [v_sub (y := 1) (show -2147483648 ≤ (s.1 151 14 + 1).toInt - 1 by omega) (show (s.1 151 14 + 1).toInt - 1 < 2147483648 by omega)]
    show (s.1 151 14 + 1).toInt - 1 = _
    omega
theorem m_law (b c : Int32) (s : vS) (h : v_RI s) : v_T (f_Md_law b c s) (fun _ t => v_RI t ∧ v_F m_A s t) := by
  have hl := h.1.1
  unfold f_Md_law
  refine v_Tin (fun _ => ?_) (fun _ => v_Tret ⟨h, v_F_rf⟩)
  refine v_Tin (fun _ => ?_) (fun _ => v_Tret ⟨h, v_F_rf⟩)
  refine v_Tif (fun _ => v_Tret ⟨h, v_F_rf⟩) (fun hc => ?_)
  refine v_Tbi (m_next h (by omega) (m_let_g h.2.1)) ?_
  rintro x t ⟨h1, h2, h3, h4, h5, h6⟩
  rcases h6.2.2 with ⟨c1, c2, c3⟩ | ⟨c1, c2, c3⟩
  · rw [if_pos (by rw [c2]; decide)]
    refine v_Tbi (m_addLaw b c (-1) t h1 (by rw [h3]; omega) (by rw [h3]; exact c3)) ?_
    rintro r u ⟨d1, d2, d3⟩
    exact v_Tret ⟨d1, v_F_tr h2 d2⟩
  · rw [if_neg (by omega)]
    exact v_Tret ⟨h1, h2⟩
theorem m_valueAt (b c : Int32) (s : vS) (hc : v_in c 11) : v_T (f_Md_valueAt b c s) (fun _ t => t = s) := by
  unfold f_Md_valueAt
  repeat' first
    | ((with_reducible refine v_Tret ?_); (focus exact rfl))
    | ((with_reducible refine v_Tck ?_ ?_); (focus exact hc))
    | with_reducible refine v_Tif (fun _ => ?_) (fun _ => ?_)
theorem m_lays (b c d : Int32) (s : vS) (h : v_RI s) (hc : v_in c 11) : v_T (f_Md_lays b c d s) (fun _ t => v_RI t ∧ v_F m_A s t ∧ t.1 151 23 = s.1 151 23 ∧ t.1 151 24 = s.1 151 24) := by
  have hw : ∀ {a j : Nat}, m_N a j → ¬ (a = 151 ∧ (j = 23 ∨ j = 24)) → v_T (v_let (v_w1 s a j d) (fun t => some ((), t))) (fun _ t => v_RI t ∧ v_F m_A s t ∧ t.1 151 23 = s.1 151 23 ∧ t.1 151 24 = s.1 151 24) := fun hn hz => by
    have h1 := v_RI_n h (x := d) hn
    exact v_Tlet (v_Tret ⟨h1.1, h1.2, by rw [v_w1_1, if_neg (by omega)], by rw [v_w1_1, if_neg (by omega)]⟩)
  unfold f_Md_lays
  repeat' first
    | with_reducible exact hw (by unfold m_N; omega) (by omega)
    | ((with_reducible refine v_Tck ?_ ?_); (focus exact hc))
    | with_reducible refine v_Tif (fun _ => ?_) (fun _ => ?_)
theorem m_chL34 {s0 : vS} {b c d e : Int32} {k : vS → Option (Int32 × vS)} {Q : Int32 → vS → Prop} (hk : ∀ t, v_RI t → v_F m_A s0 t → t.1 151 23 = s0.1 151 23 → v_T (k t) Q) : ∀ (m n : Nat) (v : Int32) (s : vS), v.toInt + m = 40 → 1 ≤ v.toInt → v_RI s → v_F m_A s0 s → s.1 151 23 = s0.1 151 23 → m < n → v_T (f_Md_changes_L34 b c d e k n v s) Q := by
  intro m
  induction m with
  | zero =>
    intro n v s hm hv hs h0 h23 hn
    obtain ⟨n, rfl⟩ : ∃ q, n = q + 1 := ⟨n - 1, by omega⟩
    show v_T (f_Md_changes_L34b b c d e k (f_Md_changes_L34 b c d e k n) v s) _
    unfold f_Md_changes_L34b
    rw [if_pos (by omega)]
    exact hk s hs h0 h23
  | succ m ih =>
    intro n v s hm hv hs h0 h23 hn
    obtain ⟨n, rfl⟩ : ∃ q, n = q + 1 := ⟨n - 1, by omega⟩
    show v_T (f_Md_changes_L34b b c d e k (f_Md_changes_L34 b c d e k n) v s) _
    unfold f_Md_changes_L34b
    have e1 := v_inc (x := v) (by omega)
    have e2 : (v - (1 : Int32)).toInt = v.toInt - 1 := v_sub (y := 1) (show -2147483648 ≤ v.toInt - 1 by omega) (show v.toInt - 1 < 2147483648 by omega)
    have hv1 : v_in v 40 := ⟨by omega, by omega⟩
    have hv2 : v_in (v - (1 : Int32)) 40 := ⟨by omega, by omega⟩
    rw [if_neg (by omega), if_pos hv1, if_pos hv2]
    refine v_PAw h0 (v_RI_n hs (by unfold m_N; omega)) (fun a1 b1 => ?_)
    rw [if_pos hv1, if_pos hv2]
    have e3 : (v_w1 s 166 (Int32.toNatClampNeg (v - (1 : Int32))) (s.1 166 (Int32.toNatClampNeg v))).1 167 (Int32.toNatClampNeg v) = s.1 167 (Int32.toNatClampNeg v) := by rw [v_w1_1, if_neg (by omega)]
    have h4 := hs.2.2.2.1 v.toNatClampNeg (by rw [v_nc]; omega)
    refine v_PAw b1 (v_RI_c a1 (by rw [e3]; exact h4)) (fun a2 b2 => ?_)
    rw [if_pos hv1, if_pos hv2]
    refine v_PAw b2 (v_RI_n a2 (by unfold m_N; omega)) (fun a3 b3 => ?_)
    rw [if_pos hv1, if_pos hv2]
    refine v_PAw b3 (v_RI_n a3 (by unfold m_N; omega)) (fun a4 b4 => ?_)
    refine ih n _ _ (by omega) (by omega) a4 b4 ?_ (by omega)
    rw [v_w1_1, if_neg (by omega), v_w1_1, if_neg (by omega), v_w1_1, if_neg (by omega), v_w1_1, if_neg (by omega)]
    exact h23
/-- the latest change is kept and made -/
theorem m_chEnd {s0 s : vS} {b c d r : Int32} (hs : v_RI s) (h0 : v_F m_A s0 s) (hc : 0 ≤ c.toInt ∧ c.toInt ≤ 10) (h23 : (s.1 151 23).toInt ≤ 39) (h24 : (s.1 151 24).toInt = 0) : v_T (if v_in (s.1 151 23) 40 then (v_let (v_w1 s 166 (Int32.toNatClampNeg (s.1 151 23)) b) (fun s18 => (if v_in (s18.1 151 23) 40 then (v_let (v_w1 s18 167 (Int32.toNatClampNeg (s18.1 151 23)) c) (fun s20 => (if v_in (s20.1 151 23) 40 then (v_let (v_w1 s20 168 (Int32.toNatClampNeg (s20.1 151 23)) r) (fun s22 => (if v_in (s22.1 151 23) 40 then (v_let (v_w1 s22 169 (Int32.toNatClampNeg (s22.1 151 23)) d) (fun s24 => (v_let (v_w1 s24 151 23 ((s24.1 151 23) + (1 : Int32))) (fun s25 => (v_bi (f_Md_lays b c d s25) (fun _ s26 => (some (r, s26)))))))) else none))) else none))) else none))) else none) (fun _ t => v_RI t ∧ v_F m_A s0 t) := by
  have h3 := hs.2.2.1
  have hv : v_in (s.1 151 23) 40 := ⟨by omega, by omega⟩
  rw [if_pos hv]
  refine v_PAw h0 (v_RI_n hs (by unfold m_N; omega)) (fun a1 b1 => ?_)
  have e1 : (v_w1 s 166 (Int32.toNatClampNeg (s.1 151 23)) b).1 151 23 = s.1 151 23 ∧ (v_w1 s 166 (Int32.toNatClampNeg (s.1 151 23)) b).1 151 24 = s.1 151 24 := ⟨by rw [v_w1_1, if_neg (by omega)], by rw [v_w1_1, if_neg (by omega)]⟩
  generalize v_w1 s 166 (Int32.toNatClampNeg (s.1 151 23)) b = s1 at a1 b1 e1 ⊢
  rw [e1.1, if_pos hv]
  refine v_PAw b1 (v_RI_c a1 hc) (fun a2 b2 => ?_)
  have e2 : (v_w1 s1 167 (Int32.toNatClampNeg (s.1 151 23)) c).1 151 23 = s.1 151 23 ∧ (v_w1 s1 167 (Int32.toNatClampNeg (s.1 151 23)) c).1 151 24 = s.1 151 24 := ⟨by rw [v_w1_1, if_neg (by omega)]; exact e1.1, by rw [v_w1_1, if_neg (by omega)]; exact e1.2⟩
  generalize v_w1 s1 167 (Int32.toNatClampNeg (s.1 151 23)) c = s2 at a2 b2 e2 ⊢
  rw [e2.1, if_pos hv]
  refine v_PAw b2 (v_RI_n a2 (by unfold m_N; omega)) (fun a3 b3 => ?_)
  have e3 : (v_w1 s2 168 (Int32.toNatClampNeg (s.1 151 23)) r).1 151 23 = s.1 151 23 ∧ (v_w1 s2 168 (Int32.toNatClampNeg (s.1 151 23)) r).1 151 24 = s.1 151 24 := ⟨by rw [v_w1_1, if_neg (by omega)]; exact e2.1, by rw [v_w1_1, if_neg (by omega)]; exact e2.2⟩
  generalize v_w1 s2 168 (Int32.toNatClampNeg (s.1 151 23)) r = s3 at a3 b3 e3 ⊢
  rw [e3.1, if_pos hv]
  refine v_PAw b3 (v_RI_n a3 (by unfold m_N; omega)) (fun a4 b4 => ?_)
  have e4 : (v_w1 s3 169 (Int32.toNatClampNeg (s.1 151 23)) d).1 151 23 = s.1 151 23 ∧ (v_w1 s3 169 (Int32.toNatClampNeg (s.1 151 23)) d).1 151 24 = s.1 151 24 := ⟨by rw [v_w1_1, if_neg (by omega)]; exact e3.1, by rw [v_w1_1, if_neg (by omega)]; exact e3.2⟩
  generalize v_w1 s3 169 (Int32.toNatClampNeg (s.1 151 23)) d = s4 at a4 b4 e4 ⊢
  rw [e4.1]
  refine v_PAw b4 (v_RI_o a4 (Or.inr (Or.inl rfl)) (fun q => by omega) (fun _ => by rw [v_inc (by omega), e4.2]; omega) (fun q => by omega) (fun q => by omega)) (fun a5 b5 => ?_)
  refine v_Tbi (m_lays b c d _ a5 ⟨hc.1, by omega⟩) ?_
  rintro _ t ⟨t1, t2, _⟩
  exact v_Tret ⟨t1, v_F_tr b5 t2⟩
theorem m_changes (b c d : Int32) (s : vS) (h : v_RI s) (hc : 0 ≤ c.toInt ∧ c.toInt ≤ 10) : v_T (f_Md_changes b c d s) (fun _ t => v_RI t ∧ v_F m_A s t) := by
  have h3 := h.2.2.1
  unfold f_Md_changes
  refine v_Tbi (m_valueAt b c s ⟨hc.1, by omega⟩) ?_
  rintro r s rfl
  refine v_Tif (fun _ => v_Tret ⟨h, v_F_rf⟩) (fun hne => ?_)
  have e0 : (v_w1 s 151 24 0).1 151 23 = s.1 151 23 := by rw [v_w1_1, if_neg (by omega)]
  have e00 : (v_w1 s 151 24 0).1 151 24 = 0 := by rw [v_w1_1, if_pos ⟨rfl, rfl⟩]
  refine v_PAw v_F_rf (v_RI_o h (Or.inr (Or.inr (Or.inl rfl))) (fun q => by omega) (fun q => by omega) (fun _ => by show 0 ≤ (0 : Int) ∧ _ + (0 : Int) ≤ 40; omega) (fun q => by omega)) (fun a1 b1 => ?_)
  generalize v_w1 s 151 24 0 = s1 at e0 e00 a1 b1 ⊢
  have h31 := a1.2.2.1
  refine v_Tif (fun h40 => ?_) (fun h40 => m_chEnd a1 b1 hc (by omega) (by rw [e00]; rfl))
  refine m_chL34 (s0 := s1) (fun t ht hft h23 => ?_) 39 4096 1 s1 (by decide) (by decide) a1 v_F_rf rfl (by decide)
  have hbt := v_F_tr b1 hft
  have h3t := ht.2.2.1
  have e5 : (t.1 151 23 - (1 : Int32)).toInt = (t.1 151 23).toInt - 1 := v_sub (y := 1) (show -2147483648 ≤ (t.1 151 23).toInt - 1 by omega) (show (t.1 151 23).toInt - 1 < 2147483648 by omega)
  rw [h23] at e5
  refine v_PAw hbt (v_RI_o ht (Or.inr (Or.inl rfl)) (fun q => by omega) (fun _ => by rw [h23, e5]; rw [h23] at h3t; omega) (fun q => by omega) (fun q => by omega)) (fun a2 b2 => ?_)
  have h32 := a2.2.2.1
  have e6 : ((v_w1 t 151 23 (t.1 151 23 - (1 : Int32))).1 151 23).toInt = 39 := by rw [v_w1_1, if_pos ⟨rfl, rfl⟩, h23, e5]; omega
  have e7 : ((v_w1 t 151 23 (t.1 151 23 - (1 : Int32))).1 151 24).toInt = 0 := by
    rw [v_w1_1, if_neg (by omega)]
    rw [h23] at h3t
    omega
  exact m_chEnd a2 b2 hc (by omega) e7
theorem m_mend (b c d : Int32) (s : vS) (h : v_RI s) : v_T (f_Md_mend b c d s) (fun _ t => v_RI t ∧ v_F m_A s t) := by
  have hl := h.1.1
  unfold f_Md_mend
  have hret : v_T (some ((-2000000000 : Int32), s)) (fun (_ : Int32) t => v_RI t ∧ v_F m_A s t) := v_Tret ⟨h, v_F_rf⟩
  have hch : ∀ x y : Int32, 0 ≤ y.toInt ∧ y.toInt ≤ 10 → v_T (v_bi (f_Md_changes x y d s) (fun r7 s7 => some (r7, s7))) (fun (_ : Int32) t => v_RI t ∧ v_F m_A s t) := fun x y hy => v_Tbi (m_changes x y d s h hy) (fun r t ht => v_Tret ht)
  refine v_Tif (fun _ => hret) (fun _ => v_Tif (fun _ => ?_) (fun _ => v_Tif (fun _ => ?_) (fun _ => v_Tif (fun _ => ?_) (fun _ => v_Tif (fun _ => ?_) (fun _ => ?_)))))
  · exact v_TisLaw hl (fun hb => v_Tin (fun _ => hch _ _ ⟨hb.1, by omega⟩) (fun _ => hret)) hret
  · exact v_TisLaw hl (fun hb => v_Tin (fun _ => hch _ _ ⟨hb.1, by omega⟩) (fun _ => hret)) hret
  · exact v_TisLaw hl (fun hb => v_Tin (fun _ => hch _ _ ⟨hb.1, by omega⟩) (fun _ => hret)) hret
  · exact v_Tif (fun _ => v_Tin (fun _ => hch _ _ (by decide)) (fun _ => hret)) (fun _ => hret)
  · exact v_Tif (fun _ => v_Tin (fun _ => hch _ _ (by decide)) (fun _ => hret)) (fun _ => hret)
theorem m_undo (s : vS) (h : v_RI s) : v_T (f_Md_undo s) (fun _ t => v_RI t ∧ v_F m_A s t) := by
  have h3 := h.2.2.1
  unfold f_Md_undo
  refine v_Tif (fun _ => v_Tret ⟨h, v_F_rf⟩) (fun hz => ?_)
  have e1 : (s.1 151 23 - (1 : Int32)).toInt = (s.1 151 23).toInt - 1 := v_sub (y := 1) (show -2147483648 ≤ (s.1 151 23).toInt - 1 by omega) (show (s.1 151 23).toInt - 1 < 2147483648 by omega)
  refine v_PAw v_F_rf (v_RI_o h (Or.inr (Or.inl rfl)) (fun q => by omega) (fun _ => by rw [e1]; omega) (fun q => by omega) (fun q => by omega)) (fun a1 b1 => ?_)
  have e2 : ((v_w1 s 151 23 (s.1 151 23 - (1 : Int32))).1 151 23).toInt = (s.1 151 23).toInt - 1 := by rw [v_w1_1, if_pos ⟨rfl, rfl⟩, e1]
  have e3 : (v_w1 s 151 23 (s.1 151 23 - (1 : Int32))).1 151 24 = s.1 151 24 := by rw [v_w1_1, if_neg (by omega)]
  generalize v_w1 s 151 23 (s.1 151 23 - (1 : Int32)) = s1 at a1 b1 e2 e3 ⊢
  have e4 : (s1.1 151 24 + 1).toInt = (s.1 151 24).toInt + 1 := by rw [e3, v_inc (by omega)]
  refine v_PAw b1 (v_RI_o a1 (Or.inr (Or.inr (Or.inl rfl))) (fun q => by omega) (fun q => by omega) (fun _ => by rw [e4]; omega) (fun q => by omega)) (fun a2 b2 => ?_)
  have e5 : ((v_w1 s1 151 24 (s1.1 151 24 + 1)).1 151 23).toInt = (s.1 151 23).toInt - 1 := by rw [v_w1_1, if_neg (by omega)]; exact e2
  generalize v_w1 s1 151 24 (s1.1 151 24 + 1) = s2 at a2 b2 e5 ⊢
  have hv : v_in (s2.1 151 23) 40 := ⟨by omega, by omega⟩
  rw [if_pos hv, if_pos hv, if_pos hv]
  have h4 := a2.2.2.2.1 (s2.1 151 23).toNatClampNeg (by rw [v_nc]; omega)
  refine v_Tbi (m_lays _ _ _ s2 a2 ⟨h4.1, by omega⟩) ?_
  rintro _ t ⟨t1, t2, _⟩
  exact v_Tret ⟨t1, v_F_tr b2 t2⟩
theorem m_redo (s : vS) (h : v_RI s) : v_T (f_Md_redo s) (fun _ t => v_RI t ∧ v_F m_A s t) := by
  have h3 := h.2.2.1
  unfold f_Md_redo
  refine v_Tif (fun _ => v_Tret ⟨h, v_F_rf⟩) (fun hz => ?_)
  have hv : v_in (s.1 151 23) 40 := ⟨by omega, by omega⟩
  rw [if_pos hv, if_pos hv, if_pos hv]
  have h4 := h.2.2.2.1 (s.1 151 23).toNatClampNeg (by rw [v_nc]; omega)
  refine v_Tbi (m_lays _ _ _ s h ⟨h4.1, by omega⟩) ?_
  rintro _ t ⟨t1, t2, t3, t4⟩
  -- one of those undone goes over to those done
  have hA := t1
  have e1 : (t.1 151 23 + 1).toInt = (s.1 151 23).toInt + 1 := by rw [t3, v_inc (by omega)]
  have e2 : (t.1 151 24 - (1 : Int32)).toInt = (s.1 151 24).toInt - 1 := by rw [t4]; exact v_sub (y := 1) (show -2147483648 ≤ (s.1 151 24).toInt - 1 by omega) (show (s.1 151 24).toInt - 1 < 2147483648 by omega)
  have e3 : (v_w1 t 151 23 (t.1 151 23 + 1)).1 151 24 = t.1 151 24 := by rw [v_w1_1, if_neg (by omega)]
  refine v_Tlet ?_
  rw [e3]
  refine v_Tlet (v_Tret ?_)
  have h5 := v_RI_o hA (x := t.1 151 24 - (1 : Int32)) (Or.inr (Or.inr (Or.inl rfl))) (fun q => by omega) (fun q => by omega) (fun _ => by rw [e2, t3]; omega) (fun q => by omega)
  have h6 := v_RI_o h5.1 (x := t.1 151 23 + 1) (Or.inr (Or.inl rfl)) (fun q => by omega) (fun _ => by rw [e1, v_w1_1, if_pos ⟨rfl, rfl⟩, e2]; omega) (fun q => by omega) (fun q => by omega)
  have hsw : v_w1 (v_w1 t 151 23 (t.1 151 23 + 1)) 151 24 (t.1 151 24 - (1 : Int32)) = v_w1 (v_w1 t 151 24 (t.1 151 24 - (1 : Int32))) 151 23 (t.1 151 23 + 1) := by
    refine Prod.ext (funext fun a => funext fun j => ?_) rfl
    show (if a = 151 ∧ j = 24 then _ else if a = 151 ∧ j = 23 then _ else t.1 a j) = (if a = 151 ∧ j = 23 then _ else if a = 151 ∧ j = 24 then _ else t.1 a j)
    by_cases c1 : a = 151 ∧ j = 24
    · rw [if_pos c1, if_neg (by omega), if_pos c1]
    · rw [if_neg c1, if_neg c1]
  rw [hsw]
  exact ⟨h6.1, v_F_tr t2 (v_F_tr h5.2 h6.2)⟩
theorem m_moved (b c d : Int32) (s : vS) (h : v_RI s) : v_T (f_Md_moved b c d s) (fun _ t => v_RI t ∧ v_F m_A s t) := by
  unfold f_Md_moved
  have hret : v_T (some ((-1 : Int32), s)) (fun (_ : Int32) t => v_RI t ∧ v_F m_A s t) := v_Tret ⟨h, v_F_rf⟩
  refine v_Tin (fun hb => ?_) (fun _ => hret)
  have hb : 0 ≤ b.toInt ∧ b.toInt ≤ 2 := hb
  have hbi : v_in b 3 := ⟨hb.1, by omega⟩
  refine v_Tif (fun _ => v_Tck hbi (v_PAw v_F_rf (v_RI_n h (by unfold m_N; omega)) (fun a1 b1 => v_Tret ⟨a1, b1⟩))) (fun _ => ?_)
  refine v_Tin (fun _ => v_Tif (fun _ => hret) (fun _ => v_Tin (fun _ => ?_) (fun _ => hret))) (fun _ => hret)
  refine v_Tck hbi (v_PAw v_F_rf (v_RI_n h (by unfold m_N; omega)) (fun a1 b1 => v_Tck hbi (v_PAw b1 (v_RI_n a1 (by unfold m_N; omega)) (fun a2 b2 => v_Tret ⟨a2, b2⟩))))
theorem m_meant (b c : Int32) (s : vS) (h : v_RI s) : v_T (f_Md_meant b c s) (fun _ t => v_RI t ∧ v_F m_A s t) := by
  unfold f_Md_meant
  have hret : v_T (some ((-1 : Int32), s)) (fun (_ : Int32) t => v_RI t ∧ v_F m_A s t) := v_Tret ⟨h, v_F_rf⟩
  refine v_Tin (fun hb => ?_) (fun _ => hret)
  have hb : 0 ≤ b.toInt ∧ b.toInt ≤ 2 := hb
  have hbi : v_in b 3 := ⟨hb.1, by omega⟩
  refine v_Tin (fun _ => ?_) (fun _ => hret)
  refine v_Tbi (m_quiet h (fun hq => m_findAll s hq)) ?_
  rintro _ t ⟨a1, b1⟩
  refine v_Tbi (m_quiet a1 (fun hq => m_keepVerdicts _ t hq.1)) ?_
  rintro _ t2 ⟨a2, b2⟩
  have b2 := v_F_tr b1 b2
  refine v_Tck hbi (v_Tck hbi (v_PAw b2 (v_RI_n a2 (by unfold m_N; omega)) (fun a3 b3 => ?_)))
  refine v_Tbi (m_quiet a3 (fun hq => m_findAll _ hq)) ?_
  rintro _ t4 ⟨a4, b4⟩
  have b4 := v_F_tr b3 b4
  refine v_Tbi (m_unlikeNow _ _ t4 a4.1.1) ?_
  rintro r _ rfl
  exact v_Tck hbi (v_PAw b4 (v_RI_n a4 (by unfold m_N; omega)) (fun a5 b5 => v_Tret ⟨a5, b5⟩))
theorem m_imL15 {s0 : vS} {k : vS → Option (Int32 × vS)} {Q : Int32 → vS → Prop} (hk : ∀ t, v_RI t → v_F m_A s0 t → v_T (k t) Q) : ∀ (m n : Nat) (v : Int32) (s : vS), v.toInt + m = 10 → 0 ≤ v.toInt → v_RI s → v_F m_A s0 s → m < n → v_T (f_Md_image_L15 k n v s) Q := by
  intro m
  induction m with
  | zero =>
    intro n v s hm hv hs h0 hn
    obtain ⟨n, rfl⟩ : ∃ q, n = q + 1 := ⟨n - 1, by omega⟩
    show v_T (f_Md_image_L15b k (f_Md_image_L15 k n) v s) _
    unfold f_Md_image_L15b
    rw [if_pos (by have := hs.1.1; omega)]
    exact hk s hs h0
  | succ m ih =>
    intro n v s hm hv hs h0 hn
    obtain ⟨n, rfl⟩ : ∃ q, n = q + 1 := ⟨n - 1, by omega⟩
    show v_T (f_Md_image_L15b k (f_Md_image_L15 k n) v s) _
    unfold f_Md_image_L15b
    have e1 := v_inc (x := v) (by omega)
    have h11 : v_in v 11 := ⟨hv, by omega⟩
    have h10 : v_in v 10 := ⟨hv, by omega⟩
    refine v_Tif (fun _ => hk s hs h0) (fun _ => ?_)
    refine v_Tck h11 (v_Tck h10 (v_PAw h0 (v_RI_n hs (by unfold m_N; omega)) (fun a1 b1 => ?_)))
    refine v_Tck h11 (v_Tck h10 (v_PAw b1 (v_RI_n a1 (by unfold m_N; omega)) (fun a2 b2 => ?_)))
    exact v_Tck h11 (v_Tck h10 (v_PAw b2 (v_RI_n a2 (by unfold m_N; omega)) (fun a3 b3 => ih n _ _ (by omega) (by omega) a3 b3 (by omega))))
theorem m_imL67 {s0 : vS} {k : vS → Option (Int32 × vS)} {Q : Int32 → vS → Prop} (hk : ∀ t, v_RI t → v_F m_A s0 t → v_T (k t) Q) : ∀ (m n : Nat) (v : Int32) (s : vS), v.toInt + m = 3 → 0 ≤ v.toInt → v_RI s → v_F m_A s0 s → m < n → v_T (f_Md_image_L67 k n v s) Q := by
  intro m
  induction m with
  | zero =>
    intro n v s hm hv hs h0 hn
    obtain ⟨n, rfl⟩ : ∃ q, n = q + 1 := ⟨n - 1, by omega⟩
    show v_T (f_Md_image_L67b k (f_Md_image_L67 k n) v s) _
    unfold f_Md_image_L67b
    rw [if_pos (by omega)]
    exact hk s hs h0
  | succ m ih =>
    intro n v s hm hv hs h0 hn
    obtain ⟨n, rfl⟩ : ∃ q, n = q + 1 := ⟨n - 1, by omega⟩
    show v_T (f_Md_image_L67b k (f_Md_image_L67 k n) v s) _
    unfold f_Md_image_L67b
    have e1 := v_inc (x := v) (by omega)
    have h3 : v_in v 3 := ⟨hv, by omega⟩
    rw [if_neg (by omega)]
    refine v_Tck h3 (v_Tck h3 (v_PAw h0 (v_RI_n hs (by unfold m_N; omega)) (fun a1 b1 => ?_)))
    exact v_Tck h3 (v_Tck h3 (v_PAw b1 (v_RI_n a1 (by unfold m_N; omega)) (fun a2 b2 => ih n _ _ (by omega) (by omega) a2 b2 (by omega))))
theorem m_image (s : vS) (h : v_RI s) : v_T (f_Md_image s) (fun _ t => v_RI t ∧ v_F m_A s t) := by
  unfold f_Md_image
  refine v_PAw v_F_rf (v_RI_n h (by unfold m_N; omega)) (fun a1 b1 => ?_)
  refine v_PAw b1 (v_RI_o a1 (Or.inr (Or.inr (Or.inr rfl))) (fun q => by omega) (fun q => by omega) (fun q => by omega) (fun _ => a1.1.1)) (fun a2 b2 => ?_)
  exact m_imL15 (s0 := s) (fun t ht hft => m_imL67 (s0 := s) (fun t ht hft => v_Tret ⟨ht, hft⟩) 3 4096 0 t (by decide) (by decide) ht hft (by decide)) 10 4096 0 _ (by decide) (by decide) a2 b2 (by decide)
theorem m_bkL12 {s0 : vS} {k : vS → Option (Int32 × vS)} {Q : Int32 → vS → Prop} (hk : ∀ t, v_RI t → v_F m_A s0 t → v_T (k t) Q) : ∀ (m n : Nat) (v : Int32) (s : vS), v.toInt + m = 10 → 0 ≤ v.toInt → v_RI s → v_F m_A s0 s → m < n → v_T (f_Md_back_L12 k n v s) Q := by
  intro m
  induction m with
  | zero =>
    intro n v s hm hv hs h0 hn
    obtain ⟨n, rfl⟩ : ∃ q, n = q + 1 := ⟨n - 1, by omega⟩
    show v_T (f_Md_back_L12b k (f_Md_back_L12 k n) v s) _
    unfold f_Md_back_L12b
    rw [if_pos (by have := hs.2.2.2.2.1; omega)]
    exact hk s hs h0
  | succ m ih =>
    intro n v s hm hv hs h0 hn
    obtain ⟨n, rfl⟩ : ∃ q, n = q + 1 := ⟨n - 1, by omega⟩
    show v_T (f_Md_back_L12b k (f_Md_back_L12 k n) v s) _
    unfold f_Md_back_L12b
    have e1 := v_inc (x := v) (by omega)
    have h11 : v_in v 11 := ⟨hv, by omega⟩
    have h10 : v_in v 10 := ⟨hv, by omega⟩
    refine v_Tif (fun _ => hk s hs h0) (fun _ => ?_)
    refine v_Tck h10 (v_Tck h11 (v_PAw h0 (v_RI_n hs (by unfold m_N; omega)) (fun a1 b1 => ?_)))
    refine v_Tck h10 (v_Tck h11 (v_PAw b1 (v_RI_n a1 (by unfold m_N; omega)) (fun a2 b2 => ?_)))
    exact v_Tck h10 (v_Tck h11 (v_PAw b2 (v_RI_n a2 (by unfold m_N; omega)) (fun a3 b3 => ih n _ _ (by omega) (by omega) a3 b3 (by omega))))
theorem m_bkL64 {s0 : vS} {k : vS → Option (Int32 × vS)} {Q : Int32 → vS → Prop} (hk : ∀ t, v_RI t → v_F m_A s0 t → v_T (k t) Q) : ∀ (m n : Nat) (v : Int32) (s : vS), v.toInt + m = 3 → 0 ≤ v.toInt → v_RI s → v_F m_A s0 s → m < n → v_T (f_Md_back_L64 k n v s) Q := by
  intro m
  induction m with
  | zero =>
    intro n v s hm hv hs h0 hn
    obtain ⟨n, rfl⟩ : ∃ q, n = q + 1 := ⟨n - 1, by omega⟩
    show v_T (f_Md_back_L64b k (f_Md_back_L64 k n) v s) _
    unfold f_Md_back_L64b
    rw [if_pos (by omega)]
    exact hk s hs h0
  | succ m ih =>
    intro n v s hm hv hs h0 hn
    obtain ⟨n, rfl⟩ : ∃ q, n = q + 1 := ⟨n - 1, by omega⟩
    show v_T (f_Md_back_L64b k (f_Md_back_L64 k n) v s) _
    unfold f_Md_back_L64b
    have e1 := v_inc (x := v) (by omega)
    have h3 : v_in v 3 := ⟨hv, by omega⟩
    rw [if_neg (by omega)]
    refine v_Tck h3 (v_Tck h3 (v_PAw h0 (v_RI_n hs (by unfold m_N; omega)) (fun a1 b1 => ?_)))
    exact v_Tck h3 (v_Tck h3 (v_PAw b1 (v_RI_n a1 (by unfold m_N; omega)) (fun a2 b2 => ih n _ _ (by omega) (by omega) a2 b2 (by omega))))
theorem m_back (s : vS) (h : v_RI s) : v_T (f_Md_back s) (fun _ t => v_RI t ∧ v_F m_A s t) := by
  unfold f_Md_back
  refine v_Tif (fun _ => v_Tret ⟨h, v_F_rf⟩) (fun _ => ?_)
  refine m_bkL12 (s0 := s) (fun t ht hft => m_bkL64 (s0 := s) (fun t ht hft => ?_) 3 4096 0 t (by decide) (by decide) ht hft (by decide)) 10 4096 0 s (by decide) (by decide) h v_F_rf (by decide)
  have h3 := ht.2.2.1
  have h0 : (0 : Int32).toInt = 0 := rfl
  refine v_PAw hft (v_RI_o ht (Or.inr (Or.inl rfl)) (fun q => by omega) (fun _ => by omega) (fun q => by omega) (fun q => by omega)) (fun a1 b1 => ?_)
  have h31 := a1.2.2.1
  exact v_PAw b1 (v_RI_o a1 (Or.inr (Or.inr (Or.inl rfl))) (fun q => by omega) (fun q => by omega) (fun _ => by omega) (fun q => by omega)) (fun a2 b2 => v_Tret ⟨a2, b2⟩)
