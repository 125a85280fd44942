/-! the reference's reader reads as the grammar says -/
def m_pd (a j : Nat) : Prop := (a = 151 ∧ 3 ≤ j ∧ j ≤ 6) ∨ ((a = 153 ∨ a = 154) ∧ 1300 ≤ j)
def m_let (s : vS) (j : Nat) : Int32 := if (s.1 151 2).toInt ≤ (j : Int) then -1 else s.1 152 j
def m_g (g : Nat → Int32) (s : vS) : Prop := (0 ≤ (s.1 151 2).toInt ∧ (s.1 151 2).toInt ≤ 60) ∧ ∀ j, g j = g_ab (m_let s j)
theorem m_g_ltr {g : Nat → Int32} {s : vS} (h : m_g g s) : g_ltr g := fun j hj => by
  rw [h.2 j]
  unfold m_let
  rw [if_pos (by have := h.1.2; omega)]
  decide
theorem m_g_F {g : Nat → Int32} {s t : vS} (h : m_g g s) (hf : v_F m_pd s t) : m_g g t := by
  have e1 : t.1 151 2 = s.1 151 2 := (hf 151 2 (by unfold m_pd; omega)).1
  refine ⟨by rw [e1]; exact h.1, fun j => ?_⟩
  rw [h.2 j]
  unfold m_let
  rw [e1, (hf 152 j (by unfold m_pd; omega)).1]
def m_R (g : Nat → Int32) (s : vS) (pre : List (Int32 × Int32)) (st : gS) (o : Nat) : Prop := m_g g s ∧ (s.1 151 3).toInt = st.1 ∧ st.1 ≤ 60 ∧ (s.1 151 4).toInt < 0 ∧ (s.1 151 5).toInt = o ∧ (s.1 151 6).toInt = (pre.length : Int) + st.2.length ∧ g_row (fun j => (s.1 153 j, s.1 154 j)) 1300 (pre ++ st.2)
def m_Rf (g : Nat → Int32) (s : vS) (i i0 L0 : Nat) : Prop := m_g g s ∧ (s.1 151 3).toInt = i ∧ i ≤ 60 ∧ (s.1 151 4).toInt = i ∧ 0 ≤ (s.1 151 6).toInt ∧ (s.1 151 6).toInt + i0 ≤ (L0 : Int) + i + 1
theorem m_Rf_up {g : Nat → Int32} {s : vS} {i i0 L0 i1 L1 : Nat} (h : m_Rf g s i i0 L0) (hl : L0 + i1 ≤ L1 + i0) : m_Rf g s i i1 L1 := by
  obtain ⟨h1, h2, h3, h4, h5, h6⟩ := h
  exact ⟨h1, h2, h3, h4, h5, by omega⟩
def m_Q (g : Nat → Int32) (pre : List (Int32 × Int32)) (o : Nat) (s : vS) (i0 L0 : Nat) (r : gR) (t : vS) : Prop := v_F m_pd s t ∧ ((r.1 = true ∧ m_R g t pre r.2 o) ∨ (r.1 = false ∧ m_Rf g t r.2.1 i0 L0))
def m_ok (g : Nat → Int32) (P : gS → gR) (o : Nat) (F : vS → Option (Unit × vS)) : Prop := ∀ (s : vS) (pre : List (Int32 × Int32)) (i : Nat) (l : List (Int32 × Int32)), m_R g s pre (i, l) o → pre.length + l.length ≤ i → v_T (F s) (fun _ t => m_Q g pre o s i (pre.length + l.length) (P (i, l)) t)
def m_k : vS → Option (Unit × vS) := fun s => some ((), s)
theorem m_R_f {g : Nat → Int32} {s : vS} {pre : List (Int32 × Int32)} {i o : Nat} {l : List (Int32 × Int32)} (h : m_R g s pre (i, l) o) : m_g g s ∧ (s.1 151 3).toInt = i ∧ i ≤ 60 := ⟨h.1, h.2.1, h.2.2.1⟩
theorem m_look {g : Nat → Int32} {s : vS} {i : Nat} (h : m_g g s ∧ (s.1 151 3).toInt = i ∧ i ≤ 60) : f_Md_look s = some (m_let s i, s) := by
  obtain ⟨h1, h2, h3⟩ := h
  have h4 := h1.1
  unfold f_Md_look m_let
  by_cases c1 : (s.1 151 2).toInt ≤ (s.1 151 3).toInt
  · rw [if_pos c1, if_pos (by omega)]
  · rw [if_neg c1, if_pos ⟨by omega, by omega⟩, if_neg (by omega)]
    have e : (s.1 151 3).toNatClampNeg = i := by rw [v_nc]; omega
    rw [e]
theorem m_sign {g : Nat → Int32} {s : vS} {i : Nat} (h : m_g g s) {c : Int} (hc : 0 ≤ c ∧ c < 128) : (m_let s i).toInt = c ↔ (g i).toInt = c := by
  rw [h.2 i]
  exact g_ab_eq hc
theorem m_raw {g : Nat → Int32} {s : vS} {i : Nat} (h : m_g g s) (hb : 0 ≤ (g i).toInt) : m_let s i = g i := by
  have h1 := h.2 i
  rw [h1] at hb ⊢
  exact (g_ab_id hb).symm
set_option maxRecDepth 100000 in
theorem m_by0 : (List.range 128).all (fun j => decide (vp_nar .byte (Int8.toInt32 (Int32.toInt8 (Int32.ofNat j))) = Int32.ofNat j)) = true := by decide +kernel
theorem m_by {b : Int32} (h : 0 ≤ b.toInt ∧ b.toInt < 128) : vp_nar .byte (Int8.toInt32 (Int32.toInt8 b)) = b := by
  have h1 := List.all_eq_true.mp m_by0 b.toInt.toNat (List.mem_range.mpr (by omega))
  have h2 := of_decide_eq_true h1
  rw [← v_of h.1] at h2
  exact h2
theorem m_1300 {x : Int32} (h : 0 ≤ x.toInt ∧ x.toInt ≤ 200) : ((1300 : Int32) + x).toInt = 1300 + x.toInt := i32_add (x := 1300) (show -2 ^ 31 ≤ (1300 : Int) + x.toInt by omega) (show (1300 : Int) + x.toInt < 2 ^ 31 by omega)
theorem m_add {g : Nat → Int32} {s : vS} {pre : List (Int32 × Int32)} {i o : Nat} {l : List (Int32 × Int32)} (h : m_R g s pre (i, l) o) {b c : Int32} (hb : 0 ≤ b.toInt ∧ b.toInt < 128) (hi : pre.length + l.length ≤ 129) : v_T (f_Md_addStep b c s) (fun _ t => v_F m_pd s t ∧ m_R g t pre (i, l ++ [(b, c)]) o) := by
  obtain ⟨h1, h2, h3, h4, h5, h6, h7⟩ := h
  dsimp only at h2 h3 h6 h7
  have e1 := m_1300 (x := s.1 151 6) ⟨by omega, by omega⟩
  have e2 : ((1300 : Int32) + s.1 151 6).toNatClampNeg = 1300 + (pre.length + l.length) := by rw [v_nc, e1]; omega
  unfold f_Md_addStep
  rw [if_pos ⟨by omega, by omega⟩]
  refine v_Tlet ?_
  rw [e2, m_by hb]
  have e3 : (v_w1 s 153 (1300 + (pre.length + l.length)) b).1 151 6 = s.1 151 6 := by rw [v_w1_1, if_neg (by omega)]
  rw [e3, if_pos ⟨by omega, by omega⟩, e2]
  refine v_Tlet (v_Tlet (v_Tret ?_))
  have e4 : (v_w1 (v_w1 s 153 (1300 + (pre.length + l.length)) b) 154 (1300 + (pre.length + l.length)) c).1 151 6 = s.1 151 6 := by rw [v_w1_1, if_neg (by omega)]; exact e3
  have hf : v_F m_pd s (v_w1 (v_w1 (v_w1 s 153 (1300 + (pre.length + l.length)) b) 154 (1300 + (pre.length + l.length)) c) 151 6 ((v_w1 (v_w1 s 153 (1300 + (pre.length + l.length)) b) 154 (1300 + (pre.length + l.length)) c).1 151 6 + 1)) := v_F_w1 (v_F_w1 (v_F_w1 v_F_rf (by unfold m_pd; omega)) (by unfold m_pd; omega)) (by unfold m_pd; omega)
  refine ⟨hf, m_g_F h1 hf, ?_, h3, ?_, ?_, ?_, ?_⟩
  · rw [v_w1_1, if_neg (by omega), v_w1_1, if_neg (by omega), v_w1_1, if_neg (by omega)]
    exact h2
  · rw [v_w1_1, if_neg (by omega), v_w1_1, if_neg (by omega), v_w1_1, if_neg (by omega)]
    exact h4
  · rw [v_w1_1, if_neg (by omega), v_w1_1, if_neg (by omega), v_w1_1, if_neg (by omega)]
    exact h5
  · rw [v_w1_1, if_pos ⟨rfl, rfl⟩, e4, v_inc (by omega), h6, List.length_append]
    show _ = (pre.length : Int) + ((l.length + 1 : Nat) : Int)
    omega
  · try dsimp only
    rw [← List.append_assoc]
    refine g_row_add h7 ?_ (fun j hj _ => ?_)
    · try dsimp only
      rw [List.length_append, v_w1_1, if_neg (by omega), v_w1_1, if_neg (by omega), v_w1_1, if_pos ⟨rfl, rfl⟩, v_w1_1, if_neg (by omega), v_w1_1, if_pos ⟨rfl, rfl⟩]
    · try dsimp only
      rw [List.length_append] at hj
      rw [v_w1_1, if_neg (by omega), v_w1_1, if_neg (by omega), v_w1_1, if_neg (by omega), v_w1_1, if_neg (by omega), v_w1_1, if_neg (by omega), v_w1_1, if_neg (by omega)]
theorem m_addf {g : Nat → Int32} {s : vS} {i i0 L0 : Nat} (h : m_Rf g s i i0 L0) (hL : L0 ≤ i0 + 2) {b c : Int32} : v_T (f_Md_addStep b c s) (fun _ t => v_F m_pd s t ∧ m_Rf g t i i0 (L0 + 1)) := by
  obtain ⟨h1, h2, h3, h4, h5, h6⟩ := h
  have e1 := m_1300 (x := s.1 151 6) ⟨by omega, by omega⟩
  have e2 : ((1300 : Int32) + s.1 151 6).toNatClampNeg = 1300 + (s.1 151 6).toInt.toNat := by rw [v_nc, e1]; omega
  unfold f_Md_addStep
  rw [if_pos ⟨by omega, by omega⟩]
  refine v_Tlet ?_
  rw [e2]
  have e3 : (v_w1 s 153 (1300 + (s.1 151 6).toInt.toNat) (vp_nar .byte (Int8.toInt32 (Int32.toInt8 b)))).1 151 6 = s.1 151 6 := by rw [v_w1_1, if_neg (by omega)]
  rw [e3, if_pos ⟨by omega, by omega⟩, e2]
  refine v_Tlet (v_Tlet (v_Tret ?_))
  have e4 : (v_w1 (v_w1 s 153 (1300 + (s.1 151 6).toInt.toNat) (vp_nar .byte (Int8.toInt32 (Int32.toInt8 b)))) 154 (1300 + (s.1 151 6).toInt.toNat) c).1 151 6 = s.1 151 6 := by rw [v_w1_1, if_neg (by omega)]; exact e3
  have hf : v_F m_pd s (v_w1 (v_w1 (v_w1 s 153 (1300 + (s.1 151 6).toInt.toNat) (vp_nar .byte (Int8.toInt32 (Int32.toInt8 b)))) 154 (1300 + (s.1 151 6).toInt.toNat) c) 151 6 ((v_w1 (v_w1 s 153 (1300 + (s.1 151 6).toInt.toNat) (vp_nar .byte (Int8.toInt32 (Int32.toInt8 b)))) 154 (1300 + (s.1 151 6).toInt.toNat) c).1 151 6 + 1)) := v_F_w1 (v_F_w1 (v_F_w1 v_F_rf (by unfold m_pd; omega)) (by unfold m_pd; omega)) (by unfold m_pd; omega)
  refine ⟨hf, m_g_F h1 hf, ?_, h3, ?_, ?_, ?_⟩
  · rw [v_w1_1, if_neg (by omega), v_w1_1, if_neg (by omega), v_w1_1, if_neg (by omega)]
    exact h2
  · rw [v_w1_1, if_neg (by omega), v_w1_1, if_neg (by omega), v_w1_1, if_neg (by omega)]
    exact h4
  · rw [v_w1_1, if_pos ⟨rfl, rfl⟩, e4, v_inc (by omega)]
    omega
  · rw [v_w1_1, if_pos ⟨rfl, rfl⟩, e4, v_inc (by omega)]
    omega
theorem m_set {g : Nat → Int32} {s : vS} {pre : List (Int32 × Int32)} {i o : Nat} {l : List (Int32 × Int32)} (h : m_R g s pre (i, l) o) {j : Nat} {x : Int32} (hj : j = 3 ∨ j = 5) {i2 o2 : Nat} (hi : i2 ≤ 60) (h1 : if j = 3 then (x.toInt = i2 ∧ o2 = o) else (x.toInt = o2 ∧ i2 = i)) : m_R g (v_w1 s 151 j x) pre (i2, l) o2 ∧ v_F m_pd s (v_w1 s 151 j x) := by
  obtain ⟨a1, a2, a3, a4, a5, a6, a7⟩ := h
  dsimp only at a2 a3 a6 a7
  have hf : v_F m_pd s (v_w1 s 151 j x) := v_F_w1 v_F_rf (by unfold m_pd; omega)
  rcases hj with rfl | rfl
  · rw [if_pos rfl] at h1
    refine ⟨⟨m_g_F a1 hf, ?_, hi, ?_, ?_, ?_, ?_⟩, hf⟩
    · rw [v_w1_1, if_pos ⟨rfl, rfl⟩]
      exact h1.1
    · rw [v_w1_1, if_neg (by omega)]
      exact a4
    · rw [v_w1_1, if_neg (by omega), h1.2]
      exact a5
    · rw [v_w1_1, if_neg (by omega)]
      exact a6
    · refine g_row_eq a7 (fun j _ _ => ?_)
      try dsimp only
      rw [v_w1_1, if_neg (by omega), v_w1_1, if_neg (by omega)]
  · rw [if_neg (by decide)] at h1
    refine ⟨⟨m_g_F a1 hf, ?_, hi, ?_, ?_, ?_, ?_⟩, hf⟩
    · rw [v_w1_1, if_neg (by omega), h1.2]
      exact a2
    · rw [v_w1_1, if_neg (by omega)]
      exact a4
    · rw [v_w1_1, if_pos ⟨rfl, rfl⟩]
      exact h1.1
    · rw [v_w1_1, if_neg (by omega)]
      exact a6
    · refine g_row_eq a7 (fun j _ _ => ?_)
      try dsimp only
      rw [v_w1_1, if_neg (by omega), v_w1_1, if_neg (by omega)]
theorem m_adv {g : Nat → Int32} {s : vS} {pre : List (Int32 × Int32)} {i o : Nat} {l : List (Int32 × Int32)} (h : m_R g s pre (i, l) o) (hi : i < 60) : m_R g (v_w1 s 151 3 (s.1 151 3 + 1)) pre (i + 1, l) o ∧ v_F m_pd s (v_w1 s 151 3 (s.1 151 3 + 1)) := by
  have h2 := h.2.1
  dsimp only at h2
  refine m_set h (Or.inl rfl) (by omega) ?_
  rw [if_pos rfl]
  exact ⟨by rw [v_inc (by omega)]; omega, rfl⟩
theorem m_faulty {g : Nat → Int32} {s : vS} {pre : List (Int32 × Int32)} {i o : Nat} {l : List (Int32 × Int32)} (h : m_R g s pre (i, l) o) {i0 L0 : Nat} (hl : pre.length + l.length + i0 ≤ L0 + i + 1) : v_T (f_Md_faulty s) (fun _ t => v_F m_pd s t ∧ m_Rf g t i i0 L0) := by
  obtain ⟨a1, a2, a3, a4, a5, a6, a7⟩ := h
  dsimp only at a2 a3 a6
  unfold f_Md_faulty
  rw [if_neg (by omega)]
  have hf : v_F m_pd s (v_w1 s 151 4 (s.1 151 3)) := v_F_w1 v_F_rf (by unfold m_pd; omega)
  refine v_Tlet (v_Tret ⟨hf, m_g_F a1 hf, ?_, a3, ?_, ?_, ?_⟩)
  · rw [v_w1_1, if_neg (by omega)]
    exact a2
  · rw [v_w1_1, if_pos ⟨rfl, rfl⟩]
    exact a2
  · rw [v_w1_1, if_neg (by omega)]
    omega
  · rw [v_w1_1, if_neg (by omega)]
    omega
theorem m_step {g : Nat → Int32} {P : gS → gR} {o : Nat} {F : vS → Option (Unit × vS)} (hF : m_ok g P o F) (hP : g_ok P) {s0 s : vS} {pre : List (Int32 × Int32)} {i : Nat} {l : List (Int32 × Int32)} (h : m_R g s pre (i, l) o) (hb : pre.length + l.length ≤ i) (h0 : v_F m_pd s0 s) (hi : i < 60) (hbin : g_bin (g i)) {K : vS → Option (Unit × vS)} {Q : Unit → vS → Prop} (hs : ∀ t, (P (i + 1, l)).1 = true → i < (P (i + 1, l)).2.1 → pre.length + ((P (i + 1, l)).2.2 ++ [(g i, (0 : Int32))]).length + i ≤ pre.length + l.length + (P (i + 1, l)).2.1 → m_R g t pre ((P (i + 1, l)).2.1, (P (i + 1, l)).2.2 ++ [(g i, 0)]) o → v_F m_pd s0 t → v_T (K t) Q) (hf : ∀ t, (P (i + 1, l)).1 = false → m_Rf g t (P (i + 1, l)).2.1 i (pre.length + l.length) → v_F m_pd s0 t → v_T (K t) Q) : v_T (v_bi (F (v_w1 s 151 3 (s.1 151 3 + 1))) (fun _ s => v_bi (f_Md_addStep (g i) 0 s) (fun _ s => K s))) Q := by
  obtain ⟨h1, h2⟩ := m_adv h hi
  refine v_Tbi (hF _ pre (i + 1) l h1 (by omega)) ?_
  rintro _ t ⟨h3, h4⟩
  have h5 := v_F_tr h0 (v_F_tr h2 h3)
  have hpo := hP (i + 1) l (by omega)
  rcases h4 with ⟨a1, a3⟩ | ⟨a1, a3⟩
  · obtain ⟨b4, d, b5, b6, -⟩ := hpo.2.2 a1
    have hl : (P (i + 1, l)).2.2.length = l.length + d.length := by rw [b5, List.length_append]
    have h60 := hpo.2.1
    refine v_Tbi (m_add (i := (P (i + 1, l)).2.1) (l := (P (i + 1, l)).2.2) a3 (b := g i) (c := 0) ⟨by have := hbin.1; omega, by have := hbin.2; omega⟩ (by omega)) ?_
    rintro _ u ⟨c1, c2⟩
    exact hs u a1 (by omega) (by rw [List.length_append]; show pre.length + ((P (i + 1, l)).2.2.length + 1) + i ≤ _; omega) c2 (v_F_tr h5 c1)
  · refine v_Tbi (m_addf a3 (by omega)) ?_
    rintro _ u ⟨c1, c2⟩
    exact hf u a1 (m_Rf_up c2 (by omega)) (v_F_tr h5 c1)
theorem m_stepc {g : Nat → Int32} {P : gS → gR} {o : Nat} {F : vS → Option (Unit × vS)} {w : Int32} {i : Nat} (hw : g i = w) (hF : m_ok g P o F) (hP : g_ok P) {s0 s : vS} {pre : List (Int32 × Int32)} {l : List (Int32 × Int32)} (h : m_R g s pre (i, l) o) (hb : pre.length + l.length ≤ i) (h0 : v_F m_pd s0 s) (hi : i < 60) (hbin : g_bin (g i)) {K : vS → Option (Unit × vS)} {Q : Unit → vS → Prop} (hs : ∀ t, (P (i + 1, l)).1 = true → i < (P (i + 1, l)).2.1 → pre.length + ((P (i + 1, l)).2.2 ++ [(g i, (0 : Int32))]).length + i ≤ pre.length + l.length + (P (i + 1, l)).2.1 → m_R g t pre ((P (i + 1, l)).2.1, (P (i + 1, l)).2.2 ++ [(g i, 0)]) o → v_F m_pd s0 t → v_T (K t) Q) (hf : ∀ t, (P (i + 1, l)).1 = false → m_Rf g t (P (i + 1, l)).2.1 i (pre.length + l.length) → v_F m_pd s0 t → v_T (K t) Q) : v_T (v_bi (F (v_w1 s 151 3 (s.1 151 3 + 1))) (fun _ s => v_bi (f_Md_addStep w 0 s) (fun _ s => K s))) Q := by
  subst hw
  exact m_step hF hP h hb h0 hi hbin hs hf
theorem m_prT {rec : vS → Option (Unit × vS)} {s : vS} {n : Nat} {Q : Unit → vS → Prop} (h : 0 ≤ (s.1 151 4).toInt) (hQ : Q () s) (hn : 0 < n) : v_T (f_Md_product_L4 rec m_k n s) Q := by
  obtain ⟨n, rfl⟩ : ∃ q, n = q + 1 := ⟨n - 1, by omega⟩
  show v_T (f_Md_product_L4b rec m_k (f_Md_product_L4 rec m_k n) s) _
  unfold f_Md_product_L4b
  rw [if_pos h]
  exact v_Tret hQ
theorem m_prL {g : Nat → Int32} {P : gS → gR} {rec : vS → Option (Unit × vS)} {o : Nat} (hF : m_ok g P o (rec)) (hP : g_ok P) (pre : List (Int32 × Int32)) (s0 : vS) (i0 L0 : Nat) (hL0 : L0 ≤ i0) : ∀ (m n : Nat) (s : vS) (i : Nat) (l : List (Int32 × Int32)), m_R g s pre (i, l) o → pre.length + l.length ≤ i → pre.length + l.length + i0 ≤ L0 + i → v_F m_pd s0 s → 60 ≤ i + m → m + 1 < n → v_T (f_Md_product_L4 rec m_k n s) (fun _ t => m_Q g pre o s0 i0 L0 (g_ch g P g_q1 m (i, l)) t) := by
  intro m
  induction m with
  | zero =>
    intro n s i l h hb hc h0 hm hn
    obtain ⟨n, rfl⟩ : ∃ q, n = q + 1 := ⟨n - 1, by omega⟩
    have hg := m_g_ltr h.1 i (by omega)
    have hq : ¬ g_q1 (g i) = true := by rw [hg]; decide
    rw [g_ch_no hq]
    show v_T (f_Md_product_L4b rec m_k (f_Md_product_L4 rec m_k n) s) _
    unfold f_Md_product_L4b
    rw [if_neg (by have := h.2.2.2.1; omega)]
    rw [m_look (i := i) (m_R_f h), v_bi_some, if_neg (fun z => hq (by unfold g_q1; rw [decide_eq_true_eq]; have := (m_sign h.1 (i := i) (c := 42) (by omega)).mp z; omega))]
    rw [m_look (i := i) (m_R_f h), v_bi_some, if_neg (fun z => hq (by unfold g_q1; rw [decide_eq_true_eq]; have := (m_sign h.1 (i := i) (c := 47) (by omega)).mp z; omega))]
    rw [m_look (i := i) (m_R_f h), v_bi_some, if_neg (fun z => hq (by unfold g_q1; rw [decide_eq_true_eq]; have := (m_sign h.1 (i := i) (c := 37) (by omega)).mp z; omega))]
    exact v_Tret ⟨h0, Or.inl ⟨rfl, h⟩⟩
  | succ m ih =>
    intro n s i l h hb hc h0 hm hn
    obtain ⟨n, rfl⟩ : ∃ q, n = q + 1 := ⟨n - 1, by omega⟩
    show v_T (f_Md_product_L4b rec m_k (f_Md_product_L4 rec m_k n) s) _
    unfold f_Md_product_L4b
    rw [if_neg (by have := h.2.2.2.1; omega)]
    by_cases hq : g_q1 (g i) = true
    · have hc2 := of_decide_eq_true hq
      have hbin : g_bin (g i) := g_q1b hq
      have hi : i < 60 := g_lt (m_g_ltr h.1) (by omega)
      rcases hc2 with e | e | e
      · rw [m_look (i := i) (m_R_f h), v_bi_some, if_pos ((m_sign h.1 (by omega)).mpr e), m_look (i := i) (m_R_f h), v_bi_some, m_raw h.1 (i := i) (by omega)]
        refine v_Tlet (m_step hF hP h hb h0 hi hbin (fun t a1 a2 a5 a3 a4 => ?_) (fun t a1 a3 a4 => ?_))
        · rw [g_ch_t hq a1]
          exact ih _ t _ _ a3 (by omega) (by omega) a4 (by omega) (by omega)
        · rw [g_ch_f hq a1]
          exact m_prT (by rw [a3.2.2.2.1]; omega) ⟨a4, Or.inr ⟨a1, m_Rf_up a3 (by omega)⟩⟩ (by omega)
      · rw [m_look (i := i) (m_R_f h), v_bi_some, if_neg (fun z => by have := (m_sign h.1 (i := i) (c := 42) (by omega)).mp z; omega), m_look (i := i) (m_R_f h), v_bi_some, if_pos ((m_sign h.1 (by omega)).mpr e), m_look (i := i) (m_R_f h), v_bi_some, m_raw h.1 (i := i) (by omega)]
        refine v_Tlet (m_step hF hP h hb h0 hi hbin (fun t a1 a2 a5 a3 a4 => ?_) (fun t a1 a3 a4 => ?_))
        · rw [g_ch_t hq a1]
          exact ih _ t _ _ a3 (by omega) (by omega) a4 (by omega) (by omega)
        · rw [g_ch_f hq a1]
          exact m_prT (by rw [a3.2.2.2.1]; omega) ⟨a4, Or.inr ⟨a1, m_Rf_up a3 (by omega)⟩⟩ (by omega)
      · rw [m_look (i := i) (m_R_f h), v_bi_some, if_neg (fun z => by have := (m_sign h.1 (i := i) (c := 42) (by omega)).mp z; omega), m_look (i := i) (m_R_f h), v_bi_some, if_neg (fun z => by have := (m_sign h.1 (i := i) (c := 47) (by omega)).mp z; omega), m_look (i := i) (m_R_f h), v_bi_some, if_pos ((m_sign h.1 (by omega)).mpr e), m_look (i := i) (m_R_f h), v_bi_some, m_raw h.1 (i := i) (by omega)]
        refine v_Tlet (m_step hF hP h hb h0 hi hbin (fun t a1 a2 a5 a3 a4 => ?_) (fun t a1 a3 a4 => ?_))
        · rw [g_ch_t hq a1]
          exact ih _ t _ _ a3 (by omega) (by omega) a4 (by omega) (by omega)
        · rw [g_ch_f hq a1]
          exact m_prT (by rw [a3.2.2.2.1]; omega) ⟨a4, Or.inr ⟨a1, m_Rf_up a3 (by omega)⟩⟩ (by omega)
    · rw [g_ch_no hq]
      rw [m_look (i := i) (m_R_f h), v_bi_some, if_neg (fun z => hq (by unfold g_q1; rw [decide_eq_true_eq]; have := (m_sign h.1 (i := i) (c := 42) (by omega)).mp z; omega))]
      rw [m_look (i := i) (m_R_f h), v_bi_some, if_neg (fun z => hq (by unfold g_q1; rw [decide_eq_true_eq]; have := (m_sign h.1 (i := i) (c := 47) (by omega)).mp z; omega))]
      rw [m_look (i := i) (m_R_f h), v_bi_some, if_neg (fun z => hq (by unfold g_q1; rw [decide_eq_true_eq]; have := (m_sign h.1 (i := i) (c := 37) (by omega)).mp z; omega))]
      exact v_Tret ⟨h0, Or.inl ⟨rfl, h⟩⟩
theorem m_pr {g : Nat → Int32} {P : gS → gR} {rec : vS → Option (Unit × vS)} {o : Nat} (hF : m_ok g P o (rec)) (hP : g_ok P) : m_ok g (fun st => g_th (P st) (g_ch g P g_q1 60)) o (f_Md_product rec) := by
  intro s pre i l h hb
  have hi60 := h.2.2.1
  dsimp only at hi60
  unfold f_Md_product
  refine v_Tbi (hF s pre i l h hb) ?_
  rintro _ t ⟨h1, h2⟩
  show v_T (f_Md_product_L4 rec m_k 4096 t) (fun _ t => m_Q g pre o s i (pre.length + l.length) (g_th (P (i, l)) (g_ch g P g_q1 60)) t)
  rcases h2 with ⟨a1, a3⟩ | ⟨a1, a3⟩
  · rw [show g_th (P (i, l)) (g_ch g P g_q1 60) = g_ch g P g_q1 60 ((P (i, l)).2.1, (P (i, l)).2.2) from if_pos a1]
    obtain ⟨b1, d, b2, b3, -⟩ := (hP i l hi60).2.2 a1
    have hl : (P (i, l)).2.2.length = l.length + d.length := by rw [b2, List.length_append]
    exact m_prL hF hP pre s i (pre.length + l.length) hb 60 4096 t _ _ a3 (by omega) (by omega) h1 (by omega) (by decide)
  · rw [show g_th (P (i, l)) (g_ch g P g_q1 60) = P (i, l) from if_neg (by rw [a1]; decide)]
    exact m_prT (by rw [a3.2.2.2.1]; omega) ⟨h1, Or.inr ⟨a1, a3⟩⟩ (by decide)
theorem m_suT {rec : vS → Option (Unit × vS)} {s : vS} {n : Nat} {Q : Unit → vS → Prop} (h : 0 ≤ (s.1 151 4).toInt) (hQ : Q () s) (hn : 0 < n) : v_T (f_Md_sum_L4 rec m_k n s) Q := by
  obtain ⟨n, rfl⟩ : ∃ q, n = q + 1 := ⟨n - 1, by omega⟩
  show v_T (f_Md_sum_L4b rec m_k (f_Md_sum_L4 rec m_k n) s) _
  unfold f_Md_sum_L4b
  rw [if_pos h]
  exact v_Tret hQ
theorem m_suL {g : Nat → Int32} {P : gS → gR} {rec : vS → Option (Unit × vS)} {o : Nat} (hF : m_ok g P o (f_Md_product rec)) (hP : g_ok P) (pre : List (Int32 × Int32)) (s0 : vS) (i0 L0 : Nat) (hL0 : L0 ≤ i0) : ∀ (m n : Nat) (s : vS) (i : Nat) (l : List (Int32 × Int32)), m_R g s pre (i, l) o → pre.length + l.length ≤ i → pre.length + l.length + i0 ≤ L0 + i → v_F m_pd s0 s → 60 ≤ i + m → m + 1 < n → v_T (f_Md_sum_L4 rec m_k n s) (fun _ t => m_Q g pre o s0 i0 L0 (g_ch g P g_q2 m (i, l)) t) := by
  intro m
  induction m with
  | zero =>
    intro n s i l h hb hc h0 hm hn
    obtain ⟨n, rfl⟩ : ∃ q, n = q + 1 := ⟨n - 1, by omega⟩
    have hg := m_g_ltr h.1 i (by omega)
    have hq : ¬ g_q2 (g i) = true := by rw [hg]; decide
    rw [g_ch_no hq]
    show v_T (f_Md_sum_L4b rec m_k (f_Md_sum_L4 rec m_k n) s) _
    unfold f_Md_sum_L4b
    rw [if_neg (by have := h.2.2.2.1; omega)]
    rw [m_look (i := i) (m_R_f h), v_bi_some, if_neg (fun z => hq (by unfold g_q2; rw [decide_eq_true_eq]; have := (m_sign h.1 (i := i) (c := 43) (by omega)).mp z; omega))]
    rw [m_look (i := i) (m_R_f h), v_bi_some, if_neg (fun z => hq (by unfold g_q2; rw [decide_eq_true_eq]; have := (m_sign h.1 (i := i) (c := 45) (by omega)).mp z; omega))]
    exact v_Tret ⟨h0, Or.inl ⟨rfl, h⟩⟩
  | succ m ih =>
    intro n s i l h hb hc h0 hm hn
    obtain ⟨n, rfl⟩ : ∃ q, n = q + 1 := ⟨n - 1, by omega⟩
    show v_T (f_Md_sum_L4b rec m_k (f_Md_sum_L4 rec m_k n) s) _
    unfold f_Md_sum_L4b
    rw [if_neg (by have := h.2.2.2.1; omega)]
    by_cases hq : g_q2 (g i) = true
    · have hc2 := of_decide_eq_true hq
      have hbin : g_bin (g i) := g_q2b hq
      have hi : i < 60 := g_lt (m_g_ltr h.1) (by omega)
      rcases hc2 with e | e
      · rw [m_look (i := i) (m_R_f h), v_bi_some, if_pos ((m_sign h.1 (by omega)).mpr e), m_look (i := i) (m_R_f h), v_bi_some, m_raw h.1 (i := i) (by omega)]
        refine v_Tlet (m_step hF hP h hb h0 hi hbin (fun t a1 a2 a5 a3 a4 => ?_) (fun t a1 a3 a4 => ?_))
        · rw [g_ch_t hq a1]
          exact ih _ t _ _ a3 (by omega) (by omega) a4 (by omega) (by omega)
        · rw [g_ch_f hq a1]
          exact m_suT (by rw [a3.2.2.2.1]; omega) ⟨a4, Or.inr ⟨a1, m_Rf_up a3 (by omega)⟩⟩ (by omega)
      · rw [m_look (i := i) (m_R_f h), v_bi_some, if_neg (fun z => by have := (m_sign h.1 (i := i) (c := 43) (by omega)).mp z; omega), m_look (i := i) (m_R_f h), v_bi_some, if_pos ((m_sign h.1 (by omega)).mpr e), m_look (i := i) (m_R_f h), v_bi_some, m_raw h.1 (i := i) (by omega)]
        refine v_Tlet (m_step hF hP h hb h0 hi hbin (fun t a1 a2 a5 a3 a4 => ?_) (fun t a1 a3 a4 => ?_))
        · rw [g_ch_t hq a1]
          exact ih _ t _ _ a3 (by omega) (by omega) a4 (by omega) (by omega)
        · rw [g_ch_f hq a1]
          exact m_suT (by rw [a3.2.2.2.1]; omega) ⟨a4, Or.inr ⟨a1, m_Rf_up a3 (by omega)⟩⟩ (by omega)
    · rw [g_ch_no hq]
      rw [m_look (i := i) (m_R_f h), v_bi_some, if_neg (fun z => hq (by unfold g_q2; rw [decide_eq_true_eq]; have := (m_sign h.1 (i := i) (c := 43) (by omega)).mp z; omega))]
      rw [m_look (i := i) (m_R_f h), v_bi_some, if_neg (fun z => hq (by unfold g_q2; rw [decide_eq_true_eq]; have := (m_sign h.1 (i := i) (c := 45) (by omega)).mp z; omega))]
      exact v_Tret ⟨h0, Or.inl ⟨rfl, h⟩⟩
theorem m_su {g : Nat → Int32} {P : gS → gR} {rec : vS → Option (Unit × vS)} {o : Nat} (hF : m_ok g P o (f_Md_product rec)) (hP : g_ok P) : m_ok g (fun st => g_th (P st) (g_ch g P g_q2 60)) o (f_Md_sum rec) := by
  intro s pre i l h hb
  have hi60 := h.2.2.1
  dsimp only at hi60
  unfold f_Md_sum
  refine v_Tbi (hF s pre i l h hb) ?_
  rintro _ t ⟨h1, h2⟩
  show v_T (f_Md_sum_L4 rec m_k 4096 t) (fun _ t => m_Q g pre o s i (pre.length + l.length) (g_th (P (i, l)) (g_ch g P g_q2 60)) t)
  rcases h2 with ⟨a1, a3⟩ | ⟨a1, a3⟩
  · rw [show g_th (P (i, l)) (g_ch g P g_q2 60) = g_ch g P g_q2 60 ((P (i, l)).2.1, (P (i, l)).2.2) from if_pos a1]
    obtain ⟨b1, d, b2, b3, -⟩ := (hP i l hi60).2.2 a1
    have hl : (P (i, l)).2.2.length = l.length + d.length := by rw [b2, List.length_append]
    exact m_suL hF hP pre s i (pre.length + l.length) hb 60 4096 t _ _ a3 (by omega) (by omega) h1 (by omega) (by decide)
  · rw [show g_th (P (i, l)) (g_ch g P g_q2 60) = P (i, l) from if_neg (by rw [a1]; decide)]
    exact m_suT (by rw [a3.2.2.2.1]; omega) ⟨h1, Or.inr ⟨a1, a3⟩⟩ (by decide)
theorem m_cm {g : Nat → Int32} {P : gS → gR} {rec : vS → Option (Unit × vS)} {o : Nat} (hF : m_ok g P o (f_Md_sum rec)) (hP : g_ok P) : m_ok g (fun st => g_th (P st) (fun t => if g_q3 (g t.1) = true then g_th (P (t.1 + 1, t.2)) (fun u => (true, (u.1, u.2 ++ [(g t.1, 0)]))) else (true, t))) o (f_Md_compared rec) := by
  intro s pre i l h hb
  have hi60 := h.2.2.1
  dsimp only at hi60
  unfold f_Md_compared
  refine v_Tbi (hF s pre i l h hb) ?_
  rintro _ t ⟨h1, h2⟩
  dsimp only
  rcases h2 with ⟨a1, a3⟩ | ⟨a1, a3⟩
  · obtain ⟨b1, d, b2, b3, -⟩ := (hP i l hi60).2.2 a1
    have hl : (P (i, l)).2.2.length = l.length + d.length := by rw [b2, List.length_append]
    rw [show g_th (P (i, l)) (fun t => if g_q3 (g t.1) = true then g_th (P (t.1 + 1, t.2)) (fun u => ((true, (u.1, u.2 ++ [(g t.1, 0)])) : gR)) else (true, t)) = (fun t : gS => if g_q3 (g t.1) = true then g_th (P (t.1 + 1, t.2)) (fun u => ((true, (u.1, u.2 ++ [(g t.1, 0)])) : gR)) else (true, t)) (P (i, l)).2 from if_pos a1]
    generalize (P (i, l)).2 = st at a3 b1 b3 hl ⊢
    obtain ⟨j, m⟩ := st
    dsimp only at b1 b3 hl ⊢
    have hb2 : pre.length + m.length ≤ j := by omega
    rw [m_look (i := j) (m_R_f a3), v_bi_some, if_neg (by have := a3.2.2.2.1; omega)]
    by_cases hq : g_q3 (g j) = true
    · rw [if_pos hq]
      have hc := of_decide_eq_true hq
      have hbin : g_bin (g j) := g_q3b hq
      have hj : j < 60 := g_lt (m_g_ltr a3.1) (by omega)
      rcases hc with e | e | e
      · rw [if_pos ((m_sign a3.1 (by omega)).mpr e), m_raw a3.1 (i := j) (by omega)]
        refine v_Tlet (m_step hF hP a3 hb2 h1 hj hbin (fun u b1 b2 b5 b3 b4 => ?_) (fun u b1 b3 b4 => ?_))
        · rw [show g_th (P (j + 1, m)) (fun u => ((true, (u.1, u.2 ++ [(g j, 0)])) : gR)) = (true, ((P (j + 1, m)).2.1, (P (j + 1, m)).2.2 ++ [(g j, 0)])) from if_pos b1]
          exact v_Tret ⟨b4, Or.inl ⟨rfl, b3⟩⟩
        · rw [show g_th (P (j + 1, m)) (fun u => ((true, (u.1, u.2 ++ [(g j, 0)])) : gR)) = P (j + 1, m) from if_neg (by rw [b1]; decide)]
          exact v_Tret ⟨b4, Or.inr ⟨b1, m_Rf_up b3 (by omega)⟩⟩
      · rw [if_neg (fun z => by have := (m_sign a3.1 (i := j) (c := 60) (by omega)).mp z; omega), if_pos ((m_sign a3.1 (by omega)).mpr e), m_raw a3.1 (i := j) (by omega)]
        refine v_Tlet (m_step hF hP a3 hb2 h1 hj hbin (fun u b1 b2 b5 b3 b4 => ?_) (fun u b1 b3 b4 => ?_))
        · rw [show g_th (P (j + 1, m)) (fun u => ((true, (u.1, u.2 ++ [(g j, 0)])) : gR)) = (true, ((P (j + 1, m)).2.1, (P (j + 1, m)).2.2 ++ [(g j, 0)])) from if_pos b1]
          exact v_Tret ⟨b4, Or.inl ⟨rfl, b3⟩⟩
        · rw [show g_th (P (j + 1, m)) (fun u => ((true, (u.1, u.2 ++ [(g j, 0)])) : gR)) = P (j + 1, m) from if_neg (by rw [b1]; decide)]
          exact v_Tret ⟨b4, Or.inr ⟨b1, m_Rf_up b3 (by omega)⟩⟩
      · rw [if_neg (fun z => by have := (m_sign a3.1 (i := j) (c := 60) (by omega)).mp z; omega), if_neg (fun z => by have := (m_sign a3.1 (i := j) (c := 61) (by omega)).mp z; omega), if_pos ((m_sign a3.1 (by omega)).mpr e), m_raw a3.1 (i := j) (by omega)]
        refine v_Tlet (m_step hF hP a3 hb2 h1 hj hbin (fun u b1 b2 b5 b3 b4 => ?_) (fun u b1 b3 b4 => ?_))
        · rw [show g_th (P (j + 1, m)) (fun u => ((true, (u.1, u.2 ++ [(g j, 0)])) : gR)) = (true, ((P (j + 1, m)).2.1, (P (j + 1, m)).2.2 ++ [(g j, 0)])) from if_pos b1]
          exact v_Tret ⟨b4, Or.inl ⟨rfl, b3⟩⟩
        · rw [show g_th (P (j + 1, m)) (fun u => ((true, (u.1, u.2 ++ [(g j, 0)])) : gR)) = P (j + 1, m) from if_neg (by rw [b1]; decide)]
          exact v_Tret ⟨b4, Or.inr ⟨b1, m_Rf_up b3 (by omega)⟩⟩
    · rw [if_neg hq]
      rw [if_neg (fun z => hq (by unfold g_q3; rw [decide_eq_true_eq]; have := (m_sign a3.1 (i := j) (c := 60) (by omega)).mp z; omega))]
      rw [if_neg (fun z => hq (by unfold g_q3; rw [decide_eq_true_eq]; have := (m_sign a3.1 (i := j) (c := 61) (by omega)).mp z; omega))]
      rw [if_neg (fun z => hq (by unfold g_q3; rw [decide_eq_true_eq]; have := (m_sign a3.1 (i := j) (c := 62) (by omega)).mp z; omega))]
      exact v_Tret ⟨h1, Or.inl ⟨rfl, a3⟩⟩
  · rw [show g_th (P (i, l)) (fun t => if g_q3 (g t.1) = true then g_th (P (t.1 + 1, t.2)) (fun u => ((true, (u.1, u.2 ++ [(g t.1, 0)])) : gR)) else (true, t)) = P (i, l) from if_neg (by rw [a1]; decide)]
    rw [m_look (i := (P (i, l)).2.1) ⟨a3.1, a3.2.1, a3.2.2.1⟩, v_bi_some, if_pos (by rw [a3.2.2.2.1]; omega)]
    exact v_Tret ⟨h1, Or.inr ⟨a1, a3⟩⟩
theorem m_boT {rec : vS → Option (Unit × vS)} {s : vS} {n : Nat} {Q : Unit → vS → Prop} (h : 0 ≤ (s.1 151 4).toInt) (hQ : Q () s) (hn : 0 < n) : v_T (f_Md_both_L4 rec m_k n s) Q := by
  obtain ⟨n, rfl⟩ : ∃ q, n = q + 1 := ⟨n - 1, by omega⟩
  show v_T (f_Md_both_L4b rec m_k (f_Md_both_L4 rec m_k n) s) _
  unfold f_Md_both_L4b
  rw [if_pos h]
  exact v_Tret hQ
theorem m_boL {g : Nat → Int32} {P : gS → gR} {rec : vS → Option (Unit × vS)} {o : Nat} (hF : m_ok g P o (f_Md_compared rec)) (hP : g_ok P) (pre : List (Int32 × Int32)) (s0 : vS) (i0 L0 : Nat) (hL0 : L0 ≤ i0) : ∀ (m n : Nat) (s : vS) (i : Nat) (l : List (Int32 × Int32)), m_R g s pre (i, l) o → pre.length + l.length ≤ i → pre.length + l.length + i0 ≤ L0 + i → v_F m_pd s0 s → 60 ≤ i + m → m + 1 < n → v_T (f_Md_both_L4 rec m_k n s) (fun _ t => m_Q g pre o s0 i0 L0 (g_ch g P g_q4 m (i, l)) t) := by
  intro m
  induction m with
  | zero =>
    intro n s i l h hb hc h0 hm hn
    obtain ⟨n, rfl⟩ : ∃ q, n = q + 1 := ⟨n - 1, by omega⟩
    have hg := m_g_ltr h.1 i (by omega)
    have hq : ¬ g_q4 (g i) = true := by rw [hg]; decide
    rw [g_ch_no hq]
    show v_T (f_Md_both_L4b rec m_k (f_Md_both_L4 rec m_k n) s) _
    unfold f_Md_both_L4b
    rw [if_neg (by have := h.2.2.2.1; omega)]
    rw [m_look (i := i) (m_R_f h), v_bi_some, if_neg (fun z => hq (by unfold g_q4; rw [decide_eq_true_eq]; have := (m_sign h.1 (i := i) (c := 38) (by omega)).mp z; omega))]
    exact v_Tret ⟨h0, Or.inl ⟨rfl, h⟩⟩
  | succ m ih =>
    intro n s i l h hb hc h0 hm hn
    obtain ⟨n, rfl⟩ : ∃ q, n = q + 1 := ⟨n - 1, by omega⟩
    show v_T (f_Md_both_L4b rec m_k (f_Md_both_L4 rec m_k n) s) _
    unfold f_Md_both_L4b
    rw [if_neg (by have := h.2.2.2.1; omega)]
    by_cases hq : g_q4 (g i) = true
    · have hc2 := of_decide_eq_true hq
      have hbin : g_bin (g i) := g_q4b hq
      have hi : i < 60 := g_lt (m_g_ltr h.1) (by omega)
      rw [m_look (i := i) (m_R_f h), v_bi_some, if_pos ((m_sign h.1 (by omega)).mpr hc2)]
      refine v_Tlet (m_stepc (w := 38) (Int32.toInt_inj.mp hc2) hF hP h hb h0 hi hbin (fun t a1 a2 a5 a3 a4 => ?_) (fun t a1 a3 a4 => ?_))
      · rw [g_ch_t hq a1]
        exact ih _ t _ _ a3 (by omega) (by omega) a4 (by omega) (by omega)
      · rw [g_ch_f hq a1]
        exact m_boT (by rw [a3.2.2.2.1]; omega) ⟨a4, Or.inr ⟨a1, m_Rf_up a3 (by omega)⟩⟩ (by omega)
    · rw [g_ch_no hq]
      rw [m_look (i := i) (m_R_f h), v_bi_some, if_neg (fun z => hq (by unfold g_q4; rw [decide_eq_true_eq]; have := (m_sign h.1 (i := i) (c := 38) (by omega)).mp z; omega))]
      exact v_Tret ⟨h0, Or.inl ⟨rfl, h⟩⟩
theorem m_bo {g : Nat → Int32} {P : gS → gR} {rec : vS → Option (Unit × vS)} {o : Nat} (hF : m_ok g P o (f_Md_compared rec)) (hP : g_ok P) : m_ok g (fun st => g_th (P st) (g_ch g P g_q4 60)) o (f_Md_both rec) := by
  intro s pre i l h hb
  have hi60 := h.2.2.1
  dsimp only at hi60
  unfold f_Md_both
  refine v_Tbi (hF s pre i l h hb) ?_
  rintro _ t ⟨h1, h2⟩
  show v_T (f_Md_both_L4 rec m_k 4096 t) (fun _ t => m_Q g pre o s i (pre.length + l.length) (g_th (P (i, l)) (g_ch g P g_q4 60)) t)
  rcases h2 with ⟨a1, a3⟩ | ⟨a1, a3⟩
  · rw [show g_th (P (i, l)) (g_ch g P g_q4 60) = g_ch g P g_q4 60 ((P (i, l)).2.1, (P (i, l)).2.2) from if_pos a1]
    obtain ⟨b1, d, b2, b3, -⟩ := (hP i l hi60).2.2 a1
    have hl : (P (i, l)).2.2.length = l.length + d.length := by rw [b2, List.length_append]
    exact m_boL hF hP pre s i (pre.length + l.length) hb 60 4096 t _ _ a3 (by omega) (by omega) h1 (by omega) (by decide)
  · rw [show g_th (P (i, l)) (g_ch g P g_q4 60) = P (i, l) from if_neg (by rw [a1]; decide)]
    exact m_boT (by rw [a3.2.2.2.1]; omega) ⟨h1, Or.inr ⟨a1, a3⟩⟩ (by decide)
theorem m_eiT {rec : vS → Option (Unit × vS)} {s : vS} {n : Nat} {Q : Unit → vS → Prop} (h : 0 ≤ (s.1 151 4).toInt) (hQ : Q () s) (hn : 0 < n) : v_T (f_Md_either_L4 rec m_k n s) Q := by
  obtain ⟨n, rfl⟩ : ∃ q, n = q + 1 := ⟨n - 1, by omega⟩
  show v_T (f_Md_either_L4b rec m_k (f_Md_either_L4 rec m_k n) s) _
  unfold f_Md_either_L4b
  rw [if_pos h]
  exact v_Tret hQ
theorem m_eiL {g : Nat → Int32} {P : gS → gR} {rec : vS → Option (Unit × vS)} {o : Nat} (hF : m_ok g P o (f_Md_both rec)) (hP : g_ok P) (pre : List (Int32 × Int32)) (s0 : vS) (i0 L0 : Nat) (hL0 : L0 ≤ i0) : ∀ (m n : Nat) (s : vS) (i : Nat) (l : List (Int32 × Int32)), m_R g s pre (i, l) o → pre.length + l.length ≤ i → pre.length + l.length + i0 ≤ L0 + i → v_F m_pd s0 s → 60 ≤ i + m → m + 1 < n → v_T (f_Md_either_L4 rec m_k n s) (fun _ t => m_Q g pre o s0 i0 L0 (g_ch g P g_q5 m (i, l)) t) := by
  intro m
  induction m with
  | zero =>
    intro n s i l h hb hc h0 hm hn
    obtain ⟨n, rfl⟩ : ∃ q, n = q + 1 := ⟨n - 1, by omega⟩
    have hg := m_g_ltr h.1 i (by omega)
    have hq : ¬ g_q5 (g i) = true := by rw [hg]; decide
    rw [g_ch_no hq]
    show v_T (f_Md_either_L4b rec m_k (f_Md_either_L4 rec m_k n) s) _
    unfold f_Md_either_L4b
    rw [if_neg (by have := h.2.2.2.1; omega)]
    rw [m_look (i := i) (m_R_f h), v_bi_some, if_neg (fun z => hq (by unfold g_q5; rw [decide_eq_true_eq]; have := (m_sign h.1 (i := i) (c := 124) (by omega)).mp z; omega))]
    exact v_Tret ⟨h0, Or.inl ⟨rfl, h⟩⟩
  | succ m ih =>
    intro n s i l h hb hc h0 hm hn
    obtain ⟨n, rfl⟩ : ∃ q, n = q + 1 := ⟨n - 1, by omega⟩
    show v_T (f_Md_either_L4b rec m_k (f_Md_either_L4 rec m_k n) s) _
    unfold f_Md_either_L4b
    rw [if_neg (by have := h.2.2.2.1; omega)]
    by_cases hq : g_q5 (g i) = true
    · have hc2 := of_decide_eq_true hq
      have hbin : g_bin (g i) := g_q5b hq
      have hi : i < 60 := g_lt (m_g_ltr h.1) (by omega)
      rw [m_look (i := i) (m_R_f h), v_bi_some, if_pos ((m_sign h.1 (by omega)).mpr hc2)]
      refine v_Tlet (m_stepc (w := 124) (Int32.toInt_inj.mp hc2) hF hP h hb h0 hi hbin (fun t a1 a2 a5 a3 a4 => ?_) (fun t a1 a3 a4 => ?_))
      · rw [g_ch_t hq a1]
        exact ih _ t _ _ a3 (by omega) (by omega) a4 (by omega) (by omega)
      · rw [g_ch_f hq a1]
        exact m_eiT (by rw [a3.2.2.2.1]; omega) ⟨a4, Or.inr ⟨a1, m_Rf_up a3 (by omega)⟩⟩ (by omega)
    · rw [g_ch_no hq]
      rw [m_look (i := i) (m_R_f h), v_bi_some, if_neg (fun z => hq (by unfold g_q5; rw [decide_eq_true_eq]; have := (m_sign h.1 (i := i) (c := 124) (by omega)).mp z; omega))]
      exact v_Tret ⟨h0, Or.inl ⟨rfl, h⟩⟩
theorem m_ei {g : Nat → Int32} {P : gS → gR} {rec : vS → Option (Unit × vS)} {o : Nat} (hF : m_ok g P o (f_Md_both rec)) (hP : g_ok P) : m_ok g (fun st => g_th (P st) (g_ch g P g_q5 60)) o (f_Md_either rec) := by
  intro s pre i l h hb
  have hi60 := h.2.2.1
  dsimp only at hi60
  unfold f_Md_either
  refine v_Tbi (hF s pre i l h hb) ?_
  rintro _ t ⟨h1, h2⟩
  show v_T (f_Md_either_L4 rec m_k 4096 t) (fun _ t => m_Q g pre o s i (pre.length + l.length) (g_th (P (i, l)) (g_ch g P g_q5 60)) t)
  rcases h2 with ⟨a1, a3⟩ | ⟨a1, a3⟩
  · rw [show g_th (P (i, l)) (g_ch g P g_q5 60) = g_ch g P g_q5 60 ((P (i, l)).2.1, (P (i, l)).2.2) from if_pos a1]
    obtain ⟨b1, d, b2, b3, -⟩ := (hP i l hi60).2.2 a1
    have hl : (P (i, l)).2.2.length = l.length + d.length := by rw [b2, List.length_append]
    exact m_eiL hF hP pre s i (pre.length + l.length) hb 60 4096 t _ _ a3 (by omega) (by omega) h1 (by omega) (by decide)
  · rw [show g_th (P (i, l)) (g_ch g P g_q5 60) = P (i, l) from if_neg (by rw [a1]; decide)]
    exact m_eiT (by rw [a3.2.2.2.1]; omega) ⟨h1, Or.inr ⟨a1, a3⟩⟩ (by decide)
theorem m_Rf5 {g : Nat → Int32} {s : vS} {i i0 L0 : Nat} (h : m_Rf g s i i0 L0) (x : Int32) : m_Rf g (v_w1 s 151 5 x) i i0 L0 ∧ v_F m_pd s (v_w1 s 151 5 x) := by
  obtain ⟨h1, h2, h3, h4, h5, h6⟩ := h
  have hf : v_F m_pd s (v_w1 s 151 5 x) := v_F_w1 v_F_rf (by unfold m_pd; omega)
  refine ⟨⟨m_g_F h1 hf, ?_, h3, ?_, ?_, ?_⟩, hf⟩
  · rw [v_w1_1, if_neg (by omega)]
    exact h2
  · rw [v_w1_1, if_neg (by omega)]
    exact h4
  · rw [v_w1_1, if_neg (by omega)]
    exact h5
  · rw [v_w1_1, if_neg (by omega)]
    exact h6
theorem m_dig {x : Int32} {s : vS} : f_Md_in x 48 57 s = some (if g_dig x = true then 1 else 0, s) := by
  unfold f_Md_in
  show (if x.toInt < 48 then some ((0 : Int32), s) else if 57 < x.toInt then some (0, s) else some (1, s)) = _
  by_cases h : g_dig x = true
  · have := g_dig_sp h
    rw [if_neg (by omega), if_neg (by omega), if_pos h]
  · rw [if_neg h]
    by_cases h1 : x.toInt < 48
    · rw [if_pos h1]
    · rw [if_neg h1, if_pos (by
        by_cases h2 : 57 < x.toInt
        · exact h2
        · exact absurd (g_dig_i ⟨by omega, by omega⟩) h)]
theorem m_nameOf {x : Int32} {s : vS} : f_Md_nameOf x s = some (g_name x, s) := by
  unfold f_Md_nameOf g_name
  repeat' first
    | rfl
    | split
theorem m_numL {g : Nat → Int32} {s0 : vS} {pre : List (Int32 × Int32)} {l : List (Int32 × Int32)} {o : Nat} {k : Int32 → Int32 → vS → Option (Unit × vS)} {Q : Unit → vS → Prop} : ∀ (m n : Nat) (v w : Int32) (s : vS) (i : Nat), w.toInt + m = 4 → m ≤ 4 → m_R g s pre (i, l) o → v_F m_pd s0 s → m < n → (∀ t w2, m_R g t pre ((g_num g m i v).1, l) o → v_F m_pd s0 t → w2.toInt + i = w.toInt + (g_num g m i v).1 → v_T (k (g_num g m i v).2 w2 t) Q) → v_T (f_Md_figure_L4 k n v w s) Q := by
  intro m
  induction m with
  | zero =>
    intro n v w s i hm _ h h0 hn hk
    obtain ⟨n, rfl⟩ : ∃ q, n = q + 1 := ⟨n - 1, by omega⟩
    show v_T (f_Md_figure_L4b k (f_Md_figure_L4 k n) v w s) _
    unfold f_Md_figure_L4b
    rw [if_pos (by omega)]
    exact hk s w h h0 rfl
  | succ m ih =>
    intro n v w s i hm hm4 h h0 hn hk
    obtain ⟨n, rfl⟩ : ∃ q, n = q + 1 := ⟨n - 1, by omega⟩
    show v_T (f_Md_figure_L4b k (f_Md_figure_L4 k n) v w s) _
    unfold f_Md_figure_L4b
    rw [if_neg (by omega), m_look (i := i) (m_R_f h), v_bi_some, m_dig, v_bi_some]
    have hd : g_dig (m_let s i) = g_dig (g i) := by rw [h.1.2 i, g_dig_ab]
    rw [hd]
    have e : g_num g (m + 1) i v = if g_dig (g i) = true then g_num g m (i + 1) (v * 10 + g i - 48) else (i, v) := rfl
    by_cases hc : g_dig (g i) = true
    · rw [if_pos hc, if_neg (by decide), m_look (i := i) (m_R_f h), v_bi_some]
      have hs := g_dig_sp hc
      have hi : i < 60 := g_lt (m_g_ltr h.1) (by omega)
      obtain ⟨h1, h2⟩ := m_adv h hi
      rw [m_raw h.1 (i := i) (by omega), Int32.mul_comm 10 v]
      rw [e, if_pos hc] at hk
      have hw : (w + 1).toInt = w.toInt + 1 := v_inc (by omega)
      exact v_Tlet (ih n _ _ _ (i + 1) (by omega) (by omega) h1 (v_F_tr h0 h2) (by omega) (fun t w2 a b c => hk t w2 a b (by omega)))
    · rw [if_neg hc, if_pos (by decide)]
      rw [e, if_neg hc] at hk
      exact hk s w h h0 rfl
/-- a number, or what is none of all -/
theorem m_figure {g : Nat → Int32} {s : vS} {pre : List (Int32 × Int32)} {i o : Nat} {l : List (Int32 × Int32)} (h : m_R g s pre (i, l) o) (hb : pre.length + l.length ≤ i) : v_T (f_Md_figure s) (fun _ t => m_Q g pre o s i (pre.length + l.length) (if g_dig (g i) = true then (if g_dig (g (g_num g 4 i 0).1) = true then ((false, ((g_num g 4 i 0).1, l)) : gR) else (true, ((g_num g 4 i 0).1, l ++ [(1, (g_num g 4 i 0).2)]))) else (false, (i, l))) t) := by
  have hi60 : i ≤ 60 := h.2.2.1
  have hlt := m_g_ltr h.1
  have hnum := g_num_ok hlt 4 i 0 hi60 (by decide) (by decide) (by decide)
  unfold f_Md_figure
  refine m_numL (g := g) (s0 := s) (pre := pre) (l := l) (o := o) 4 4096 0 0 s i (by decide) (by decide) h v_F_rf (by decide) (fun t w2 h1 h2 h3 => ?_)
  have hw0 : (0 : Int32).toInt = 0 := rfl
  have hbad : ∀ i2, i ≤ i2 → i2 ≤ 60 → m_R g t pre (i2, l) o → ∀ (q : gR), q.1 = false → q.2.1 = i2 → ∀ v : Int32, v_T (v_bi (f_Md_faulty t) (fun _ s5 => v_bi (f_Md_addStep 1 v s5) (fun _ s6 => some ((), s6)))) (fun _ u => m_Q g pre o s i (pre.length + l.length) q u) := by
    intro i2 hi2 hi3 hR q hq1 hq2 v
    refine v_Tbi (m_faulty hR (i0 := i + 1) (L0 := pre.length + l.length) (by omega)) ?_
    rintro _ u ⟨h4, h5⟩
    refine v_Tbi (m_addf h5 (by omega)) ?_
    rintro _ w ⟨h6, h7⟩
    exact v_Tret ⟨v_F_tr h2 (v_F_tr h4 h6), Or.inr ⟨hq1, by rw [hq2]; exact m_Rf_up h7 (by omega)⟩⟩
  by_cases hd : g_dig (g i) = true
  · have hgt := g_num_gt hlt hi60 hd
    rw [if_pos hd, if_neg (by omega), m_look (i := (g_num g 4 i 0).1) (m_R_f h1), v_bi_some, m_dig, v_bi_some]
    have hd2 : g_dig (m_let t (g_num g 4 i 0).1) = g_dig (g (g_num g 4 i 0).1) := by rw [h1.1.2 (g_num g 4 i 0).1, g_dig_ab]
    rw [hd2]
    by_cases h4 : g_dig (g (g_num g 4 i 0).1) = true
    · rw [if_pos h4, if_pos h4, if_neg (by decide)]
      exact hbad _ (by omega) hnum.2.1 h1 _ rfl rfl _
    · rw [if_neg h4, if_neg h4, if_pos (by decide)]
      refine v_Tbi (m_add h1 (b := 1) (c := (g_num g 4 i 0).2) (by decide) (by omega)) ?_
      rintro _ u ⟨h5, h6⟩
      exact v_Tret ⟨v_F_tr h2 h5, Or.inl ⟨rfl, h6⟩⟩
  · have e : g_num g 4 i 0 = (i, 0) := if_neg hd
    rw [if_neg hd]
    rw [e] at h1 h3 ⊢
    dsimp only at h1 h3 ⊢
    rw [if_pos (by omega)]
    exact hbad i (Nat.le_refl _) hi60 h1 _ rfl rfl _
theorem m_opens_t {g : Nat → Int32} {s : vS} {pre : List (Int32 × Int32)} {i o : Nat} {l : List (Int32 × Int32)} (h : m_R g s pre (i, l) o) (hi : i < 60) (ho : o < 6) : v_T (f_Md_opens s) (fun r t => r = 1 ∧ v_F m_pd s t ∧ m_R g t pre (i + 1, l) (o + 1)) := by
  have h5 := h.2.2.2.2.1
  have h3 := h.2.1
  dsimp only at h3
  unfold f_Md_opens
  rw [if_neg (by omega)]
  obtain ⟨a1, a2⟩ := m_set h (j := 5) (x := s.1 151 5 + 1) (Or.inr rfl) (i2 := i) (o2 := o + 1) (by omega) (by rw [if_neg (by decide)]; exact ⟨by rw [v_inc (by omega)]; omega, rfl⟩)
  obtain ⟨b1, b2⟩ := m_adv a1 hi
  exact v_Tlet (v_Tlet (v_Tret ⟨rfl, v_F_tr a2 b2, b1⟩))
theorem m_opens_f {g : Nat → Int32} {s : vS} {pre : List (Int32 × Int32)} {i o : Nat} {l : List (Int32 × Int32)} (h : m_R g s pre (i, l) o) (ho : o = 6) : v_T (f_Md_opens s) (fun r t => r = 0 ∧ v_F m_pd s t ∧ m_Rf g t i i (pre.length + l.length)) := by
  have h5 := h.2.2.2.2.1
  unfold f_Md_opens
  rw [if_pos (by omega)]
  refine v_Tbi (m_faulty h (i0 := i) (L0 := pre.length + l.length) (by omega)) ?_
  rintro _ t ⟨h1, h2⟩
  exact v_Tret ⟨rfl, h1, h2⟩
theorem m_opb {g : Nat → Int32} {n o : Nat} {po pe : gS → gR} {rec : vS → Option (Unit × vS)} (hn6 : o + n = 6) (ho : n ≠ 0 → m_ok g po (o + 1) rec) (he : n ≠ 0 → m_ok g pe (o + 1) (f_Md_either rec)) (hgo : n ≠ 0 → g_ok po) (hge : n ≠ 0 → g_ok pe) : m_ok g (g_op g n po pe) o (f_Md_operandb rec) := by
  intro s pre i l h hb
  have hf := m_R_f h
  have hi60 : i ≤ 60 := h.2.2.1
  have hlt := m_g_ltr h.1
  have hnm : g_name (m_let s i) = g_name (g i) := by rw [h.1.2 i, g_name_ab]
  have c40 := m_sign h.1 (i := i) (c := 40) (by omega)
  have c33 := m_sign h.1 (i := i) (c := 33) (by omega)
  have c45 := m_sign h.1 (i := i) (c := 45) (by omega)
  -- what comes behind ! or -
  have hsgn : ∀ (c : Int32) (hc : c = 3 ∨ c = 4), n ≠ 0 → i < 60 → ∀ t, m_R g t pre (i + 1, l) (o + 1) → v_F m_pd s t → v_T (v_bi (rec t) (fun _ s7 => v_let (v_w1 s7 151 5 (s7.1 151 5 - (1 : Int32))) (fun s8 => v_bi (f_Md_addStep c 0 s8) (fun _ s10 => some ((), s10))))) (fun _ u => m_Q g pre o s i (pre.length + l.length) (g_th (po (i + 1, l)) (fun t => ((true, (t.1, t.2 ++ [(c, 0)])) : gR))) u) := by
    intro c hc hz hi t ht hF
    refine v_Tbi (ho hz t pre (i + 1) l ht (by omega)) ?_
    rintro _ u ⟨h1, h2⟩
    have hpo := hgo hz (i + 1) l (by omega)
    rcases h2 with ⟨a1, a3⟩ | ⟨a1, a3⟩
    · obtain ⟨b4, d, b5, b6, -⟩ := hpo.2.2 a1
      have hl : (po (i + 1, l)).2.2.length = l.length + d.length := by rw [b5, List.length_append]
      have h60 := hpo.2.1
      have hop := a3.2.2.2.2.1
      rw [show g_th (po (i + 1, l)) (fun t => ((true, (t.1, t.2 ++ [(c, 0)])) : gR)) = (true, ((po (i + 1, l)).2.1, (po (i + 1, l)).2.2 ++ [(c, 0)])) from if_pos a1]
      obtain ⟨c1, c2⟩ := m_set (i := (po (i + 1, l)).2.1) (l := (po (i + 1, l)).2.2) a3 (j := 5) (x := u.1 151 5 - 1) (Or.inr rfl) (i2 := (po (i + 1, l)).2.1) (o2 := o) h60 (by rw [if_neg (by decide)]; exact ⟨by rw [v_sub (y := 1) (show -2147483648 ≤ (u.1 151 5).toInt - 1 by omega) (show (u.1 151 5).toInt - 1 < 2147483648 by omega)]; show (u.1 151 5).toInt - 1 = _; omega, rfl⟩)
      refine v_Tlet (v_Tbi (m_add c1 (b := c) (c := 0) (by rcases hc with rfl | rfl <;> decide) (by omega)) ?_)
      rintro _ w ⟨d1, d2⟩
      exact v_Tret ⟨v_F_tr hF (v_F_tr h1 (v_F_tr c2 d1)), Or.inl ⟨rfl, d2⟩⟩
    · rw [show g_th (po (i + 1, l)) (fun t => ((true, (t.1, t.2 ++ [(c, 0)])) : gR)) = po (i + 1, l) from if_neg (by rw [a1]; decide)]
      obtain ⟨c1, c2⟩ := m_Rf5 a3 (u.1 151 5 - 1)
      refine v_Tlet (v_Tbi (m_addf c1 (by omega)) ?_)
      rintro _ w ⟨d1, d2⟩
      exact v_Tret ⟨v_F_tr hF (v_F_tr h1 (v_F_tr c2 d1)), Or.inr ⟨a1, m_Rf_up d2 (by omega)⟩⟩
  unfold f_Md_operandb g_op
  rw [m_look (i := i) hf, v_bi_some, m_nameOf, v_bi_some, hnm]
  try dsimp only
  by_cases h1 : (g_name (g i)).toInt < 0
  · rw [if_pos h1, if_pos h1]
    by_cases h33 : (g i).toInt = 33
    · have hi : i < 60 := g_lt hlt (by omega)
      rw [if_pos (c33.mpr h33), if_pos (Or.inl h33)]
      by_cases hz : n = 0
      · rw [if_pos hz]
        refine v_Tbi (m_opens_f h (by omega)) ?_
        rintro _ t ⟨rfl, h2, h3⟩
        rw [if_pos (by decide)]
        exact v_Tret ⟨h2, Or.inr ⟨rfl, h3⟩⟩
      · rw [if_neg hz]
        refine v_Tbi (m_opens_t h hi (by omega)) ?_
        rintro _ t ⟨rfl, h2, h3⟩
        rw [if_neg (by decide)]
        have h4 := hsgn 3 (Or.inl rfl) hz hi t h3 h2
        simp only [if_pos (c33.mpr h33), if_pos h33]
        exact h4
    · rw [if_neg (fun z => h33 (c33.mp z))]
      by_cases h45 : (g i).toInt = 45
      · have hi : i < 60 := g_lt hlt (by omega)
        rw [if_pos (c45.mpr h45), if_pos (Or.inr h45)]
        by_cases hz : n = 0
        · rw [if_pos hz]
          refine v_Tbi (m_opens_f h (by omega)) ?_
          rintro _ t ⟨rfl, h2, h3⟩
          rw [if_pos (by decide)]
          exact v_Tret ⟨h2, Or.inr ⟨rfl, h3⟩⟩
        · rw [if_neg hz]
          refine v_Tbi (m_opens_t h hi (by omega)) ?_
          rintro _ t ⟨rfl, h2, h3⟩
          rw [if_neg (by decide)]
          have h4 := hsgn 4 (Or.inr rfl) hz hi t h3 h2
          simp only [if_neg (fun z => h33 (c33.mp z)), if_neg h33]
          exact h4
      · rw [if_neg (fun z => h45 (c45.mp z)), if_neg (show ¬((g i).toInt = 33 ∨ (g i).toInt = 45) from fun z => z.elim h33 h45)]
        by_cases h40 : (g i).toInt = 40
        · have hi : i < 60 := g_lt hlt (by omega)
          rw [if_pos (c40.mpr h40), if_pos h40]
          by_cases hz : n = 0
          · rw [if_pos hz]
            refine v_Tbi (m_opens_f h (by omega)) ?_
            rintro _ t ⟨rfl, h2, h3⟩
            rw [if_pos (by decide)]
            exact v_Tret ⟨h2, Or.inr ⟨rfl, h3⟩⟩
          · rw [if_neg hz]
            refine v_Tbi (m_opens_t h hi (by omega)) ?_
            rintro _ t ⟨rfl, h2, h3⟩
            rw [if_neg (by decide)]
            refine v_Tbi (he hz t pre (i + 1) l h3 (by omega)) ?_
            rintro _ u ⟨h4, h5⟩
            have hpo := hge hz (i + 1) l (by omega)
            have hF := v_F_tr h2 h4
            rcases h5 with ⟨a1, a3⟩ | ⟨a1, a3⟩
            · obtain ⟨b4, d, b5, b6, -⟩ := hpo.2.2 a1
              have h60 := hpo.2.1
              have hl : (pe (i + 1, l)).2.2.length = l.length + d.length := by rw [b5, List.length_append]
              rw [show g_th (pe (i + 1, l)) (fun t => if (g t.1).toInt = 41 then ((true, (t.1 + 1, t.2)) : gR) else (false, t)) = (if (g (pe (i + 1, l)).2.1).toInt = 41 then ((true, ((pe (i + 1, l)).2.1 + 1, (pe (i + 1, l)).2.2)) : gR) else (false, (pe (i + 1, l)).2)) from if_pos a1]
              generalize (pe (i + 1, l)).2 = st at a3 b4 b6 h60 hl ⊢
              obtain ⟨j, m⟩ := st
              dsimp only at b4 b6 h60 hl ⊢
              have hop := a3.2.2.2.2.1
              rw [if_pos a3.2.2.2.1, m_look (i := j) (m_R_f a3), v_bi_some]
              by_cases h11 : (g j).toInt = 41
              · have hj : j < 60 := g_lt hlt (by omega)
                obtain ⟨c1, c2⟩ := m_adv a3 hj
                have hop2 := c1.2.2.2.2.1
                obtain ⟨d1, d2⟩ := m_set c1 (j := 5) (x := (v_w1 u 151 3 (u.1 151 3 + 1)).1 151 5 - 1) (Or.inr rfl) (i2 := j + 1) (o2 := o) (by omega) (by rw [if_neg (by decide)]; exact ⟨by rw [v_sub (y := 1) (show -2147483648 ≤ ((v_w1 u 151 3 (u.1 151 3 + 1)).1 151 5).toInt - 1 by omega) (show ((v_w1 u 151 3 (u.1 151 3 + 1)).1 151 5).toInt - 1 < 2147483648 by omega)]; show ((v_w1 u 151 3 (u.1 151 3 + 1)).1 151 5).toInt - 1 = _; omega, rfl⟩)
                rw [if_pos ((m_sign a3.1 (by omega)).mpr h11), if_pos h11]
                exact v_Tlet (v_Tlet (v_Tret ⟨v_F_tr hF (v_F_tr c2 d2), Or.inl ⟨rfl, d1⟩⟩))
              · rw [if_neg (fun z => h11 ((m_sign a3.1 (by omega)).mp z)), if_neg h11]
                refine v_Tbi (m_faulty a3 (i0 := i) (L0 := pre.length + l.length) (by omega)) ?_
                rintro _ w ⟨c1, c2⟩
                exact v_Tret ⟨v_F_tr hF c1, Or.inr ⟨rfl, c2⟩⟩
            · rw [show g_th (pe (i + 1, l)) (fun t => if (g t.1).toInt = 41 then ((true, (t.1 + 1, t.2)) : gR) else (false, t)) = pe (i + 1, l) from if_neg (by rw [a1]; decide)]
              rw [if_neg (by rw [a3.2.2.2.1]; omega)]
              exact v_Tret ⟨hF, Or.inr ⟨a1, m_Rf_up a3 (by omega)⟩⟩
        · rw [if_neg (fun z => h40 (c40.mp z)), if_neg h40]
          refine v_Tbi (m_figure h hb) ?_
          intro _ t ht
          exact v_Tret ht
  · rw [if_neg h1, if_neg h1, m_nameOf, v_bi_some]
    try rw [hnm]
    have hi : i < 60 := g_lt hlt (by have := g_name_ne h1; omega)
    refine v_Tbi (m_add h (b := 2) (c := g_name (g i)) (by decide) (by omega)) ?_
    rintro _ t ⟨h2, h3⟩
    obtain ⟨h4, h5⟩ := m_adv h3 hi
    exact v_Tlet (v_Tret ⟨v_F_tr h2 h5, Or.inl ⟨rfl, h4⟩⟩)
theorem m_eiE {g : Nat → Int32} (hg : g_ltr g) {P : gS → gR} {rec : vS → Option (Unit × vS)} {o : Nat} (hF : m_ok g P o rec) (hP : g_ok P) : m_ok g (g_ei g P) o (f_Md_either rec) :=
  m_ei (m_bo (m_cm (m_su (m_pr hF hP) (g_pr_ok hg hP)) (g_su_ok hg hP)) (g_cm_ok hg hP)) (g_bo_ok hg hP)
theorem m_operand {g : Nat → Int32} (hg : g_ltr g) : ∀ (n f o : Nat), o + n = 6 → n < f → m_ok g (g_O g n) o (f_Md_operand f) := by
  intro n
  induction n with
  | zero =>
    intro f o h6 hf
    obtain ⟨f, rfl⟩ : ∃ q, f = q + 1 := ⟨f - 1, by omega⟩
    exact m_opb (rec := f_Md_operand f) h6 (fun h => absurd rfl h) (fun h => absurd rfl h) (fun h => absurd rfl h) (fun h => absurd rfl h)
  | succ n ih =>
    intro f o h6 hf
    obtain ⟨f, rfl⟩ : ∃ q, f = q + 1 := ⟨f - 1, by omega⟩
    have h1 := ih f (o + 1) (by omega) (by omega)
    exact m_opb (rec := f_Md_operand f) h6 (fun _ => h1) (fun _ => m_eiE hg h1 (g_O_ok hg n)) (fun _ => g_O_ok hg n) (fun _ => g_ei_ok hg (g_O_ok hg n))
theorem m_E {g : Nat → Int32} (hg : g_ltr g) : m_ok g (g_E g) 0 (f_Md_either (f_Md_operand 64)) := m_eiE hg (m_operand hg 6 64 0 (by decide) (by decide)) (g_O_ok hg 6)
