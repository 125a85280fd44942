/-! both sides have heard: what each sees of the laws is alike -/
def j_V (u w : vS) : Prop := (u.1 8 1 = w.1 151 14 ∧ 0 ≤ (u.1 8 1).toInt ∧ (u.1 8 1).toInt ≤ 10) ∧ j_num u ∧ tlC u (nC u) ∧ okM w (nM w) ∧ (∀ k, k < nC u → aC u k = aM w k) ∧ (∀ k i, k < nC u → i < 125 → pC u i k = pM w i k) ∧ (∀ k, k < nC u → (w.1 172 k).toInt.toNat = cnt (lb u (27 + 5 * k)) 125) ∧ ∀ k, k < nC u → u.1 (23 + 5 * k) 1 = w.1 160 k ∧ u.1 (23 + 5 * k) 2 = w.1 161 k
theorem jv_n {u w : vS} (h : j_V u w) : nM w = nC u := by
  unfold nM nC
  rw [h.1.1]
theorem jv_m {u w : vS} (h : j_V u w) : 0 ≤ (w.1 151 14).toInt ∧ (w.1 151 14).toInt ≤ 10 := by
  rw [← h.1.1]
  exact h.1.2
theorem jv_ho {u w : vS} (h : j_V u w) {i : Nat} (hi : i < 125) (r : Int) : hoR w i r = hoC u i r := by
  unfold hoR hoC
  rw [jv_n h]
  obtain ⟨h1, h2, h3, h4, h5, h6, h7, h8⟩ := h
  refine (hol_eq (nC u) (fun k hk => ⟨h5 k hk, h6 k i hk hi⟩) (fun a b ha hb => ?_)).symm
  unfold ahC ahM
  rw [(h8 a ha).1, (h8 b hb).1, (h8 a ha).2, (h8 b hb).2, h7 a ha, h7 b hb]
theorem jv_vd {u w : vS} (h : j_V u w) {i : Nat} (hi : i < 125) (r : Int) : vdM w i r = vdC u i r := by
  unfold vdM vdC
  rw [jv_ho h hi]
  cases hh : hoC u i r with
  | none => rfl
  | some k => exact ((h.2.2.2.2.2.2.2 k (hol_lt _ _ hh)).2).symm
def mC (s : vS) : Prop := 0 ≤ (s.1 8 1).toInt ∧ (s.1 8 1).toInt ≤ 10
/-- the reference finds all -/
def e_E6 (s t : vS) : Prop := (∀ a j, ¬ (a = 158 ∨ a = 159 ∨ (170 ≤ a ∧ a ≤ 172) ∨ (a = 151 ∧ 30 ≤ j ∧ j ≤ 31)) → t.1 a j = s.1 a j) ∧ t.2 = s.2
theorem y_findAll (s : vS) (hm : 0 ≤ (s.1 151 14).toInt ∧ (s.1 151 14).toInt ≤ 10) (hd : ∀ k, k < (s.1 151 14).toInt.toNat → 0 ≤ (dM s k).toInt ∧ (dM s k).toInt ≤ 99) {AC : Nat → List gL} (hAC : ∀ q : Nat, (q : Int) < (s.1 151 14).toInt → m_text s q (AC q) ∧ g_tok (AC q)) : v_P (f_Md_findAll s) (fun _ w => e_E6 s w ∧ (w.1 151 31).toInt = -1 ∧ (∀ q : Nat, (q : Int) < (s.1 151 14).toInt → hvM w q (spM s q (AC q))) ∧ st_F (s.1 151 14).toInt.toNat (fun m => xThM s m ∧ bt 0 m = false) (dM s) (stM s) (fun m => ¬ (w.1 170 m).toInt = 0)) := by
  unfold f_Md_findAll
  refine v_Pbi (y_findSpeaks s hm hAC) ?_
  rintro _ u ⟨⟨u1, u2⟩, uV⟩
  have e14 : u.1 151 14 = s.1 151 14 := u1 _ _ (by decide)
  have hD : dM u = dM s := funext fun k => u1 160 k (by omega)
  have hS : stM u = stM s := funext fun k => u1 162 k (by omega)
  refine v_Pbi (y_findStands3 0 u (by rw [e14]; exact hm) (by rw [e14, hD]; exact hd)) ?_
  rintro _ w ⟨⟨w1, w2, wF⟩, w31⟩
  refine v_Pret ⟨⟨fun a j q => (w1 a j (by omega)).trans (u1 a j (by omega)), w2.trans u2⟩, w31, fun q hq => ?_, ?_⟩
  · obtain ⟨a1, a2⟩ := uV q hq
    exact ⟨fun i hi => (w1 171 _ (by omega)).trans (a1 i hi), (w1 172 _ (by omega)).trans a2⟩
  · rw [e14, hD, hS] at wF
    have e19 : u.1 151 19 = s.1 151 19 := u1 _ _ (by decide)
    have hx : ∀ m : Int, xThM u m = xThM s m := fun m => by
      show x_th (u.1 151 14).toInt (u.1 151 19).toInt (dM u) m = x_th (s.1 151 14).toInt (s.1 151 19).toInt (dM s) m
      rw [e14, e19, hD]
    intro m hm2
    have h1 := wF m hm2
    dsimp only at h1
    rw [hx] at h1
    exact h1
theorem j_mnw {s t u : vS} (h : j_word s t) (h8 : s.1 8 3 = t.1 151 19) (hu : ∀ a j, a = 10 ∨ a = 11 ∨ (a = 8 ∧ j = 3) → u.1 a j = s.1 a j) {w : Nat} (hw : w < 3) : e_mn u w (u.1 8 3) = e_mnM t w := by
  obtain ⟨h1, h2⟩ := h w hw
  unfold e_mn e_mnM
  rw [hu 10 w (by omega), hu 11 w (by omega), hu 8 3 (by omega), h8, h1]
  by_cases c : (t.1 163 w).toInt < 0
  · rw [if_pos c, if_pos c]
  · rw [if_neg c, if_neg c]
    have h3 := h2 (by rw [h1]; omega)
    rw [h3]
    by_cases c2 : (t.1 164 w).toInt ≤ (t.1 151 19).toInt
    · rw [if_pos c2, if_neg (by omega)]
    · rw [if_neg c2, if_pos (by omega)]
/-- the texts, on both sides -/
def j_AC (s t : vS) (AC : Nat → List gL) : Prop := ∀ q : Nat, (q : Int) < (t.1 151 14).toInt → m_text t q (AC q) ∧ c_text s q (AC q)
theorem j_ACex {s t : vS} (h : j_R s t) (hm : (t.1 151 14).toInt ≤ 10) : ∃ AC, j_AC s t AC := by
  have h1 : ∀ q : Nat, ∃ acc : List gL, (q : Int) < (t.1 151 14).toInt → m_text t q acc ∧ c_text s q acc := fun q => by
    by_cases c : (q : Int) < (t.1 151 14).toInt
    · obtain ⟨acc, a1, a2⟩ := h.2.2.2.2.2.1 q (by rw [h.1]; exact c) (by omega)
      exact ⟨acc, fun _ => ⟨a1, a2⟩⟩
    · exact ⟨[], fun z => absurd z c⟩
  exact ⟨fun q => Classical.choose (h1 q), fun q => Classical.choose_spec (h1 q)⟩
def hv_C (s u : vS) : Prop := (v_F hx_S s u ∧ j_sp u ∧ ∀ k : Nat, (k : Int) < (s.1 8 1).toInt → h_cur u k) ∧ st_F (s.1 8 1).toInt.toNat (fun m => xTh s m) (dC s) (stK s) (fun m => bt (u.1 8 4) m = true) ∧ (∀ m, m < 32 → bt (u.1 8 4) m = true → m < (s.1 8 1).toInt.toNat) ∧ st_S (dC u) u (s.1 8 1).toInt.toNat
def hv_S (s : vS) (t w : vS) (AC : Nat → List gL) : Prop := e_E6 t w ∧ (w.1 151 31).toInt = -1 ∧ (∀ q : Nat, (q : Int) < (t.1 151 14).toInt → hvM w q (spM t q (AC q))) ∧ st_F (t.1 151 14).toInt.toNat (fun m => xThM t m ∧ bt 0 m = false) (dM t) (stM t) (fun m => ¬ (w.1 170 m).toInt = 0)
/-- the class's speech is the reference's -/
theorem jv_sp {s t u : vS} (h : j_R s t) (hm : (t.1 151 14).toInt ≤ 10) {AC : Nat → List gL} (hAC : j_AC s t AC) (hF : v_F hx_S s u) (hcur : ∀ k : Nat, (k : Int) < (s.1 8 1).toInt → h_cur u k) {k : Nat} (hk : (k : Int) < (t.1 151 14).toInt) : ∀ i, i < 128 → lb u (27 + 5 * k) i = (decide (i < 125) && spM t k (AC k) i) := by
  have hx : ∀ a j, (a = 8 ∧ j ≤ 3) ∨ a = 10 ∨ a = 11 ∨ (23 ≤ a ∧ a ≤ 72 ∧ ((a % 5 = 3 ∧ j ≤ 5) ∨ a % 5 = 4 ∨ a % 5 = 0)) → u.1 a j = s.1 a j := fun a j q => (hF a j (fun z => by unfold hx_S hx_R at z; omega)).1
  obtain ⟨a1, a2⟩ := hAC k hk
  have em : s.1 8 1 = t.1 151 14 := h.1
  have e8 : s.1 8 3 = t.1 151 19 := h.2.2.2.2.1.2
  have hc := hcur k (by rw [em]; exact hk) (AC k) (c_textE a2 (hx _ _ (by omega)) (fun j => hx _ _ (by omega))) a1.2.2.2.2.2
  have hw : ∀ w, w < 3 → e_mn u w (u.1 8 3) = e_mnM t w := fun w hw => j_mnw h.2.2.2.2.2.2.1 e8 (fun a j q => hx a j (by omega)) hw
  have hd : u.1 (23 + 5 * k) 1 = t.1 160 k := (hx _ _ (by omega)).trans (h.2.2.2.1 k (by rw [em]; exact hk) (by omega)).1
  have hn : u.1 (23 + 5 * k) 0 = Int32.ofNat k := by
    rw [hx _ _ (by omega)]
    have h3 := h.2.2.1 k (by omega)
    rw [v_of (x := s.1 (23 + 5 * k) 0) (by omega), h3]
    rfl
  rw [hw 0 (by decide), hw 1 (by decide), hw 2 (by decide), hd, hn, hx 8 3 (by omega), e8] at hc
  exact hc
theorem jv_mk {s t u w : vS} (h : j_R s t) (hR : v_RI t) {AC : Nat → List gL} (hAC : j_AC s t AC) (hC : hv_C s u) (hS : hv_S s t w AC) : j_V u w := by
  have hm := hR.1.1
  have em : s.1 8 1 = t.1 151 14 := h.1
  obtain ⟨⟨hF, hsp, hcur⟩, hst, hlt⟩ := hC
  obtain ⟨⟨wE, w2⟩, w31, wV, wF⟩ := hS
  have hx : ∀ a j, (a = 8 ∧ j ≤ 3) ∨ a = 10 ∨ a = 11 ∨ (23 ≤ a ∧ a ≤ 72 ∧ ((a % 5 = 3 ∧ j ≤ 5) ∨ a % 5 = 4 ∨ a % 5 = 0)) → u.1 a j = s.1 a j := fun a j q => (hF a j (fun z => by unfold hx_S hx_R at z; omega)).1
  have e8 : u.1 8 1 = t.1 151 14 := (hx _ _ (by omega)).trans em
  have e14 : w.1 151 14 = t.1 151 14 := wE _ _ (by omega)
  have hn : nC u = (t.1 151 14).toInt.toNat := by unfold nC; rw [e8]
  have hnM : nM w = (t.1 151 14).toInt.toNat := by unfold nM; rw [e14]
  have hspk : ∀ k, k < nC u → ∀ i, i < 128 → lb u (27 + 5 * k) i = (decide (i < 125) && spM t k (AC k) i) := fun k hk => jv_sp h hm.2 hAC hF hcur (by rw [hn] at hk; omega)
  refine ⟨⟨by rw [e8, e14], by rw [e8]; exact hm⟩, fun k hk => by rw [hx _ _ (by omega)]; exact h.2.2.1 k hk, fun k hk q q1 q2 => ?_, ⟨w31, fun k hk => ?_⟩, fun k hk => ?_, fun k i hk hi => ?_, fun k hk => ?_, fun k hk => ?_⟩
  · rw [hspk k hk q q2, decide_eq_false (by omega), Bool.false_and]
  · rw [hnM] at hk
    have h3 := h.2.2.2.1 k (by rw [em]; omega) (by omega)
    have h4 := (h.2.2.2.2.2.2.2.2.2.1 k (by rw [em]; omega) (by omega)).1.1 rfl
    rw [h3.1] at h4
    refine ⟨by rw [wE 160 k (by omega)]; exact h4, ?_⟩
    rw [(wV k (by omega)).2, v_oi (by have := cnt_le (p := spM t k (AC k)) 125; omega)]
    omega
  · rw [hn] at hk
    have h5 := j_stEq h hR hst wF k (by omega)
    unfold aC aM
    cases hb : bt (u.1 8 4) k with
    | true => exact (decide_eq_true (h5.mp hb)).symm
    | false => exact (decide_eq_false (fun z => by have := h5.mpr z; rw [hb] at this; cases this)).symm
  · have h6 := hspk k hk i (by omega)
    rw [hn] at hk
    have h7 := (wV k (by omega)).1 i hi
    unfold pC pM
    rw [h6, h7, decide_eq_true hi, Bool.true_and]
    cases spM t k (AC k) i <;> rfl
  · have h6 := hspk k hk
    rw [hn] at hk
    rw [(wV k (by omega)).2, v_oi (by have := cnt_le (p := spM t k (AC k)) 125; omega)]
    show cnt (spM t k (AC k)) 125 = _
    exact cnt_eq 125 (fun i hi => by rw [h6 i (by omega), decide_eq_true hi, Bool.true_and])
  · rw [hn] at hk
    have h3 := h.2.2.2.1 k (by rw [em]; omega) (by omega)
    rw [hx _ _ (by omega), hx _ _ (by omega), wE 160 k (by omega), wE 161 k (by omega)]
    exact ⟨h3.1, h3.2.1⟩
/-- what hearing needs, of the relation -/
theorem jv_hear {s t : vS} (h : j_R s t) (hR : v_RI t) (hK : v_KQ s) (hsp : j_sp s) (hwr : h_wr s) : v_P (f_Ct_hear s) (fun _ u => hv_C s u) := by
  have hm := hR.1.1
  have em : s.1 8 1 = t.1 151 14 := h.1
  refine y_hearV s hK h.2.2.1 (h.2.2.2.2.2.2.2.2.2.2.1.2.2.2.2.2 rfl).1 (fun k hk => (h.2.2.2.2.2.2.2.2.2.1 k (by omega) (by rw [em] at hk; omega)).2.2.2.2.1 rfl) (fun k hk hk9 => ?_) hwr hsp
  obtain ⟨acc, a1, a2⟩ := h.2.2.2.2.2.1 k hk hk9
  exact ⟨acc, a2, a1.2.2.2.2.2⟩
theorem jv_find {s t : vS} (h : j_R s t) (hR : v_RI t) {AC : Nat → List gL} (hAC : j_AC s t AC) : v_P (f_Md_findAll t) (fun _ w => hv_S s t w AC) := by
  have hm := hR.1.1
  have em : s.1 8 1 = t.1 151 14 := h.1
  refine y_findAll t hm (fun k hk => ?_) (fun q hq => ⟨(hAC q hq).1, (hAC q hq).2.2.2.2⟩)
  have h3 := h.2.2.2.1 k (by rw [em]; omega) (by omega)
  have h4 := (h.2.2.2.2.2.2.2.2.2.1 k (by rw [em]; omega) (by omega)).1.1 rfl
  rw [h3.1] at h4
  exact h4
