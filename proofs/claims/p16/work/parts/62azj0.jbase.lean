/-! cases by their numbers, the first of some, how many, bits: for both sides -/
def pl_a (c : Int32) : Int32 := (c / (10 : Int32)) - (c / (10 : Int32)) / (10 : Int32) * (10 : Int32)
def pl_b (c : Int32) : Int32 := c - c / (10 : Int32) * (10 : Int32)
def pl_V (c : Int32) : Int32 := (((c / (100 : Int32)) * (25 : Int32)) + (pl_a c * (5 : Int32))) + pl_b c
def pl_C (c : Int32) : Bool := decide (0 ≤ c.toInt) && (decide (c.toInt ≤ 444) && (decide ((pl_a c).toInt ≤ 4) && decide ((pl_b c).toInt ≤ 4)))
theorem pl_iff {c : Int32} : pl_C c = true ↔ (0 ≤ c.toInt ∧ c.toInt ≤ 444 ∧ (pl_a c).toInt ≤ 4 ∧ (pl_b c).toInt ≤ 4) := by
  unfold pl_C
  rw [Bool.and_eq_true, Bool.and_eq_true, Bool.and_eq_true, decide_eq_true_iff, decide_eq_true_iff, decide_eq_true_iff, decide_eq_true_iff]
set_option maxRecDepth 100000 in
theorem pl_0 : (List.range 445).all (fun n => !pl_C (Int32.ofNat n) || (decide (0 ≤ (pl_V (Int32.ofNat n)).toInt) && decide ((pl_V (Int32.ofNat n)).toInt < 125))) = true := by decide +kernel
theorem pl_in {c : Int32} (h : pl_C c = true) : ∃ i : Nat, i < 125 ∧ (pl_V c).toInt = i := by
  have h1 := pl_iff.mp h
  have e := v_of h1.1
  have h2 := List.all_eq_true.mp pl_0 c.toInt.toNat (List.mem_range.mpr (by omega))
  rw [← e, h] at h2
  have h3 : (decide (0 ≤ (pl_V c).toInt) && decide ((pl_V c).toInt < 125)) = true := h2
  obtain ⟨h4, h5⟩ := Bool.and_eq_true_iff.mp h3
  have h4 := of_decide_eq_true h4
  have h5 := of_decide_eq_true h5
  exact ⟨(pl_V c).toInt.toNat, by omega, by omega⟩
theorem y_placeOf (c : Int32) (s : vS) : f_Cs_placeOf c s = some (if pl_C c = true then pl_V c else -1, s) := by
  unfold f_Cs_placeOf
  by_cases h0 : c.toInt < 0
  · rw [if_pos h0, if_neg (fun z => by have := pl_iff.mp z; omega)]
  · rw [if_neg h0]
    by_cases h1 : 444 < c.toInt
    · rw [if_pos h1, if_neg (fun z => by have := pl_iff.mp z; omega)]
    · rw [if_neg h1]
      by_cases h2 : 4 < (pl_a c).toInt
      · rw [if_neg (show ¬ pl_C c = true from fun z => by have := pl_iff.mp z; omega)]
        exact if_pos h2
      · refine (if_neg h2).trans ?_
        by_cases h3 : (pl_b c).toInt ≤ 4
        · rw [if_pos (show pl_C c = true from pl_iff.mpr ⟨by omega, by omega, by omega, h3⟩)]
          exact if_pos h3
        · rw [if_neg (show ¬ pl_C c = true from fun z => by have := pl_iff.mp z; omega)]
          exact if_neg h3
theorem y_isCase (c : Int32) (s : vS) : f_Md_isCase c s = some (v_b (pl_C c = true), s) := by
  unfold f_Md_isCase
  rw [z_in, v_bi_some, v_bif]
  by_cases h0 : (0 : Int32).toInt ≤ c.toInt ∧ c.toInt ≤ (444 : Int32).toInt
  · have h0' : 0 ≤ c.toInt ∧ c.toInt ≤ 444 := h0
    rw [if_pos h0]
    by_cases h2 : 4 < (pl_a c).toInt
    · rw [v_b_neg (show ¬ pl_C c = true from fun z => by have := pl_iff.mp z; omega)]
      exact if_pos h2
    · refine (if_neg h2).trans ?_
      by_cases h3 : 4 < (pl_b c).toInt
      · rw [v_b_neg (show ¬ pl_C c = true from fun z => by have := pl_iff.mp z; omega)]
        exact if_pos h3
      · rw [v_b_pos (show pl_C c = true from pl_iff.mpr ⟨by omega, by omega, by omega, by omega⟩)]
        exact if_neg h3
  · rw [if_neg h0, v_b_neg (show ¬ pl_C c = true from fun z => h0 (by have := pl_iff.mp z; exact ⟨this.1, this.2.1⟩))]
theorem y_caseOf (c : Int32) (s : vS) : f_Md_caseOf c s = some (pl_V c, s) := rfl
/-- a case's number -/
def nu_C (c : Int32) : Int32 := ((e_dig c 0 * (100 : Int32)) + (e_dig c 1 * (10 : Int32))) + e_dig c 2
def nu_M (c : Int32) : Int32 := (((100 : Int32) * (c / (25 : Int32))) + ((10 : Int32) * ((c / (5 : Int32)) - (c / (5 : Int32)) / (5 : Int32) * (5 : Int32)))) + (c - c / (5 : Int32) * (5 : Int32))
set_option maxRecDepth 100000 in
theorem nu_0 : (List.range 125).all (fun n => decide (nu_M (Int32.ofNat n) = nu_C (Int32.ofNat n))) = true := by decide +kernel
theorem nu_eq {i : Nat} (h : i < 125) : nu_M (Int32.ofNat i) = nu_C (Int32.ofNat i) := of_decide_eq_true (List.all_eq_true.mp nu_0 i (List.mem_range.mpr h))
theorem y_numberOf (c : Int32) (s : vS) : f_Cs_numberOf c s = some (nu_C c, s) := by
  unfold f_Cs_numberOf
  rw [y_digit, v_bi_some, y_digit, v_bi_some, y_digit, v_bi_some]
  rfl
theorem y_numberOfM (c : Int32) (s : vS) : f_Md_numberOf c s = some (nu_M c, s) := rfl
/-- the first of those from lo on -/
def Lst (p : Nat → Bool) (lo : Nat) (o : Option Nat) : Prop := match o with
  | none => ∀ i, lo ≤ i → i < 125 → p i = false
  | some i => lo ≤ i ∧ i < 125 ∧ p i = true ∧ ∀ j, lo ≤ j → j < i → p j = false
theorem Lst_eq {p q : Nat → Bool} (hpq : ∀ i, i < 125 → p i = q i) {o o2 : Option Nat} (h : Lst p 0 o) (h2 : Lst q 0 o2) : o = o2 := by
  cases o with
  | none =>
    cases o2 with
    | none => rfl
    | some j =>
      have h1 := h j (Nat.zero_le _) h2.2.1
      rw [hpq j h2.2.1, h2.2.2.1] at h1
      cases h1
  | some i =>
    cases o2 with
    | none =>
      have h1 := h2 i (Nat.zero_le _) h.2.1
      rw [← hpq i h.2.1, h.2.2.1] at h1
      cases h1
    | some j =>
      rcases Nat.lt_trichotomy i j with z | z | z
      · have h1 := h2.2.2.2 i (Nat.zero_le _) z
        rw [← hpq i h.2.1, h.2.2.1] at h1
        cases h1
      · rw [z]
      · have h1 := h.2.2.2 j (Nat.zero_le _) z
        rw [hpq j h2.2.1, h2.2.2.1] at h1
        cases h1
theorem Lst_no {p : Nat → Bool} {i : Nat} {o : Option Nat} (h : Lst p (i + 1) o) (hp : p i = false) : Lst p i o := by
  cases o with
  | none =>
    intro j h1 h2
    by_cases e : j = i
    · rw [e]; exact hp
    · exact h j (by omega) h2
  | some k =>
    refine ⟨by have := h.1; omega, h.2.1, h.2.2.1, fun j h1 h2 => ?_⟩
    by_cases e : j = i
    · rw [e]; exact hp
    · exact h.2.2.2 j (by omega) h2
theorem Lst_yes {p : Nat → Bool} {i : Nat} (hi : i < 125) (hp : p i = true) : Lst p i (some i) := ⟨Nat.le_refl _, hi, hp, fun j h1 h2 => by omega⟩
theorem Lst_end {p : Nat → Bool} : Lst p 125 none := fun i h1 h2 => by omega
def va_L (o : Option Nat) : Int32 := match o with
  | none => -2
  | some i => nu_C (Int32.ofNat i)
theorem yC_firstL {s : vS} {a : Nat} : ∀ (n : Nat) (v : Int32), 0 ≤ v.toInt → v.toInt ≤ 125 → (∀ j, j < v.toInt.toNat → lb s a j = false) → v_P (f_Cs_first_L2 a (fun s1 => some ((-2), s1)) n v s) (fun r u => u = s ∧ ∃ o, Lst (lb s a) 0 o ∧ r = va_L o)
  | 0, _, _, _, _ => v_Pnone
  | n + 1, v, h0, h1, h => by
    show v_P (f_Cs_first_L2b a (fun s1 => some ((-2), s1)) (f_Cs_first_L2 a (fun s1 => some ((-2), s1)) n) v s) _
    unfold f_Cs_first_L2b
    by_cases c : 125 ≤ v.toInt
    · rw [if_pos c]
      exact v_Pret ⟨rfl, none, fun i _ hi => h i (by omega), rfl⟩
    · rw [if_neg c]
      obtain ⟨i, hi⟩ : ∃ i : Nat, v.toInt = i := ⟨v.toInt.toNat, by omega⟩
      have e1 := v_inc (x := v) (by omega)
      have hvo : v = Int32.ofNat i := by rw [v_of h0, hi]; rfl
      rw [lb_has hi (by omega), v_bi_some, b01]
      by_cases cp : lb s a i = true
      · rw [if_pos cp, y_numberOf, v_bi_some]
        refine v_Pret ⟨rfl, some i, ⟨Nat.zero_le _, by omega, cp, fun j _ hj => h j (by omega)⟩, ?_⟩
        rw [hvo]
        rfl
      · rw [if_neg cp]
        refine yC_firstL n (v + 1) (by omega) (by omega) (fun j hj => ?_)
        by_cases hji : j = i
        · rw [hji]
          cases hx : lb s a i with
          | true => exact absurd hx cp
          | false => rfl
        · exact h j (by omega)
theorem yC_first (a : Nat) (s : vS) : v_P (f_Cs_first a s) (fun r u => u = s ∧ ∃ o, Lst (lb s a) 0 o ∧ r = va_L o) := by
  unfold f_Cs_first
  exact yC_firstL 4096 0 (by decide) (by decide) (fun j hj => absurd hj (Nat.not_lt_zero j))
theorem cnt_S {p : Nat → Bool} {n : Nat} : cnt p (n + 1) = cnt p n + (if p n = true then 1 else 0) := rfl
/-- where the reference's search for the first stands, from above -/
def Dn (p : Nat → Bool) (lo : Nat) (w m : Int32) : Prop := (∃ o, Lst p lo o ∧ w = va_L o) ∧ m.toInt + cnt p lo = cnt p 125
theorem Dn_end {p : Nat → Bool} : Dn p 125 (-2) 0 := ⟨⟨none, Lst_end, rfl⟩, by show (0 : Int) + _ = _; omega⟩
theorem Dn_no {p : Nat → Bool} {i : Nat} {w m : Int32} (h : Dn p (i + 1) w m) (hp : p i = false) : Dn p i w m := by
  obtain ⟨⟨o, h1, h2⟩, h3⟩ := h
  rw [cnt_S, if_neg (by rw [hp]; decide)] at h3
  exact ⟨⟨o, Lst_no h1 hp, h2⟩, h3⟩
theorem Dn_yes {p : Nat → Bool} {i : Nat} {w m : Int32} (hi : i < 125) (h : Dn p (i + 1) w m) (hp : p i = true) : Dn p i (nu_M (Int32.ofNat i)) (m + 1) := by
  obtain ⟨⟨o, h1, h2⟩, h3⟩ := h
  rw [cnt_S, if_pos hp] at h3
  have hc := cnt_le (p := p) 125
  have e := v_inc (x := m) (by omega)
  exact ⟨⟨some i, Lst_yes hi hp, nu_eq hi⟩, by rw [e]; omega⟩
theorem Dn_fin {p q : Nat → Bool} (hpq : ∀ i, i < 125 → q i = p i) {w m : Int32} (h : Dn p 0 w m) {o : Option Nat} (ho : Lst q 0 o) : w = va_L o ∧ m = Int32.ofNat (cnt q 125) := by
  obtain ⟨⟨o2, h1, h2⟩, h3⟩ := h
  have hc := cnt_le (p := p) 125
  refine ⟨by rw [h2, Lst_eq hpq ho h1], ?_⟩
  have h4 : m.toInt + ((0 : Nat) : Int) = cnt p 125 := h3
  have h5 : cnt q 125 = cnt p 125 := cnt_eq 125 hpq
  rw [h5, v_of (x := m) (by omega), show m.toInt.toNat = cnt p 125 by omega]
/-- bits put together -/
def bb (q : Nat → Bool) : Nat → Int32
  | 0 => 0
  | n + 1 => if q n = true then bb q n ||| ((1 : Int32) <<< (Int32.ofNat n &&& 31)) else bb q n
theorem bb_eq {q q2 : Nat → Bool} : ∀ n, (∀ k, k < n → q k = q2 k) → bb q n = bb q2 n
  | 0, _ => rfl
  | n + 1, h => by
    unfold bb
    rw [bb_eq n (fun k hk => h k (by omega)), h n (by omega)]
/-! both have heard -/
def ok_C (u : vS) : Prop := mC u ∧ j_num u ∧ tlC u (nC u)
def ok_M (w : vS) : Prop := (0 ≤ (w.1 151 14).toInt ∧ (w.1 151 14).toInt ≤ 10) ∧ okM w (nM w)
theorem jv_C {s t u : vS} (h : j_R s t) (hR : v_RI t) {AC : Nat → List gL} (hAC : j_AC s t AC) (hC : hv_C s u) : ok_C u := by
  have hm := hR.1.1
  have em : s.1 8 1 = t.1 151 14 := h.1
  obtain ⟨⟨hF, hsp, hcur⟩, -, -⟩ := hC
  have hx : ∀ a j, (a = 8 ∧ j ≤ 3) ∨ (23 ≤ a ∧ a ≤ 72 ∧ a % 5 = 3 ∧ j ≤ 5) → u.1 a j = s.1 a j := fun a j q => (hF a j (fun z => by unfold hx_S hx_R at z; omega)).1
  have e8 : u.1 8 1 = t.1 151 14 := (hx _ _ (by omega)).trans em
  refine ⟨by unfold mC; rw [e8]; exact hm, fun k hk => by rw [hx _ _ (by omega)]; exact h.2.2.1 k hk, fun k hk q q1 q2 => ?_⟩
  unfold nC at hk
  rw [e8] at hk
  rw [jv_sp h hm.2 hAC hF hcur (k := k) (by omega) q q2, decide_eq_false (by omega), Bool.false_and]
theorem jv_S {s t w : vS} (h : j_R s t) (hR : v_RI t) {AC : Nat → List gL} (hS : hv_S s t w AC) : ok_M w := by
  have hm := hR.1.1
  have em : s.1 8 1 = t.1 151 14 := h.1
  obtain ⟨⟨wE, -⟩, w31, wV, -⟩ := hS
  have e14 : w.1 151 14 = t.1 151 14 := wE _ _ (by omega)
  refine ⟨by rw [e14]; exact hm, w31, fun k hk => ?_⟩
  unfold nM at hk
  rw [e14] at hk
  have h3 := h.2.2.2.1 k (by rw [em]; omega) (by omega)
  have h4 := (h.2.2.2.2.2.2.2.2.2.1 k (by rw [em]; omega) (by omega)).1.1 rfl
  rw [h3.1] at h4
  refine ⟨by rw [wE 160 k (by omega)]; exact h4, ?_⟩
  rw [(wV k (by omega)).2, v_oi (by have := cnt_le (p := spM t k (AC k)) 125; omega)]
  omega
def hd_C (s u : vS) : Prop := hv_C s u ∧ ok_C u
def hd_M (s t w : vS) (AC : Nat → List gL) : Prop := hv_S s t w AC ∧ ok_M w
theorem jd_C {s t : vS} (h : j_R s t) (hR : v_RI t) (hK : v_KQ s) (h2 : j_2 s) {AC : Nat → List gL} (hAC : j_AC s t AC) : v_P (f_Ct_hear s) (fun _ u => hd_C s u) := v_Pm2 (jv_hear h hR hK h2.1 (j_wr_wr h2.2.1)) (fun _ _ hu => ⟨hu, jv_C h hR hAC hu⟩)
theorem jd_M {s t : vS} (h : j_R s t) (hR : v_RI t) {AC : Nat → List gL} (hAC : j_AC s t AC) : v_P (f_Md_findAll t) (fun _ w => hd_M s t w AC) := v_Pm2 (jv_find h hR hAC) (fun _ _ hw => ⟨hw, jv_S h hR hw⟩)
/-- what stands beside the laws -/
theorem jd_V {s t u w : vS} (h : j_R s t) (hR : v_RI t) {AC : Nat → List gL} (hAC : j_AC s t AC) (hC : hd_C s u) (hM : hd_M s t w AC) : j_V u w ∧ u.1 8 2 = w.1 151 18 ∧ (0 ≤ (u.1 8 2).toInt ∧ (u.1 8 2).toInt ≤ 3) := by
  refine ⟨jv_mk h hR hAC hC.1 hM.1, ?_⟩
  rw [(hC.1.1.1 8 2 (by unfold hx_S hx_R; omega)).1, hM.1.1.1 151 18 (by omega), h.2.2.2.2.1.1]
  refine ⟨rfl, ?_⟩
  rw [← h.2.2.2.2.1.1]
  exact h.2.2.2.2.2.2.2.2.2.2.1.1.2.2.2.1 rfl
/-- the shape of all answers: from the relation -/
def j_An {α : Type} (s t : vS) (o1 o2 : Option (α × vS)) : Prop := ∀ r1 s1 r2 t1, o1 = some (r1, s1) → o2 = some (r2, t1) → r1 = r2
theorem j_AnI {α : Type} {s t : vS} {o1 o2 : Option (α × vS)} {P Q : α → vS → Prop} (h1 : v_P o1 P) (h2 : v_P o2 Q) (h : ∀ r1 u r2 w, P r1 u → Q r2 w → r1 = r2) : j_An s t o1 o2 := fun r1 s1 r2 t1 e1 e2 => h r1 s1 r2 t1 (h1 r1 s1 e1) (h2 r2 t1 e2)
theorem v_Pos {α : Type} {o : Option Nat} {a : Nat} {x : Option (α × vS)} {k : Nat → Option (α × vS)} {Q : α → vS → Prop} (ho : o = some a) (h : v_P (k a) Q) : v_P (v_on o x k) Q := by rw [ho]; exact h
theorem v_Pno {α : Type} {o : Option Nat} {x : Option (α × vS)} {k : Nat → Option (α × vS)} {Q : α → vS → Prop} (ho : o = none) (h : v_P x Q) : v_P (v_on o x k) Q := by rw [ho]; exact h
theorem v_ofn {v : Int32} {q : Nat} (h : v.toInt = q) : v = Int32.ofNat q := by
  rw [v_of (x := v) (by omega), h]
  rfl
