/-! which law holds: one meaning for both sides -/
def oP (dx dy : Int) (i j : Nat) : Bool := decide (dx < dy) || (decide (dx = dy) && decide (i < j))
theorem oP_iff {dx dy : Int} {i j : Nat} : oP dx dy i j = true ↔ dx < dy ∨ (dx = dy ∧ i < j) := by
  unfold oP
  rw [Bool.or_eq_true, Bool.and_eq_true, decide_eq_true_iff, decide_eq_true_iff, decide_eq_true_iff]
def hdn (y : Int32) : Nat := if y.toInt = 1 then 0 else if y.toInt = 0 then 1 else 2
theorem hdn_le (y : Int32) : hdn y ≤ 2 := by
  unfold hdn
  by_cases h : y.toInt = 1
  · rw [if_pos h]; decide
  · rw [if_neg h]
    by_cases h2 : y.toInt = 0
    · rw [if_pos h2]; decide
    · rw [if_neg h2]; decide
/-- first by a number, then by age -/
def tP (p q : Nat) (o : Bool) : Bool := decide (p < q) || (decide (p = q) && o)
theorem tP_iff {p q : Nat} {o : Bool} : tP p q o = true ↔ p < q ∨ (p = q ∧ o = true) := by
  unfold tP
  rw [Bool.or_eq_true, Bool.and_eq_true, decide_eq_true_iff, decide_eq_true_iff]
/-- the one of number i goes ahead of the one of number j by rule r -/
def ahP (r : Int) (dx dy : Int) (i j : Nat) (sx sy : Int32) (zx zy : Nat) : Bool := if r = 1 then oP dy dx j i else if r = 2 then tP zx zy (oP dx dy i j) else if r = 3 then tP (hdn sx) (hdn sy) (oP dx dy i j) else oP dx dy i j
theorem yC_older {s : vS} {x y i j : Nat} (hx : (s.1 x 0).toInt = i) (hy : (s.1 y 0).toInt = j) : v_P (f_Lw_isOlderThan x y s) (fun r u => u = s ∧ (¬ r.toInt = 0 ↔ oP (s.1 x 1).toInt (s.1 y 1).toInt i j = true)) := by
  unfold f_Lw_isOlderThan
  rw [oP_iff]
  by_cases h1 : (s.1 x 1).toInt < (s.1 y 1).toInt
  · rw [if_pos h1]
    exact v_Pret ⟨rfl, fun _ => Or.inl h1, fun _ => by decide⟩
  · rw [if_neg h1]
    by_cases h2 : (s.1 x 1).toInt = (s.1 y 1).toInt
    · rw [if_pos h2]
      by_cases h3 : (s.1 y 0).toInt ≤ (s.1 x 0).toInt
      · rw [if_pos h3]
        exact v_Pret ⟨rfl, fun q => absurd rfl q, fun q => by omega⟩
      · rw [if_neg h3]
        exact v_Pret ⟨rfl, fun _ => Or.inr ⟨h2, by omega⟩, fun _ => by decide⟩
    · rw [if_neg h2]
      exact v_Pret ⟨rfl, fun q => absurd rfl q, fun q => by omega⟩
theorem y_hard (x : Nat) (s : vS) : f_Lw_hardness x s = some (Int32.ofNat (hdn (s.1 x 2)), s) := by
  unfold f_Lw_hardness hdn
  by_cases h : (s.1 x 2).toInt = 1
  · rw [if_pos h, if_pos h]; rfl
  · rw [if_neg h, if_neg h]
    by_cases h2 : (s.1 x 2).toInt = 0
    · rw [if_pos h2, if_pos h2]; rfl
    · rw [if_neg h2, if_neg h2]; rfl
theorem y_kind (b : Int32) (s : vS) : f_Md_kindness b s = some (Int32.ofNat (hdn b), s) := by
  unfold f_Md_kindness hdn
  by_cases h : b.toInt = 1
  · rw [if_pos h, if_pos h]; rfl
  · rw [if_neg h, if_neg h]
    by_cases h2 : b.toInt = 0
    · rw [if_pos h2, if_pos h2]; rfl
    · rw [if_neg h2, if_neg h2]; rfl
theorem yC_end {s : vS} {x y i j : Nat} (hx : (s.1 x 0).toInt = i) (hy : (s.1 y 0).toInt = j) : v_P (v_bi (f_Lw_isOlderThan x y s) (fun r2 s2 => (if r2.toInt = 0 then some ((0 : Int32), s2) else some (1, s2)))) (fun r u => u = s ∧ (¬ r.toInt = 0 ↔ oP (s.1 x 1).toInt (s.1 y 1).toInt i j = true)) := by
  refine v_Pbi (yC_older hx hy) ?_
  rintro r u ⟨rfl, h⟩
  by_cases hz : r.toInt = 0
  · rw [if_pos hz]
    exact v_Pret ⟨rfl, fun q => absurd rfl q, fun q => absurd hz (h.mpr q)⟩
  · rw [if_neg hz]
    exact v_Pret ⟨rfl, fun _ => h.mp hz, fun _ => by decide⟩
theorem yC_tl {s : vS} {x y i j p q : Nat} {v : Int32} (hv : v.toInt = (p : Int) - q) (hx : (s.1 x 0).toInt = i) (hy : (s.1 y 0).toInt = j) : v_P (if v.toInt < 0 then some ((1 : Int32), s) else (if v.toInt = 0 then v_bi (f_Lw_isOlderThan x y s) (fun r2 s2 => (if r2.toInt = 0 then some ((0 : Int32), s2) else some (1, s2))) else some (0, s))) (fun r u => u = s ∧ (¬ r.toInt = 0 ↔ tP p q (oP (s.1 x 1).toInt (s.1 y 1).toInt i j) = true)) := by
  rw [tP_iff]
  by_cases h1 : v.toInt < 0
  · rw [if_pos h1]
    exact v_Pret ⟨rfl, fun _ => Or.inl (by omega), fun _ => by decide⟩
  · rw [if_neg h1]
    by_cases h2 : v.toInt = 0
    · rw [if_pos h2]
      refine v_Pm2 (yC_end hx hy) (fun r u h => ⟨h.1, fun z => Or.inr ⟨by omega, h.2.mp z⟩, fun z => ?_⟩)
      rcases z with z | z
      · omega
      · exact h.2.mpr z.2
    · rw [if_neg h2]
      exact v_Pret ⟨rfl, fun z => absurd rfl z, fun z => by omega⟩
theorem yC_ahead {s : vS} {x y i j : Nat} (hx : (s.1 x 0).toInt = i) (hy : (s.1 y 0).toInt = j) (tx : ∀ q, 125 ≤ q → q < 128 → lb s (x + 4) q = false) (ty : ∀ q, 125 ≤ q → q < 128 → lb s (y + 4) q = false) (c : Int32) : v_P (f_Lw_goesAhead x y c s) (fun r u => u = s ∧ (¬ r.toInt = 0 ↔ ahP c.toInt (s.1 x 1).toInt (s.1 y 1).toInt i j (s.1 x 2) (s.1 y 2) (cnt (lb s (x + 4)) 125) (cnt (lb s (y + 4)) 125) = true)) := by
  unfold f_Lw_goesAhead ahP
  by_cases h1 : c.toInt = 1
  · rw [if_pos h1, if_pos h1]
    refine v_Pbi (yC_older hy hx) ?_
    rintro r u ⟨rfl, h⟩
    exact v_Pif (fun _ => v_Pret ⟨rfl, h⟩) (fun _ => v_Pnone)
  · rw [if_neg h1, if_neg h1]
    by_cases h2 : c.toInt = 2
    · rw [if_pos h2, if_pos h2, lb_size tx, v_bi_some, lb_size ty, v_bi_some]
      have p1 := cnt_le (p := lb s (x + 4)) 125
      have p2 := cnt_le (p := lb s (y + 4)) 125
      have o1 := v_oi (n := cnt (lb s (x + 4)) 125) (by omega)
      have o2 := v_oi (n := cnt (lb s (y + 4)) 125) (by omega)
      exact yC_tl (by rw [v_sub (by omega) (by omega), o1, o2]) hx hy
    · rw [if_neg h2, if_neg h2]
      by_cases h3 : c.toInt = 3
      · rw [if_pos h3, if_pos h3, y_hard, v_bi_some, y_hard, v_bi_some]
        have p1 := hdn_le (s.1 x 2)
        have p2 := hdn_le (s.1 y 2)
        have o1 := v_oi (n := hdn (s.1 x 2)) (by omega)
        have o2 := v_oi (n := hdn (s.1 y 2)) (by omega)
        exact yC_tl (by rw [v_sub (by omega) (by omega), o1, o2]) hx hy
      · rw [if_neg h3, if_neg h3]
        exact yC_end hx hy
theorem yM_older {t : vS} (h31 : (t.1 151 31).toInt = -1) {b c : Int32} {i j : Nat} (hb : b.toInt = i) (hc : c.toInt = j) (hi : i ≤ 10) (hj : j ≤ 10) (di : 0 ≤ (t.1 160 i).toInt ∧ (t.1 160 i).toInt ≤ 99) (dj : 0 ≤ (t.1 160 j).toInt ∧ (t.1 160 j).toInt ≤ 99) : v_P (f_Md_isOlder b c t) (fun r u => u = t ∧ (¬ r.toInt = 0 ↔ oP (t.1 160 i).toInt (t.1 160 j).toInt i j = true)) := by
  have e1 : b.toInt.toNat = i := by omega
  have e2 : c.toInt.toNat = j := by omega
  refine v_Pm2 (y_isOlderM b c t h31 (by omega) (by omega) (fun k hk => ?_)) (fun r u h => ⟨h.1, ?_⟩)
  · rw [e1, e2] at hk
    rcases hk with rfl | rfl
    · exact di
    · exact dj
  · rw [e1, e2] at h
    rw [oP_iff]
    exact h.2
theorem yM_end {t : vS} (h31 : (t.1 151 31).toInt = -1) {b c : Int32} {i j : Nat} (hb : b.toInt = i) (hc : c.toInt = j) (hi : i ≤ 10) (hj : j ≤ 10) (di : 0 ≤ (t.1 160 i).toInt ∧ (t.1 160 i).toInt ≤ 99) (dj : 0 ≤ (t.1 160 j).toInt ∧ (t.1 160 j).toInt ≤ 99) : v_P (v_bi (f_Md_isOlder b c t) (fun r2 s2 => (if r2.toInt = 0 then some ((0 : Int32), s2) else some (1, s2)))) (fun r u => u = t ∧ (¬ r.toInt = 0 ↔ oP (t.1 160 i).toInt (t.1 160 j).toInt i j = true)) := by
  refine v_Pbi (yM_older h31 hb hc hi hj di dj) ?_
  rintro r u ⟨rfl, h⟩
  by_cases hz : r.toInt = 0
  · rw [if_pos hz]
    exact v_Pret ⟨rfl, fun q => absurd rfl q, fun q => absurd hz (h.mpr q)⟩
  · rw [if_neg hz]
    exact v_Pret ⟨rfl, fun _ => h.mp hz, fun _ => by decide⟩
theorem yM_tl {t : vS} (h31 : (t.1 151 31).toInt = -1) {b c x y : Int32} {i j p q : Nat} (hx : x.toInt = p) (hy : y.toInt = q) (hb : b.toInt = i) (hc : c.toInt = j) (hi : i ≤ 10) (hj : j ≤ 10) (di : 0 ≤ (t.1 160 i).toInt ∧ (t.1 160 i).toInt ≤ 99) (dj : 0 ≤ (t.1 160 j).toInt ∧ (t.1 160 j).toInt ≤ 99) : v_P (if x.toInt < y.toInt then some ((1 : Int32), t) else (if x.toInt = y.toInt then v_bi (f_Md_isOlder b c t) (fun r2 s2 => (if r2.toInt = 0 then some ((0 : Int32), s2) else some (1, s2))) else some (0, t))) (fun r u => u = t ∧ (¬ r.toInt = 0 ↔ tP p q (oP (t.1 160 i).toInt (t.1 160 j).toInt i j) = true)) := by
  rw [tP_iff]
  by_cases h1 : x.toInt < y.toInt
  · rw [if_pos h1]
    exact v_Pret ⟨rfl, fun _ => Or.inl (by omega), fun _ => by decide⟩
  · rw [if_neg h1]
    by_cases h2 : x.toInt = y.toInt
    · rw [if_pos h2]
      refine v_Pm2 (yM_end h31 hb hc hi hj di dj) (fun r u h => ⟨h.1, fun z => Or.inr ⟨by omega, h.2.mp z⟩, fun z => ?_⟩)
      rcases z with z | z
      · omega
      · exact h.2.mpr z.2
    · rw [if_neg h2]
      exact v_Pret ⟨rfl, fun z => absurd rfl z, fun z => by omega⟩
theorem yM_ahead {t : vS} (h31 : (t.1 151 31).toInt = -1) {b c : Int32} {i j p q : Nat} (hb : b.toInt = i) (hc : c.toInt = j) (hi : i ≤ 10) (hj : j ≤ 10) (di : 0 ≤ (t.1 160 i).toInt ∧ (t.1 160 i).toInt ≤ 99) (dj : 0 ≤ (t.1 160 j).toInt ∧ (t.1 160 j).toInt ≤ 99) (zi : (t.1 172 i).toInt = p) (zj : (t.1 172 j).toInt = q) (d : Int32) : v_P (f_Md_isAhead b c d t) (fun r u => u = t ∧ (¬ r.toInt = 0 ↔ ahP d.toInt (t.1 160 i).toInt (t.1 160 j).toInt i j (t.1 161 i) (t.1 161 j) p q = true)) := by
  have eb : b.toNatClampNeg = i := by rw [v_nc]; omega
  have ec : c.toNatClampNeg = j := by rw [v_nc]; omega
  have ib : v_in b 11 := ⟨by omega, by omega⟩
  have ic : v_in c 11 := ⟨by omega, by omega⟩
  unfold f_Md_isAhead ahP
  by_cases h1 : d.toInt = 1
  · rw [if_pos h1, if_pos h1]
    refine v_Pbi (yM_older h31 hc hb hj hi dj di) ?_
    rintro r u ⟨rfl, h⟩
    exact v_Pif (fun _ => v_Pret ⟨rfl, h⟩) (fun _ => v_Pnone)
  · rw [if_neg h1, if_neg h1]
    by_cases h2 : d.toInt = 2
    · rw [if_pos h2, if_pos ib, if_pos h2, if_pos ic, if_pos h2, eb, ec]
      exact yM_tl h31 zi zj hb hc hi hj di dj
    · rw [if_neg h2, if_neg h2]
      by_cases h3 : d.toInt = 3
      · rw [if_pos h3, if_pos ib, y_kind, v_bi_some, if_neg h2, if_pos h3, if_pos ic, y_kind, v_bi_some, if_pos h3, eb, ec, if_neg h2]
        exact yM_tl h31 (v_oi (n := hdn (t.1 161 i)) (by have := hdn_le (t.1 161 i); omega)) (v_oi (n := hdn (t.1 161 j)) (by have := hdn_le (t.1 161 j); omega)) hb hc hi hj di dj
      · rw [if_neg h3, if_neg h2, if_neg h3, if_neg h3]
        exact yM_end h31 hb hc hi hj di dj
/-! the holder -/
def hol (A P : Nat → Bool) (ah : Nat → Nat → Bool) : Nat → Option Nat
  | 0 => none
  | k + 1 => match hol A P ah k with
    | none => if (A k && P k) = true then some k else none
    | some b => if (A k && P k && ah k b) = true then some k else some b
theorem hol_lt {A P : Nat → Bool} {ah : Nat → Nat → Bool} : ∀ (n b : Nat), hol A P ah n = some b → b < n
  | 0, b, h => by cases h
  | k + 1, b, h => by
    unfold hol at h
    cases hk : hol A P ah k with
    | none =>
      rw [hk] at h
      dsimp only at h
      by_cases c : (A k && P k) = true
      · rw [if_pos c] at h; have := Option.some.inj h; omega
      · rw [if_neg c] at h; cases h
    | some x =>
      rw [hk] at h
      dsimp only at h
      have hx := hol_lt k x hk
      by_cases c : (A k && P k && ah k x) = true
      · rw [if_pos c] at h; have := Option.some.inj h; omega
      · rw [if_neg c] at h; have := Option.some.inj h; omega
theorem hol_eq {A P A2 P2 : Nat → Bool} {ah ah2 : Nat → Nat → Bool} : ∀ n, (∀ k, k < n → A k = A2 k ∧ P k = P2 k) → (∀ a b, a < n → b < n → ah a b = ah2 a b) → hol A P ah n = hol A2 P2 ah2 n
  | 0, _, _ => rfl
  | k + 1, h, h2 => by
    have ih := hol_eq (A := A) (P := P) (A2 := A2) (P2 := P2) (ah := ah) (ah2 := ah2) k (fun i hi => h i (by omega)) (fun a b ha hb => h2 a b (by omega) (by omega))
    unfold hol
    rw [ih, (h k (by omega)).1, (h k (by omega)).2]
    cases hk : hol A2 P2 ah2 k with
    | none => rfl
    | some b =>
      dsimp only
      have := hol_lt k b hk
      rw [h2 k b (by omega) (by omega)]
theorem hol_in {A P : Nat → Bool} {ah : Nat → Nat → Bool} : ∀ (n b : Nat), hol A P ah n = some b → A b = true ∧ P b = true
  | 0, b, h => by cases h
  | k + 1, b, h => by
    unfold hol at h
    cases hk : hol A P ah k with
    | none =>
      rw [hk] at h
      dsimp only at h
      by_cases c : (A k && P k) = true
      · rw [if_pos c] at h
        rw [← Option.some.inj h]
        exact Bool.and_eq_true_iff.mp c
      · rw [if_neg c] at h; cases h
    | some x =>
      rw [hk] at h
      dsimp only at h
      by_cases c : (A k && P k && ah k x) = true
      · rw [if_pos c] at h
        rw [← Option.some.inj h]
        exact Bool.and_eq_true_iff.mp (Bool.and_eq_true_iff.mp c).1
      · rw [if_neg c] at h
        rw [← Option.some.inj h]
        exact hol_in k x hk
/-- the class's side of it -/
def aC (s : vS) (k : Nat) : Bool := bt (s.1 8 4) k
def pC (s : vS) (i k : Nat) : Bool := lb s (27 + 5 * k) i
def ahC (s : vS) (r : Int) (a b : Nat) : Bool := ahP r (s.1 (23 + 5 * a) 1).toInt (s.1 (23 + 5 * b) 1).toInt a b (s.1 (23 + 5 * a) 2) (s.1 (23 + 5 * b) 2) (cnt (lb s (27 + 5 * a)) 125) (cnt (lb s (27 + 5 * b)) 125)
def tlC (s : vS) (n : Nat) : Prop := ∀ k, k < n → ∀ q, 125 ≤ q → q < 128 → lb s (27 + 5 * k) q = false
def adC (k : Nat) : Nat := 23 + 5 * k
theorem y_isSt {s : vS} {b : Int32} {q : Nat} (hb : b.toInt = q) (hq : (q : Int) < (s.1 8 1).toInt) (h10 : (s.1 8 1).toInt ≤ 10) : f_Ct_isStanding b s = some (if aC s q = true then 1 else 0, s) := by
  have hbo : b = Int32.ofNat q := by rw [v_of (x := b) (by omega), hb]; rfl
  have hg := b_get (x := s.1 8 4) (n := q) (by omega)
  rw [← hbo] at hg
  unfold f_Ct_isStanding aC
  rw [jz_knows, v_bi_some, v_bif, if_pos (show 0 ≤ b.toInt ∧ b.toInt < (s.1 8 1).toInt from ⟨by omega, by omega⟩)]
  by_cases hz : (((s.1 8 4) >>> (b &&& 31)) &&& (1 : Int32)).toInt = 0
  · rw [if_pos hz, hg.mp hz]; rfl
  · rw [if_neg hz]
    cases hy : bt (s.1 8 4) q with
    | true => rfl
    | false => exact absurd (hg.mpr hy) hz
theorem b01 {p : Bool} {β : Type} {X Y : β} : (if (if p = true then (1 : Int32) else 0).toInt = 0 then X else Y) = if p = true then Y else X := by
  cases p <;> rfl
theorem yC_holL {s : vS} {N : Nat} (hN : (s.1 8 1).toInt = N) (hN10 : N ≤ 10) (hn : j_num s) (ht : tlC s N) {p1 p2 : Int32} {i : Nat} (hi : p1.toInt = i) (hi2 : i < 125) {α : Type} {k : Option Nat → vS → Option ((Option Nat) × vS)} {Q : Option Nat → vS → Prop} (hk : v_P (k ((hol (aC s) (pC s i) (ahC s p2.toInt) N).map adC) s) Q) : ∀ (n : Nat) (w : Option Nat) (v : Int32), 0 ≤ v.toInt → v.toInt ≤ N → w = (hol (aC s) (pC s i) (ahC s p2.toInt) v.toInt.toNat).map adC → v_P (f_Ct_holder_L5 p1 p2 k n w v s) Q
  | 0, _, _, _, _, _ => v_Pnone
  | n + 1, w, v, h0, h1, hw => by
    show v_P (f_Ct_holder_L5b p1 p2 k (f_Ct_holder_L5 p1 p2 k n) w v s) Q
    unfold f_Ct_holder_L5b
    by_cases c : (s.1 8 1).toInt ≤ v.toInt
    · rw [if_pos c, hw, show v.toInt.toNat = N by omega]
      exact hk
    · rw [if_neg c]
      obtain ⟨q, hq⟩ : ∃ q : Nat, v.toInt = q := ⟨v.toInt.toNat, by omega⟩
      have e1 := v_inc (x := v) (by omega)
      have en : v.toNatClampNeg = q := by rw [v_nc]; omega
      have hn1 : (v + 1).toInt.toNat = q + 1 := by omega
      have hn0 : v.toInt.toNat = q := by omega
      rw [hn0] at hw
      have hgo : ∀ w2, w2 = (hol (aC s) (pC s i) (ahC s p2.toInt) (q + 1)).map adC → v_P (f_Ct_holder_L5 p1 p2 k n w2 (v + 1) s) Q := fun w2 h2 => yC_holL (α := α) hN hN10 hn ht hi hi2 hk n w2 (v + 1) (by omega) (by omega) (by rw [hn1]; exact h2)
      rw [jz_at v s ⟨h0, by omega⟩, v_bi_some, en]
      refine v_Pif (fun _ => ?_) (fun _ => v_Pnone)
      rw [y_isSt hq (by omega) (by omega), v_bi_some, b01]
      rw [show 23 + 5 * q + 4 = 27 + 5 * q by omega]
      have hs : hol (aC s) (pC s i) (ahC s p2.toInt) (q + 1) = (match hol (aC s) (pC s i) (ahC s p2.toInt) q with
        | none => if (aC s q && pC s i q) = true then some q else none
        | some b => if (aC s q && pC s i q && ahC s p2.toInt q b) = true then some q else some b) := rfl
      by_cases ca : aC s q = true
      · rw [if_pos ca, lb_has hi hi2, v_bi_some, b01]
        have cp0 : pC s i q = lb s (27 + 5 * q) i := rfl
        by_cases cp : lb s (27 + 5 * q) i = true
        · rw [if_pos cp]
          rw [ca, cp0, cp] at hs
          cases hh : hol (aC s) (pC s i) (ahC s p2.toInt) q with
          | none =>
            rw [hh] at hw hs
            rw [hw]
            refine hgo _ ?_
            rw [hs]
            rfl
          | some b =>
            rw [hh] at hw hs
            rw [hw]
            have hb := hol_lt q b hh
            show v_P (if v_kd (adC b) = 4 then _ else none) Q
            refine v_Pif (fun _ => ?_) (fun _ => v_Pnone)
            refine v_Pbi (yC_ahead (s := s) (x := 23 + 5 * q) (y := adC b) (hn q (by omega)) (hn b (by omega)) (by rw [show 23 + 5 * q + 4 = 27 + 5 * q by omega]; exact ht q (by omega)) (by unfold adC; rw [show 23 + 5 * b + 4 = 27 + 5 * b by omega]; exact ht b (by omega)) p2) ?_
            rintro r u ⟨rfl, hr⟩
            have hah : (¬ r.toInt = 0 ↔ ahC u p2.toInt q b = true) := by
              unfold ahC
              unfold adC at hr
              rw [show 23 + 5 * q + 4 = 27 + 5 * q by omega, show 23 + 5 * b + 4 = 27 + 5 * b by omega] at hr
              exact hr
            by_cases hz : r.toInt = 0
            · rw [if_pos hz]
              refine hgo _ ?_
              rw [hs]
              show some (adC b) = Option.map adC (if (true && true && ahC u p2.toInt q b) = true then some q else some b)
              rw [if_neg (show ¬ (true && true && ahC u p2.toInt q b) = true from fun z => absurd hz (hah.mpr z))]
              rfl
            · rw [if_neg hz]
              refine hgo _ ?_
              rw [hs]
              show some (23 + 5 * q) = Option.map adC (if (true && true && ahC u p2.toInt q b) = true then some q else some b)
              rw [if_pos (show (true && true && ahC u p2.toInt q b) = true from hah.mp hz)]
              rfl
        · rw [if_neg cp]
          refine hgo _ ?_
          have cp2 : lb s (27 + 5 * q) i = false := by cases hx : lb s (27 + 5 * q) i with
            | true => exact absurd hx cp
            | false => rfl
          rw [cp0, cp2, Bool.and_false] at hs
          rw [hw, hs]
          cases hol (aC s) (pC s i) (ahC s p2.toInt) q <;> rfl
      · rw [if_neg ca]
        refine hgo _ ?_
        have ca2 : aC s q = false := by cases hx : aC s q with
          | true => exact absurd hx ca
          | false => rfl
        rw [ca2, Bool.false_and] at hs
        rw [hw, hs]
        cases hol (aC s) (pC s i) (ahC s p2.toInt) q <;> rfl
def nC (s : vS) : Nat := (s.1 8 1).toInt.toNat
def hoC (s : vS) (i : Nat) (r : Int) : Option Nat := hol (aC s) (pC s i) (ahC s r) (nC s)
theorem yC_holder {s : vS} (hm : 0 ≤ (s.1 8 1).toInt ∧ (s.1 8 1).toInt ≤ 10) (hn : j_num s) (ht : tlC s (nC s)) {b c : Int32} {i : Nat} (hi : b.toInt = i) (hi2 : i < 125) : v_P (f_Ct_holder b c s) (fun r u => u = s ∧ r = (hoC s i c.toInt).map adC) := by
  unfold f_Ct_holder
  refine yC_holL (α := Unit) (N := nC s) (by unfold nC; omega) (by unfold nC; omega) hn ht hi hi2 ?_ 4096 none 0 (by decide) (by unfold nC; show (0 : Int) ≤ _; omega) rfl
  unfold hoC
  cases hol (aC s) (pC s i) (ahC s c.toInt) (nC s) with
  | none => exact v_Pret ⟨rfl, rfl⟩
  | some x =>
    show v_P (if v_kd (adC x) = 4 then some (some (adC x), s) else none) _
    exact v_Pif (fun _ => v_Pret ⟨rfl, rfl⟩) (fun _ => v_Pnone)
def vdC (s : vS) (i : Nat) (r : Int) : Int32 := match hoC s i r with
  | none => -2
  | some k => s.1 (23 + 5 * k) 2
theorem yC_verdictIn {s : vS} (hm : 0 ≤ (s.1 8 1).toInt ∧ (s.1 8 1).toInt ≤ 10) (hn : j_num s) (ht : tlC s (nC s)) {b c : Int32} {i : Nat} (hi : b.toInt = i) (hi2 : i < 125) : v_P (f_Ct_verdictIn b c s) (fun r u => u = s ∧ r = vdC s i c.toInt) := by
  unfold f_Ct_verdictIn
  refine v_Pbi (yC_holder hm hn ht hi hi2) ?_
  rintro r u ⟨rfl, rfl⟩
  unfold vdC
  cases hoC u i c.toInt with
  | none => exact v_Pret ⟨rfl, rfl⟩
  | some x =>
    show v_P (if v_kd (adC x) = 4 then _ else none) _
    refine v_Pif (fun h4 => ?_) (fun _ => v_Pnone)
    show v_P (v_bi (if v_kd (adC x) = 4 then some (u.1 (adC x) 2, u) else none) (fun r6 s6 => some (r6, s6))) _
    rw [if_pos h4]
    exact v_Pret ⟨rfl, rfl⟩
/-- the reference's side -/
def aM (t : vS) (k : Nat) : Bool := decide (¬ (t.1 170 k).toInt = 0)
def pM (t : vS) (i k : Nat) : Bool := decide (¬ (t.1 171 (125 * k + i)).toInt = 0)
def ahM (t : vS) (r : Int) (a b : Nat) : Bool := ahP r (t.1 160 a).toInt (t.1 160 b).toInt a b (t.1 161 a) (t.1 161 b) (t.1 172 a).toInt.toNat (t.1 172 b).toInt.toNat
def hoM : Option Nat → Int32
  | none => -1
  | some k => Int32.ofNat k
def nM (t : vS) : Nat := (t.1 151 14).toInt.toNat
/-- what the reference's walks need: dates and counts in their bounds, nobody the oldest of all -/
def okM (t : vS) (n : Nat) : Prop := (t.1 151 31).toInt = -1 ∧ ∀ k, k < n → (0 ≤ (t.1 160 k).toInt ∧ (t.1 160 k).toInt ≤ 99) ∧ 0 ≤ (t.1 172 k).toInt
theorem yM_holL {t : vS} {N : Nat} (hN : (t.1 151 14).toInt = N) (hN10 : N ≤ 10) (ho : okM t N) {p1 p2 : Int32} {i : Nat} (hi : p1.toInt = i) (hi2 : i < 125) {k : Int32 → vS → Option (Int32 × vS)} {Q : Int32 → vS → Prop} (hk : v_P (k (hoM (hol (aM t) (pM t i) (ahM t p2.toInt) N)) t) Q) : ∀ (n : Nat) (w v : Int32), 0 ≤ v.toInt → v.toInt ≤ N → w = hoM (hol (aM t) (pM t i) (ahM t p2.toInt) v.toInt.toNat) → v_P (f_Md_holder_L5 p1 p2 k n w v t) Q
  | 0, _, _, _, _, _ => v_Pnone
  | n + 1, w, v, h0, h1, hw => by
    show v_P (f_Md_holder_L5b p1 p2 k (f_Md_holder_L5 p1 p2 k n) w v t) Q
    unfold f_Md_holder_L5b
    by_cases c : (t.1 151 14).toInt ≤ v.toInt
    · rw [if_pos c, hw, show v.toInt.toNat = N by omega]
      exact hk
    · rw [if_neg c]
      obtain ⟨q, hq⟩ : ∃ q : Nat, v.toInt = q := ⟨v.toInt.toNat, by omega⟩
      have e1 := v_inc (x := v) (by omega)
      have en : v.toNatClampNeg = q := by rw [v_nc]; omega
      have hvo : v = Int32.ofNat q := by rw [v_of h0, hq]; rfl
      have hn1 : (v + 1).toInt.toNat = q + 1 := by omega
      have hn0 : v.toInt.toNat = q := by omega
      rw [hn0] at hw
      have hgo : ∀ w2, w2 = hoM (hol (aM t) (pM t i) (ahM t p2.toInt) (q + 1)) → v_P (f_Md_holder_L5 p1 p2 k n w2 (v + 1) t) Q := fun w2 h2 => yM_holL hN hN10 ho hi hi2 hk n w2 (v + 1) (by omega) (by omega) (by rw [hn1]; exact h2)
      have e125 := m_125 (b := v) (v := p1) ⟨by omega, by omega⟩ ⟨by omega, by omega⟩
      have enc : ((125 : Int32) * v + p1).toNatClampNeg = 125 * q + i := by rw [v_nc]; omega
      rw [if_pos (show v_in v 11 from ⟨by omega, by omega⟩), en]
      have hs : hol (aM t) (pM t i) (ahM t p2.toInt) (q + 1) = (match hol (aM t) (pM t i) (ahM t p2.toInt) q with
        | none => if (aM t q && pM t i q) = true then some q else none
        | some b => if (aM t q && pM t i q && ahM t p2.toInt q b) = true then some q else some b) := rfl
      by_cases ca : (t.1 170 q).toInt = 0
      · rw [if_pos ca]
        refine hgo _ ?_
        have ca2 : aM t q = false := decide_eq_false (fun z => z ca)
        rw [ca2, Bool.false_and] at hs
        rw [hw, hs]
        cases hol (aM t) (pM t i) (ahM t p2.toInt) q <;> rfl
      · rw [if_neg ca, if_pos (show v_in ((125 : Int32) * v + p1) 1375 from ⟨by omega, by omega⟩), enc]
        have ca2 : aM t q = true := decide_eq_true ca
        by_cases cp : (t.1 171 (125 * q + i)).toInt = 0
        · rw [if_pos cp]
          refine hgo _ ?_
          have cp2 : pM t i q = false := decide_eq_false (fun z => z cp)
          rw [cp2, Bool.and_false] at hs
          rw [hw, hs]
          cases hol (aM t) (pM t i) (ahM t p2.toInt) q <;> rfl
        · rw [if_neg cp]
          have cp2 : pM t i q = true := decide_eq_true cp
          rw [ca2, cp2] at hs
          cases hh : hol (aM t) (pM t i) (ahM t p2.toInt) q with
          | none =>
            rw [hh] at hw hs
            rw [hw, if_pos (show (hoM none).toInt < 0 by decide)]
            refine hgo _ ?_
            rw [hs, hvo]
            rfl
          | some b =>
            rw [hh] at hw hs
            have hb := hol_lt q b hh
            have hwb : w.toInt = b := by rw [hw]; exact v_oi (by omega)
            rw [if_neg (by omega)]
            have d1 := ho.2 q (by omega)
            have d2 := ho.2 b (by omega)
            refine v_Pbi (yM_ahead ho.1 hq hwb (by omega) (by omega) d1.1 d2.1 (p := (t.1 172 q).toInt.toNat) (q := (t.1 172 b).toInt.toNat) (by omega) (by omega) p2) ?_
            rintro r u ⟨rfl, hr⟩
            have hah : (¬ r.toInt = 0 ↔ ahM u p2.toInt q b = true) := hr
            by_cases hz : r.toInt = 0
            · rw [if_pos hz]
              refine hgo _ ?_
              rw [hs, hw]
              show hoM (some b) = hoM (if (true && true && ahM u p2.toInt q b) = true then some q else some b)
              rw [if_neg (show ¬ (true && true && ahM u p2.toInt q b) = true from fun z => absurd hz (hah.mpr z))]
            · rw [if_neg hz]
              refine hgo _ ?_
              rw [hs, hvo]
              show hoM (some q) = hoM (if (true && true && ahM u p2.toInt q b) = true then some q else some b)
              rw [if_pos (show (true && true && ahM u p2.toInt q b) = true from hah.mp hz)]
def hoR (t : vS) (i : Nat) (r : Int) : Option Nat := hol (aM t) (pM t i) (ahM t r) (nM t)
theorem yM_holder {t : vS} (hm : 0 ≤ (t.1 151 14).toInt ∧ (t.1 151 14).toInt ≤ 10) (ho : okM t (nM t)) {b c : Int32} {i : Nat} (hi : b.toInt = i) (hi2 : i < 125) : v_P (f_Md_holder b c t) (fun r u => u = t ∧ r = hoM (hoR t i c.toInt)) := by
  unfold f_Md_holder
  exact yM_holL (N := nM t) (by unfold nM; omega) (by unfold nM; omega) ho hi hi2 (v_Pret ⟨rfl, rfl⟩) 4096 (-1) 0 (by decide) (by unfold nM; show (0 : Int) ≤ _; omega) rfl
def vdM (t : vS) (i : Nat) (r : Int) : Int32 := match hoR t i r with
  | none => -2
  | some k => t.1 161 k
theorem yM_verdictIn {t : vS} (hm : 0 ≤ (t.1 151 14).toInt ∧ (t.1 151 14).toInt ≤ 10) (ho : okM t (nM t)) {b c : Int32} {i : Nat} (hi : b.toInt = i) (hi2 : i < 125) : v_P (f_Md_verdictIn b c t) (fun r u => u = t ∧ r = vdM t i c.toInt) := by
  unfold f_Md_verdictIn
  refine v_Pbi (yM_holder hm ho hi hi2) ?_
  rintro r u ⟨rfl, rfl⟩
  unfold vdM
  cases hh : hoR u i c.toInt with
  | none =>
    rw [if_neg (show ¬ 0 ≤ (hoM none).toInt by decide)]
    exact v_Pret ⟨rfl, rfl⟩
  | some k =>
    have hk := hol_lt _ _ hh
    have hk2 : k < 10 := by unfold nM at hk; omega
    have e : (hoM (some k)).toInt = k := v_oi (n := k) (by omega)
    rw [if_pos (by omega), if_pos (show v_in (hoM (some k)) 11 from ⟨by omega, by omega⟩), show (hoM (some k)).toNatClampNeg = k by rw [v_nc]; omega]
    exact v_Pret ⟨rfl, rfl⟩
